section
theorem pk_us {f : Nat → Int32} {k : Nat} {x : Int32} : upd f k x k = x := if_pos rfl
theorem pk_un {f : Nat → Int32} {k j : Nat} {x : Int32} (h : j ≠ k) : upd f k x j = f j := if_neg h
theorem pk_sub {a b : Nat} (h : b ≤ a) : nI a - nI b = nI (a - b) := by
  obtain ⟨c, rfl⟩ : ∃ c, a = c + b := ⟨a - b, by omega⟩
  rw [← nI_add, Int32.add_sub_cancel, Nat.add_sub_cancel]
theorem pk_m1 (n : Nat) : nI (n + 1) + (-1) = nI n := by
  rw [← nI_1, Int32.add_assoc, show (1 : Int32) + (-1) = 0 from rfl, Int32.add_zero]
theorem pk_mul (a b : Nat) : nI a * nI b = nI (a * b) := (Int32.ofNat_mul a b).symm
theorem pk_ix (x : Int32) {n : Nat} (hn : n < 2 ^ 31) : x < 0 ∨ nI n ≤ x ∨ ∃ j : Nat, j < n ∧ x = nI j := by
  by_cases h : x < 0
  · exact Or.inl h
  · obtain ⟨j, hj, rfl⟩ := nI_of h
    by_cases h2 : j < n
    · exact Or.inr (Or.inr ⟨j, h2, rfl⟩)
    · exact Or.inr (Or.inl (nI_le (by omega) hj))
theorem pk_le {x y : Int32} {A B : Prop} (a b : Nat) (f : a ≤ b → A) (g : b < a → B) (hx : x = nI a := by rfl) (hy : y = nI b := by rfl) (ha : a < 2 ^ 31 := by omega) (hb : b < 2 ^ 31 := by omega) : (x ≤ y → A) ∧ (¬ x ≤ y → B) := by
  subst hx hy
  rw [nI_leI ha hb]
  exact ⟨f, fun z => g (by omega)⟩
theorem pk_lt {x y : Int32} {A B : Prop} (a b : Nat) (f : a < b → A) (g : b ≤ a → B) (hx : x = nI a := by rfl) (hy : y = nI b := by rfl) (ha : a < 2 ^ 31 := by omega) (hb : b < 2 ^ 31 := by omega) : (x < y → A) ∧ (¬ x < y → B) := by
  subst hx hy
  rw [nI_ltI ha hb]
  exact ⟨f, fun z => g (by omega)⟩
theorem pk_eq {x y : Int32} {A B : Prop} (a b : Nat) (f : a = b → A) (g : a ≠ b → B) (hx : x = nI a := by rfl) (hy : y = nI b := by rfl) (ha : a < 2 ^ 31 := by omega) (hb : b < 2 ^ 31 := by omega) : (x = y → A) ∧ (¬ x = y → B) := by
  subst hx hy
  rw [nI_eq ha hb]
  exact ⟨f, g⟩
theorem pk_in {x : Int32} (n N : Nat) (h : n < N) (hx : x = nI n := by rfl) (hN : N < 2 ^ 31 := by omega) : vp_in x N := by
  subst hx
  exact vp_in_nI h hN
theorem pk_cl {x : Int32} (n : Nat) (hx : x = nI n := by rfl) (h : n < 2 ^ 31 := by omega) : x.toNatClampNeg = n := by
  subst hx
  exact nI_clamp h
theorem pk_tn {n : Nat} (h : n < 2 ^ 32) : (nI n).toBitVec.toNat = n := Nat.mod_eq_of_lt h
theorem pk_and (x : Int32) {m : Int32} (k : Nat) (hm : m.toBitVec.toNat = 2 ^ k - 1) : x &&& m = nI (x.toBitVec.toNat % 2 ^ k) := by
  apply Int32.toBitVec_inj.mp
  apply BitVec.eq_of_toNat_eq
  rw [Int32.toBitVec_and, BitVec.toNat_and, hm, Nat.and_two_pow_sub_one_eq_mod]
  show _ = (BitVec.ofNat 32 _).toNat
  rw [BitVec.toNat_ofNat]
  exact (Nat.mod_eq_of_lt (Nat.lt_of_le_of_lt (Nat.mod_le _ _) x.toBitVec.isLt)).symm
theorem pk_andN {n : Nat} (h : n < 2 ^ 32) {m : Int32} (k : Nat) (hm : m.toBitVec.toNat = 2 ^ k - 1) : nI n &&& m = nI (n % 2 ^ k) := by
  rw [pk_and _ k hm, pk_tn h]
theorem pk_shl (a s : Int32) (k : Nat) (hs : (s.toBitVec.smod 32).toNat = k) : (a <<< s).toBitVec.toNat = a.toBitVec.toNat * 2 ^ k % 2 ^ 32 := by
  show (a.toBitVec <<< (s.toBitVec.smod 32).toNat).toNat = _
  rw [hs, BitVec.toNat_shiftLeft, Nat.shiftLeft_eq]
theorem pk_shlN {n : Nat} (s : Int32) (k : Nat) (hs : (s.toBitVec.smod 32).toNat = k) (h : n * 2 ^ k < 2 ^ 32) : nI n <<< s = nI (n * 2 ^ k) := by
  apply Int32.toBitVec_inj.mp
  apply BitVec.eq_of_toNat_eq
  have hn : n < 2 ^ 32 := Nat.lt_of_le_of_lt (Nat.le_mul_of_pos_right n (Nat.two_pow_pos k)) h
  rw [pk_shl _ _ k hs, pk_tn hn, pk_tn h, Nat.mod_eq_of_lt h]
theorem pk_shr (a s : Int32) (k : Nat) (hs : (s.toBitVec.smod 32).toNat = k) : (a >>> s).toInt = a.toInt >>> k := by
  show (a.toBitVec.sshiftRight (s.toBitVec.smod 32).toNat).toInt = _
  rw [hs, BitVec.toInt_sshiftRight]
  rfl
theorem pk_shrN {n : Nat} (h : n < 2 ^ 31) (s : Int32) (k : Nat) (hs : (s.toBitVec.smod 32).toNat = k) : nI n >>> s = nI (n / 2 ^ k) := by
  apply Int32.toInt_inj.mp
  have h2 : n / 2 ^ k ≤ n := Nat.div_le_self _ _
  rw [pk_shr _ _ k hs, nI_toInt h, nI_toInt (by omega), Int.shiftRight_eq_div_pow]
  rfl
theorem pk_fb (r : Int32) : fits .byte (.int r.toInt8.toInt32) = true := by
  have ⟨a, b⟩ := lg_i2b_range r
  have h1 : (-128 : Int32).toInt = -128 := by decide
  have h2 : (127 : Int32).toInt = 127 := by decide
  simp only [fits, Bool.and_eq_true, decide_eq_true_eq, Int32.le_iff_toInt_le, h1, h2]
  omega
theorem pk_vb (z : Int32) : vp_nar .byte z.toInt8.toInt32 = z.toInt8.toInt32 := by rw [vp_nar_byte]; simp
end
section
/-! G: a machine over the tokens, between the two parsers -/
abbrev gm_I : Type := Nat × Nat × Nat × Nat × Int32
abbrev gm_M : Type := Nat × Int32 × Nat
abbrev gm_K (α : Sort _) := Nat → List gm_I → Nat → Nat → Bool → List gm_M → Option (Nat × Nat) → Option (Nat × Nat) → Option Int32 → α
def gm_tk (K : Nat → Int32) (n p : Nat) : Int32 := if p < n then K p else -1
abbrev gi_P : gm_I := (1, 0, 0, 0, 0)
abbrev gi_F : gm_I := (2, 0, 0, 0, 0)
abbrev gi_B : gm_I := (3, 0, 0, 0, 0)
abbrev gi_S : gm_I := (4, 0, 0, 0, 0)
abbrev gi_X (k : Nat) : gm_I := (5, k, 0, 0, 0)
abbrev gi_I (l : Nat) : gm_I := (6, l, 0, 0, 0)
abbrev gi_L (l : Nat) : gm_I := (7, l, 0, 0, 0)
abbrev gi_U (l : Nat) : gm_I := (8, l, 0, 0, 0)
abbrev gi_W (l q : Nat) : gm_I := (9, l, q, 0, 0)
abbrev gi_O (l : Nat) : gm_I := (10, l, 0, 0, 0)
abbrev gi_M0 (k q e : Nat) (v : Int32) : gm_I := (11, k, q, e, v)
abbrev gi_M1 (k q e : Nat) (v : Int32) : gm_I := (19, k, q, e, v)
abbrev gi_M2 (k q e : Nat) (v : Int32) : gm_I := (20, k, q, e, v)
abbrev gi_E (w : Nat) : gm_I := (12, w, 0, 0, 0)
abbrev gi_R (w : Nat) : gm_I := (13, w, 0, 0, 0)
abbrev gi_N : gm_I := (14, 0, 0, 0, 0)
abbrev gi_T (l q : Nat) : gm_I := (15, l, q, 0, 0)
abbrev gi_A (q : Nat) : gm_I := (16, q, 0, 0, 0)
abbrev gi_G (q c : Nat) : gm_I := (17, q, c, 0, 0)
abbrev gi_C (q : Nat) (v : Int32) : gm_I := (18, q, 0, 0, v)
def gm_opn : List gm_I → List Nat
  | [] => []
  | x :: S => if x.1 = 10 then x.2.1 :: gm_opn S else gm_opn S
def gm_str (t : Int32) : Nat :=
  if t.toNatClampNeg < 13 then 0 else if 31 < t.toNatClampNeg then 0 else if t.toNatClampNeg < 18 then t.toNatClampNeg - 12
  else if t.toNatClampNeg < 20 then 6 else if t.toNatClampNeg < 24 then 7 else if t.toNatClampNeg < 27 then 8 else if t.toNatClampNeg < 29 then 9 else 10
def gm_brk {α : Sort _} (C : gm_K α) (p : Nat) (S : List gm_I) (lc fc d : Nat) : List Nat → α
  | [] => C (p + 1) (gi_X 10 :: S) lc fc true [] none none none
  | a :: _ => C (p + 1) (gi_X 10 :: S) lc fc false [(58, nI (a + d), p)] none none none
def gm_stm {α : Sort _} (K V : Nat → Int32) (n : Nat) (E : Nat → Option Int32 → α) (C : gm_K α) (p : Nat) (S : List gm_I) (cc lc fc : Nat) : α :=
  if gm_tk K n p = 8 then C (p + 1) (gi_B :: S) lc fc false [] none none none
  else if gm_tk K n p = 1 then
    (if gm_tk K n (p + 1) = 12 then C (p + 2) (gi_E 1 :: gi_M1 53 p (13 + 32 * (V p).toNatClampNeg) (V p) :: gi_X 10 :: S) lc fc false [] none none none else E (p + 1) none)
  else if gm_tk K n p = 3 then
    (if gm_tk K n (p + 1) = 6 then C (p + 2) (gi_E 1 :: gi_X 7 :: gi_X 12 :: gi_E 1 :: gi_M2 55 p (14 + 32 * p) (V p) :: gi_X 10 :: S) lc fc false [] none none none else E (p + 1) none)
  else if gm_tk K n p = 2 then
    (if gm_tk K n (p + 1) = 4 then C (p + 2) (gi_A p :: gi_C p (V p) :: gi_M1 56 0 15 0 :: gi_X 10 :: S) lc fc false [] none none none else E (p + 1) none)
  else if gm_tk K n p = 34 then
    (if gm_tk K n (p + 1) = 4 then C (p + 2) (gi_E 1 :: gi_X 5 :: gi_I lc :: S) (lc + 2) fc false [] none none none else E (p + 1) none)
  else if gm_tk K n p = 36 then
    (if gm_tk K n (p + 1) = 4 then C (p + 2) (gi_E 1 :: gi_X 5 :: gi_W lc (p + 2) :: S) (lc + 2) fc false [(63, 0, p)] (some (lc, cc)) none none else E (p + 1) none)
  else if gm_tk K n p = 37 then gm_brk C p S lc fc 1 (gm_opn S)
  else if gm_tk K n p = 38 then gm_brk C p S lc fc 0 (gm_opn S)
  else if gm_tk K n p = 39 then C (p + 1) (gi_E 1 :: gi_M1 39 p 11 0 :: gi_X 10 :: S) lc fc false [] none none none
  else if gm_tk K n p = 40 then C (p + 1) (gi_E 1 :: gi_M1 40 p 12 0 :: gi_X 10 :: S) lc fc false [] none none none
  else E p none
def gm_una {α : Sort _} (K V : Nat → Int32) (n : Nat) (E : Nat → Option Int32 → α) (C : gm_K α) (p : Nat) (S : List gm_I) (lc fc : Nat) : α :=
  if gm_tk K n p = 28 then C (p + 1) (gi_N :: gi_M0 50 p 915 0 :: S) lc fc false [] none none none
  else if gm_tk K n p = 32 then C (p + 1) (gi_N :: gi_M0 32 p 1043 0 :: S) lc fc false [] none none none
  else if gm_tk K n p = 33 then C (p + 1) (gi_N :: gi_M0 33 p 1075 0 :: S) lc fc false [] none none none
  else if gm_tk K n p = 0 then C (p + 1) S lc fc false [(51, V p, p)] none none none
  else if gm_tk K n p = 1 then C (p + 1) S lc fc false [(52, V p, p)] none none none
  else if gm_tk K n p = 2 then
    (if gm_tk K n (p + 1) = 4 then C (p + 2) (gi_A p :: gi_C p (V p) :: S) lc fc false [] none none none else E (p + 1) none)
  else if gm_tk K n p = 3 then
    (if gm_tk K n (p + 1) = 6 then C (p + 2) (gi_E 1 :: gi_X 7 :: gi_M0 54 p (22 + 32 * p) 0 :: S) lc fc false [] none none none else E (p + 1) none)
  else if gm_tk K n p = 4 then C (p + 1) (gi_E 1 :: gi_X 5 :: S) lc fc false [] none none none
  else E p none
def gm_bin {α : Sort _} (K : Nat → Int32) (n : Nat) (C : gm_K α) (p w : Nat) (S : List gm_I) (lc fc : Nat) : α :=
  if gm_str (gm_tk K n p) < w then C p S lc fc false [] none none none
  else if gm_tk K n p = 13 then C (p + 1) (gi_E 2 :: gi_T lc p :: gi_R w :: S) (lc + 2) fc false [(57, 0, p), (61, nI lc, p)] none none none
  else if gm_tk K n p = 14 then C (p + 1) (gi_E 3 :: gi_T lc p :: gi_R w :: S) (lc + 2) fc false [(57, 0, p), (60, nI lc, p)] none none none
  else C (p + 1) (gi_E (gm_str (gm_tk K n p) + 1) :: gi_M1 (gm_tk K n p).toNatClampNeg p (20 + 32 * p) 0 :: gi_R w :: S) lc fc false [] none none none
def gm_prg {α : Sort _} (K V : Nat → Int32) (n : Nat) (E : Nat → Option Int32 → α) (C : gm_K α) (p : Nat) (S : List gm_I) (lc fc : Nat) : α :=
  if gm_tk K n p = -1 ∧ 0 < fc then C p S lc fc false [] none none none
  else if fc = 4 then E p none
  else if gm_tk K n p = 41 then
    (if gm_tk K n (p + 1) = 0 ∧ 0 ≤ V (p + 1) ∧ V (p + 1) ≤ 3 then
      (if gm_tk K n (p + 2) = 8 then C (p + 3) (gi_B :: gi_F :: gi_P :: S) lc (fc + 1) false [] none none (some (V (p + 1))) else E (p + 2) (some (V (p + 1))))
    else E (p + 1) none)
  else E p none
def gm_d {α : Sort _} (K V : Nat → Int32) (n : Nat) (E : Nat → Option Int32 → α) (C : gm_K α) (p : Nat) (x : gm_I) (S : List gm_I) (cc lc fc : Nat) : α :=
  if x.1 = 1 then gm_prg K V n E C p S lc fc
  else if x.1 = 2 then C p S lc fc false [(51, 0, 0), (39, 0, 0)] none none none
  else if x.1 = 3 then (if gm_tk K n p = 9 then C (p + 1) S lc fc false [] none none none else gm_stm K V n E C p (gi_B :: S) cc lc fc)
  else if x.1 = 4 then gm_stm K V n E C p S cc lc fc
  else if x.1 = 5 then (if gm_tk K n p = nI x.2.1 then C (p + 1) S lc fc false [] none none none else E p none)
  else if x.1 = 6 then C p (gi_S :: gi_L x.2.1 :: S) lc fc false [(59, nI x.2.1, 0)] none none none
  else if x.1 = 7 then (if gm_tk K n p = 35 then C (p + 1) (gi_S :: gi_U x.2.1 :: S) lc fc false [(58, nI (x.2.1 + 1), 0)] (some (x.2.1, cc + 1)) none none
    else C p S lc fc false [] (some (x.2.1, cc)) none none)
  else if x.1 = 8 then C p S lc fc false [] (some (x.2.1 + 1, cc)) none none
  else if x.1 = 9 then C p (gi_S :: gi_O x.2.1 :: S) lc fc false [(59, nI (x.2.1 + 1), 0)] none none none
  else if x.1 = 10 then C p S lc fc false [(58, nI x.2.1, 0)] (some (x.2.1 + 1, cc + 1)) none none
  else if x.1 = 11 ∨ x.1 = 19 ∨ x.1 = 20 then C p S lc fc false [(x.2.1, x.2.2.2.2, x.2.2.1)] none none none
  else if x.1 = 12 then gm_una K V n E C p (gi_R x.2.1 :: S) lc fc
  else if x.1 = 13 then gm_bin K n C p x.2.1 S lc fc
  else if x.1 = 14 then gm_una K V n E C p S lc fc
  else if x.1 = 15 then C p S lc fc false [(57, 0, x.2.2.1)] (some (x.2.1, cc + 1)) none none
  else if x.1 = 16 then (if gm_tk K n p = 5 then C (p + 1) S lc fc false [] none (some (x.2.1, 0)) none
    else C p (gi_E 1 :: gi_G x.2.1 1 :: S) lc fc false [] none (some (x.2.1, 1)) none)
  else if x.1 = 17 then (if gm_tk K n p = 5 then C (p + 1) S lc fc false [] none none none
    else if gm_tk K n p = 11 then C (p + 1) (gi_E 1 :: gi_G x.2.1 (x.2.2.1 + 1) :: S) lc fc false [] none (some (x.2.1, x.2.2.1 + 1)) none
    else E p none)
  else if x.1 = 18 then C p S lc fc false [(62, 0, x.2.1), (63, 0, x.2.1), (64, x.2.2.2.2, 0)] none none none
  else E p none
/-! the step as a value: monotone, one result -/
abbrev gm_R : Type := (Nat × Option Int32) ⊕ (Nat × List gm_I × Nat × Nat × Bool × List gm_M × Option (Nat × Nat) × Option (Nat × Nat) × Option Int32)
def gm_v (K V : Nat → Int32) (n p : Nat) (x : gm_I) (S : List gm_I) (cc lc fc : Nat) : gm_R :=
  gm_d K V n (fun e w => Sum.inl (e, w)) (fun p S lc fc o es lw aw fw => Sum.inr (p, S, lc, fc, o, es, lw, aw, fw)) p x S cc lc fc
def gm_el {α : Sort _} (E : Nat → Option Int32 → α) (C : gm_K α) : gm_R → α
  | Sum.inl (e, w) => E e w
  | Sum.inr (p, S, lc, fc, o, es, lw, aw, fw) => C p S lc fc o es lw aw fw
section
variable {α β : Sort _} (K V : Nat → Int32) (n : Nat)
theorem gm_map_brk (f : α → β) (C : gm_K α) (p : Nat) (S : List gm_I) (lc fc d : Nat) (l : List Nat) :
    gm_brk (fun p S lc fc o es lw aw fw => f (C p S lc fc o es lw aw fw)) p S lc fc d l = f (gm_brk C p S lc fc d l) := by
  cases l <;> rfl
theorem gm_map_stm (f : α → β) (E : Nat → Option Int32 → α) (C : gm_K α) (p : Nat) (S : List gm_I) (cc lc fc : Nat) :
    gm_stm K V n (fun e w => f (E e w)) (fun p S lc fc o es lw aw fw => f (C p S lc fc o es lw aw fw)) p S cc lc fc = f (gm_stm K V n E C p S cc lc fc) := by
  unfold gm_stm
  simp only [apply_ite f, gm_map_brk]
theorem gm_map_una (f : α → β) (E : Nat → Option Int32 → α) (C : gm_K α) (p : Nat) (S : List gm_I) (lc fc : Nat) :
    gm_una K V n (fun e w => f (E e w)) (fun p S lc fc o es lw aw fw => f (C p S lc fc o es lw aw fw)) p S lc fc = f (gm_una K V n E C p S lc fc) := by
  unfold gm_una
  repeat' split
  all_goals rfl
theorem gm_map_bin (f : α → β) (C : gm_K α) (p w : Nat) (S : List gm_I) (lc fc : Nat) :
    gm_bin K n (fun p S lc fc o es lw aw fw => f (C p S lc fc o es lw aw fw)) p w S lc fc = f (gm_bin K n C p w S lc fc) := by
  unfold gm_bin
  repeat' split
  all_goals rfl
theorem gm_map_prg (f : α → β) (E : Nat → Option Int32 → α) (C : gm_K α) (p : Nat) (S : List gm_I) (lc fc : Nat) :
    gm_prg K V n (fun e w => f (E e w)) (fun p S lc fc o es lw aw fw => f (C p S lc fc o es lw aw fw)) p S lc fc = f (gm_prg K V n E C p S lc fc) := by
  unfold gm_prg
  repeat' split
  all_goals rfl
theorem gm_map (f : α → β) (E : Nat → Option Int32 → α) (C : gm_K α) (p : Nat) (x : gm_I) (S : List gm_I) (cc lc fc : Nat) :
    gm_d K V n (fun e w => f (E e w)) (fun p S lc fc o es lw aw fw => f (C p S lc fc o es lw aw fw)) p x S cc lc fc = f (gm_d K V n E C p x S cc lc fc) := by
  unfold gm_d
  simp only [apply_ite f, gm_map_stm, gm_map_una, gm_map_bin, gm_map_prg]
end
theorem gm_eq {α : Sort _} (K V : Nat → Int32) (n : Nat) (E : Nat → Option Int32 → α) (C : gm_K α) (p : Nat) (x : gm_I) (S : List gm_I) (cc lc fc : Nat) :
    gm_d K V n E C p x S cc lc fc = gm_el E C (gm_v K V n p x S cc lc fc) :=
  gm_map K V n (gm_el E C) (fun e w => Sum.inl (e, w)) (fun p S lc fc o es lw aw fw => Sum.inr (p, S, lc, fc, o, es, lw, aw, fw)) p x S cc lc fc
theorem gm_mono {K V : Nat → Int32} {n : Nat} {E E' : Nat → Option Int32 → Prop} {C C' : gm_K Prop} {p : Nat} {x : gm_I} {S : List gm_I} {cc lc fc : Nat}
    (h : gm_d K V n E C p x S cc lc fc) (hE : ∀ e w, E e w → E' e w)
    (hC : ∀ p S lc fc o es lw aw fw, C p S lc fc o es lw aw fw → C' p S lc fc o es lw aw fw) : gm_d K V n E' C' p x S cc lc fc := by
  rw [gm_eq] at h ⊢
  revert h
  generalize gm_v K V n p x S cc lc fc = r
  intro h
  match r, h with
  | Sum.inl (e, w), h => exact hE e w h
  | Sum.inr (p, S, lc, fc, o, es, lw, aw, fw), h => exact hC _ _ _ _ _ _ _ _ _ h
theorem gm_and {K V : Nat → Int32} {n : Nat} {E E' E2 : Nat → Option Int32 → Prop} {C C' C2 : gm_K Prop} {p : Nat} {x : gm_I} {S : List gm_I} {cc lc fc : Nat}
    (h : gm_d K V n E C p x S cc lc fc) (h' : gm_d K V n E' C' p x S cc lc fc) (hE : ∀ e w, E e w → E' e w → E2 e w)
    (hC : ∀ p S lc fc o es lw aw fw, C p S lc fc o es lw aw fw → C' p S lc fc o es lw aw fw → C2 p S lc fc o es lw aw fw) : gm_d K V n E2 C2 p x S cc lc fc := by
  rw [gm_eq] at h h' ⊢
  revert h h'
  generalize gm_v K V n p x S cc lc fc = r
  intro h h'
  match r, h, h' with
  | Sum.inl (e, w), h, h' => exact hE e w h h'
  | Sum.inr (p, S, lc, fc, o, es, lw, aw, fw), h, h' => exact hC _ _ _ _ _ _ _ _ _ h h'
end
section
/-! weights and invariants of G -/
def gm_sm (w : gm_I → Nat) : List gm_I → Nat
  | [] => 0
  | x :: S => w x + gm_sm w S
def gw_e (x : gm_I) : Nat := if x.1 = 2 then 2 else if x.1 = 6 then 2 else if x.1 = 7 then 1 else if x.1 = 9 then 2 else if x.1 = 10 then 1 else if x.1 = 11 then 1 else if x.1 = 19 then 1 else if x.1 = 20 then 1 else if x.1 = 15 then 1 else if x.1 = 18 then 3 else 0
def gw_p (x : gm_I) : Nat := if x.1 = 2 then 2 else if x.1 = 3 then 2 else if x.1 = 6 then 3 else if x.1 = 9 then 3 else if x.1 = 12 then 2 else if x.1 = 15 then 2 else if x.1 = 16 then 3 else if x.1 = 18 then 3 else 1
def gw_m (x : gm_I) : Nat := if x.1 = 3 then 0 else if x.1 = 4 then 0 else if x.1 = 5 then 0 else if x.1 = 6 then 2 else if x.1 = 9 then 2 else if x.1 = 14 then 0 else if x.1 = 16 then 2 else if x.1 = 17 then 0 else 1
def gw_c (x : gm_I) : Nat := if x.1 = 1 then 0 else if x.1 = 3 then 0 else if x.1 = 4 then 0 else if x.1 = 5 then 0 else if x.1 = 6 then 2 else if x.1 = 9 then 2 else if x.1 = 14 then 0 else if x.1 = 17 then 0 else 1
def gw_r (x : gm_I) : Nat := if x.1 = 3 then 1 else if x.1 = 4 then 1 else if x.1 = 5 then 1 else if x.1 = 6 then 1 else if x.1 = 9 then 1 else if x.1 = 12 then 1 else if x.1 = 14 then 1 else if x.1 = 16 then 1 else if x.1 = 17 then 1 else 0
def gw_a (x : gm_I) : Nat := if x.1 = 19 then 2 else if x.1 = 20 then 4 else if x.1 = 6 then 2 else if x.1 = 9 then 2 else if x.1 = 17 then 2 * x.2.2.1 else 0
def gw_b (x : gm_I) : Nat := if x.1 = 12 then 1 else if x.1 = 14 then 1 else if x.1 = 16 then 1 else if x.1 = 17 then 2 else 0
def gm_tb : List gm_I → Nat
  | [] => 0
  | x :: _ => if x.1 = 3 then 1 else if x.1 = 4 then 1 else if x.1 = 13 then 1 else 0
theorem gm_tb_n : gm_tb [] = 0 := rfl
theorem gm_tb_c (x : gm_I) (S : List gm_I) : gm_tb (x :: S) = if x.1 = 3 then 1 else if x.1 = 4 then 1 else if x.1 = 13 then 1 else 0 := rfl
theorem gm_tb1 (S : List gm_I) : gm_tb S ≤ 1 := by
  cases S with
  | nil => simp [gm_tb]
  | cons x S => simp only [gm_tb]; repeat' split
                all_goals omega
theorem gm_tk_lt {K : Nat → Int32} {n p : Nat} {k : Int32} (h : gm_tk K n p = k) (hk : ¬ (-1 : Int32) = k) : p < n := by
  unfold gm_tk at h
  split at h
  · assumption
  · exact absurd h hk
theorem gm_tk_K {K : Nat → Int32} {n p : Nat} (h : p < n) : gm_tk K n p = K p := if_pos h
def gm_lin (p : Nat) (S : List gm_I) (cc lc : Nat) : Prop :=
  cc + gm_sm gw_e S ≤ 3 * p ∧ lc ≤ 2 * p ∧ gm_sm gw_p S ≤ 4 * p + 1 ∧ gm_sm gw_c S + gm_tb S ≤ p ∧ gm_sm gw_a S ≤ p + gm_sm gw_b S
/-- what a step does to the weights: lin again, the measure falls (by m), the need doesn't -/
def gm_lc (n p m r cc : Nat) : gm_K Prop := fun p' S' lc' _ _ es _ _ _ =>
  gm_lin p' S' (cc + es.length) lc' ∧ p ≤ p' ∧ p' ≤ n ∧ gm_sm gw_m S' + 3 * (n - p') < m + 3 * (n - p) ∧ p + r ≤ p' + gm_sm gw_r S'
theorem gl_stm {K V : Nat → Int32} {n p : Nat} {S : List gm_I} {cc lc fc : Nat} (h1 : cc + gm_sm gw_e S ≤ 3 * p) (h2 : lc ≤ 2 * p) (h3 : gm_sm gw_p S ≤ 4 * p + 1)
    (h4 : gm_sm gw_c S + 1 ≤ p) (h5 : gm_sm gw_a S ≤ p + gm_sm gw_b S) :
    gm_stm K V n (fun _ _ => True) (gm_lc n p (gm_sm gw_m S) (1 + gm_sm gw_r S) cc) p S cc lc fc := by
  unfold gm_stm
  repeat' split
  all_goals try trivial
  all_goals try (cases hO : gm_opn S)
  all_goals
    have hp := gm_tk_lt (by assumption : gm_tk K n p = _) (by decide)
    try have hq := gm_tk_lt (by assumption : gm_tk K n (p + 1) = _) (by decide)
    simp [gm_brk, gm_lc, gm_lin, gm_sm, gw_e, gw_p, gw_m, gw_c, gw_r, gw_a, gw_b, gm_tb_c, gm_tb_n]
    omega
theorem gl_una {K V : Nat → Int32} {n p : Nat} {S : List gm_I} {cc lc fc : Nat} (h1 : cc + gm_sm gw_e S ≤ 3 * p) (h2 : lc ≤ 2 * p) (h3 : gm_sm gw_p S + 1 ≤ 4 * p + 1)
    (h4 : gm_sm gw_c S ≤ p) (h5 : gm_sm gw_a S ≤ p + 1 + gm_sm gw_b S) :
    gm_una K V n (fun _ _ => True) (gm_lc n p (gm_sm gw_m S) (1 + gm_sm gw_r S) cc) p S lc fc := by
  have ht := gm_tb1 S
  unfold gm_una
  repeat' split
  all_goals try trivial
  all_goals
    have hp := gm_tk_lt (by assumption : gm_tk K n p = _) (by decide)
    try have hq := gm_tk_lt (by assumption : gm_tk K n (p + 1) = _) (by decide)
    simp [gm_lc, gm_lin, gm_sm, gw_e, gw_p, gw_m, gw_c, gw_r, gw_a, gw_b, gm_tb_c, gm_tb_n]
    omega
theorem gm_str0 : gm_str (-1) = 0 := by decide
theorem gl_bin {K : Nat → Int32} {n p w : Nat} {S : List gm_I} {cc lc fc : Nat} (hw : 1 ≤ w) (hn : p ≤ n) (h1 : cc + gm_sm gw_e S ≤ 3 * p) (h2 : lc ≤ 2 * p) (h3 : gm_sm gw_p S + 1 ≤ 4 * p + 1)
    (h4 : gm_sm gw_c S + 2 ≤ p) (h5 : gm_sm gw_a S ≤ p + gm_sm gw_b S) :
    gm_bin K n (gm_lc n p (gm_sm gw_m S + 1) (gm_sm gw_r S) cc) p w S lc fc := by
  have ht := gm_tb1 S
  unfold gm_bin
  split
  · simp [gm_lc, gm_lin, gm_sm, gw_e, gw_p, gw_m, gw_c, gw_r, gw_a, gw_b, gm_tb_c, gm_tb_n]
    omega
  · rename_i hs
    have hp : p < n := by
      by_cases z : p < n
      · exact z
      · rw [show gm_tk K n p = -1 from if_neg z, gm_str0] at hs
        omega
    repeat' split
    all_goals
      simp [gm_lc, gm_lin, gm_sm, gw_e, gw_p, gw_m, gw_c, gw_r, gw_a, gw_b, gm_tb_c, gm_tb_n]
      omega
theorem gl_prg {K V : Nat → Int32} {n p : Nat} {S : List gm_I} {cc lc fc : Nat} (hn : p ≤ n) (h1 : cc + gm_sm gw_e S ≤ 3 * p) (h2 : lc ≤ 2 * p) (h3 : gm_sm gw_p S + 1 ≤ 4 * p + 1)
    (h4 : gm_sm gw_c S ≤ p) (h5 : gm_sm gw_a S ≤ p + gm_sm gw_b S) (h0 : S = []) :
    gm_prg K V n (fun _ _ => True) (gm_lc n p (gm_sm gw_m S + 1) (gm_sm gw_r S) cc) p S lc fc := by
  subst h0
  unfold gm_prg
  repeat' split
  all_goals try trivial
  · simp [gm_lc, gm_lin, gm_sm, gw_e, gw_p, gw_m, gw_c, gw_r, gw_a, gw_b, gm_tb_c, gm_tb_n] at *
    omega
  · rename_i ha hb hc
    have hp := gm_tk_lt hc (by decide)
    simp [gm_lc, gm_lin, gm_sm, gw_e, gw_p, gw_m, gw_c, gw_r, gw_a, gw_b, gm_tb_c, gm_tb_n] at *
    omega
theorem gm_mono_stm {K V : Nat → Int32} {n : Nat} {C C' : gm_K Prop} {p : Nat} {S : List gm_I} {cc lc fc : Nat}
    (h : gm_stm K V n (fun _ _ => True) C p S cc lc fc) (hC : ∀ p S lc fc o es lw aw fw, C p S lc fc o es lw aw fw → C' p S lc fc o es lw aw fw) : gm_stm K V n (fun _ _ => True) C' p S cc lc fc :=
  gm_mono (E := fun _ _ => True) (x := gi_S) h (fun _ _ _ => trivial) hC
theorem gm_mono_una {K V : Nat → Int32} {n : Nat} {C C' : gm_K Prop} {p : Nat} {S : List gm_I} {lc fc : Nat}
    (h : gm_una K V n (fun _ _ => True) C p S lc fc) (hC : ∀ p S lc fc o es lw aw fw, C p S lc fc o es lw aw fw → C' p S lc fc o es lw aw fw) : gm_una K V n (fun _ _ => True) C' p S lc fc :=
  gm_mono (E := fun _ _ => True) (x := gi_N) (cc := 0) h (fun _ _ _ => trivial) hC
theorem gm_tk_lt' {K : Nat → Int32} {n p k : Nat} (h : gm_tk K n p = nI k) (hk : k ≤ 41 := by omega) : p < n := by
  refine gm_tk_lt h (fun z => ?_)
  have := nI_pos' (n := k) (by omega)
  rw [← z] at this
  exact absurd this (by decide)
theorem gl_d {K V : Nat → Int32} {n p : Nat} {x : gm_I} {S : List gm_I} {cc lc fc : Nat} (hn : p ≤ n) (h : gm_lin p (x :: S) cc lc)
    (h0 : x.1 = 1 → S = []) (h5' : x.1 = 5 → x.2.1 ≤ 41) (h13 : x.1 = 13 → 1 ≤ x.2.1) (h17 : x.1 = 17 → 1 ≤ x.2.2.1) :
    gm_d K V n (fun _ _ => True) (gm_lc n p (gm_sm gw_m (x :: S)) (gm_sm gw_r (x :: S)) cc) p x S cc lc fc := by
  obtain ⟨h1, h2, h3, h4, h5⟩ := h
  obtain ⟨t, a, b, e, v⟩ := x
  have ht := gm_tb1 S
  unfold gm_d
  dsimp only at *
  by_cases z : t = 1
  · subst z; rw [if_pos rfl]
    simp [gm_sm, gw_e, gw_p, gw_m, gw_c, gw_r, gw_a, gw_b, gm_tb_c, gm_tb_n] at h1 h3 h4 h5
    have H := gl_prg (K := K) (V := V) (n := n) (p := p) (S := S) (cc := cc) (lc := lc) (fc := fc) hn (by omega) h2 (by omega) (by omega) (by omega) (h0 rfl)
    simpa [gm_sm, gw_m, gw_r, Nat.add_comm] using H
  rw [if_neg z]
  by_cases z : t = 2
  · subst z; rw [if_pos rfl]
    simp [gm_lc, gm_lin, gm_sm, gw_e, gw_p, gw_m, gw_c, gw_r, gw_a, gw_b, gm_tb_c, gm_tb_n] at *
    omega
  rw [if_neg z]
  by_cases z : t = 3
  · subst z; rw [if_pos rfl]
    split
    · rename_i z1; have hp := gm_tk_lt z1 (by decide)
      simp [gm_lc, gm_lin, gm_sm, gw_e, gw_p, gw_m, gw_c, gw_r, gw_a, gw_b, gm_tb_c, gm_tb_n] at *
      omega
    · simp [gm_sm, gw_e, gw_p, gw_m, gw_c, gw_r, gw_a, gw_b, gm_tb_c, gm_tb_n] at h1 h3 h4 h5
      have H := gl_stm (K := K) (V := V) (n := n) (p := p) (S := gi_B :: S) (cc := cc) (lc := lc) (fc := fc) (by simp [gm_sm, gw_e]; omega) h2 (by simp [gm_sm, gw_p]; omega) (by simp [gm_sm, gw_c]; omega) (by simp [gm_sm, gw_a, gw_b]; omega)
      refine gm_mono_stm H ?_
      intro p' S' lc' fc' o es lw aw fw H
      simp [gm_lc, gm_lin, gm_sm, gw_e, gw_p, gw_m, gw_c, gw_r, gw_a, gw_b, gm_tb_c, gm_tb_n] at *
      omega
  rw [if_neg z]
  by_cases z : t = 4
  · subst z; rw [if_pos rfl]
    simp [gm_sm, gw_e, gw_p, gw_m, gw_c, gw_r, gw_a, gw_b, gm_tb_c, gm_tb_n] at h1 h3 h4 h5
    have H := gl_stm (K := K) (V := V) (n := n) (p := p) (S := S) (cc := cc) (lc := lc) (fc := fc) (by omega) h2 (by omega) (by omega) (by omega)
    refine gm_mono_stm H ?_
    intro p' S' lc' fc' o es lw aw fw H
    simp [gm_lc, gm_lin, gm_sm, gw_e, gw_p, gw_m, gw_c, gw_r, gw_a, gw_b, gm_tb_c, gm_tb_n] at *
    omega
  rw [if_neg z]
  by_cases z : t = 5
  · subst z; rw [if_pos rfl]
    split
    · rename_i z1; have hp := gm_tk_lt' z1 (h5' rfl)
      simp [gm_lc, gm_lin, gm_sm, gw_e, gw_p, gw_m, gw_c, gw_r, gw_a, gw_b, gm_tb_c, gm_tb_n] at *
      omega
    · trivial
  rw [if_neg z]
  by_cases z : t = 6
  · subst z; rw [if_pos rfl]
    simp [gm_lc, gm_lin, gm_sm, gw_e, gw_p, gw_m, gw_c, gw_r, gw_a, gw_b, gm_tb_c, gm_tb_n] at *
    omega
  rw [if_neg z]
  by_cases z : t = 7
  · subst z; rw [if_pos rfl]
    split
    · rename_i z1; have hp := gm_tk_lt z1 (by decide)
      simp [gm_lc, gm_lin, gm_sm, gw_e, gw_p, gw_m, gw_c, gw_r, gw_a, gw_b, gm_tb_c, gm_tb_n] at *
      omega
    · simp [gm_lc, gm_lin, gm_sm, gw_e, gw_p, gw_m, gw_c, gw_r, gw_a, gw_b, gm_tb_c, gm_tb_n] at *
      omega
  rw [if_neg z]
  by_cases z : t = 8
  · subst z; rw [if_pos rfl]
    simp [gm_lc, gm_lin, gm_sm, gw_e, gw_p, gw_m, gw_c, gw_r, gw_a, gw_b, gm_tb_c, gm_tb_n] at *
    omega
  rw [if_neg z]
  by_cases z : t = 9
  · subst z; rw [if_pos rfl]
    simp [gm_lc, gm_lin, gm_sm, gw_e, gw_p, gw_m, gw_c, gw_r, gw_a, gw_b, gm_tb_c, gm_tb_n] at *
    omega
  rw [if_neg z]
  by_cases z : t = 10
  · subst z; rw [if_pos rfl]
    simp [gm_lc, gm_lin, gm_sm, gw_e, gw_p, gw_m, gw_c, gw_r, gw_a, gw_b, gm_tb_c, gm_tb_n] at *
    omega
  rw [if_neg z]
  by_cases z : t = 11 ∨ t = 19 ∨ t = 20
  · rw [if_pos z]
    rcases z with z | z | z <;> subst z <;> simp [gm_lc, gm_lin, gm_sm, gw_e, gw_p, gw_m, gw_c, gw_r, gw_a, gw_b, gm_tb_c, gm_tb_n] at * <;> omega
  rw [if_neg z]
  by_cases z : t = 12
  · subst z; rw [if_pos rfl]
    simp [gm_sm, gw_e, gw_p, gw_m, gw_c, gw_r, gw_a, gw_b, gm_tb_c, gm_tb_n] at h1 h3 h4 h5
    have H := gl_una (K := K) (V := V) (n := n) (p := p) (S := gi_R a :: S) (cc := cc) (lc := lc) (fc := fc) (by simp [gm_sm, gw_e]; omega) h2 (by simp [gm_sm, gw_p]; omega) (by simp [gm_sm, gw_c]; omega) (by simp [gm_sm, gw_a, gw_b]; omega)
    refine gm_mono_una H ?_
    intro p' S' lc' fc' o es lw aw fw H
    simp [gm_lc, gm_lin, gm_sm, gw_e, gw_p, gw_m, gw_c, gw_r, gw_a, gw_b, gm_tb_c, gm_tb_n] at *
    omega
  rw [if_neg z]
  by_cases z : t = 13
  · subst z; rw [if_pos rfl]
    simp [gm_sm, gw_e, gw_p, gw_m, gw_c, gw_r, gw_a, gw_b, gm_tb_c, gm_tb_n] at h1 h3 h4 h5
    have H := gl_bin (K := K) (n := n) (p := p) (w := a) (S := S) (cc := cc) (lc := lc) (fc := fc) (h13 rfl) hn (by omega) h2 (by omega) (by omega) (by omega)
    simpa [gm_sm, gw_m, gw_r, Nat.add_comm] using H
  rw [if_neg z]
  by_cases z : t = 14
  · subst z; rw [if_pos rfl]
    simp [gm_sm, gw_e, gw_p, gw_m, gw_c, gw_r, gw_a, gw_b, gm_tb_c, gm_tb_n] at h1 h3 h4 h5
    have H := gl_una (K := K) (V := V) (n := n) (p := p) (S := S) (cc := cc) (lc := lc) (fc := fc) (by omega) h2 (by omega) (by omega) (by omega)
    refine gm_mono_una H ?_
    intro p' S' lc' fc' o es lw aw fw H
    simp [gm_lc, gm_lin, gm_sm, gw_e, gw_p, gw_m, gw_c, gw_r, gw_a, gw_b, gm_tb_c, gm_tb_n] at *
    omega
  rw [if_neg z]
  by_cases z : t = 15
  · subst z; rw [if_pos rfl]
    simp [gm_lc, gm_lin, gm_sm, gw_e, gw_p, gw_m, gw_c, gw_r, gw_a, gw_b, gm_tb_c, gm_tb_n] at *
    omega
  rw [if_neg z]
  by_cases z : t = 16
  · subst z; rw [if_pos rfl]
    split
    · rename_i z1; have hp := gm_tk_lt z1 (by decide)
      simp [gm_lc, gm_lin, gm_sm, gw_e, gw_p, gw_m, gw_c, gw_r, gw_a, gw_b, gm_tb_c, gm_tb_n] at *
      omega
    · simp [gm_lc, gm_lin, gm_sm, gw_e, gw_p, gw_m, gw_c, gw_r, gw_a, gw_b, gm_tb_c, gm_tb_n] at *
      omega
  rw [if_neg z]
  by_cases z : t = 17
  · subst z; rw [if_pos rfl]
    have h17 := h17 rfl
    split
    · rename_i z1; have hp := gm_tk_lt z1 (by decide)
      simp [gm_lc, gm_lin, gm_sm, gw_e, gw_p, gw_m, gw_c, gw_r, gw_a, gw_b, gm_tb_c, gm_tb_n] at *
      omega
    · split
      · rename_i z1; have hp := gm_tk_lt z1 (by decide)
        simp [gm_lc, gm_lin, gm_sm, gw_e, gw_p, gw_m, gw_c, gw_r, gw_a, gw_b, gm_tb_c, gm_tb_n] at *
        omega
      · trivial
  rw [if_neg z]
  by_cases z : t = 18
  · subst z; rw [if_pos rfl]
    simp [gm_lc, gm_lin, gm_sm, gw_e, gw_p, gw_m, gw_c, gw_r, gw_a, gw_b, gm_tb_c, gm_tb_n] at *
    omega
  rw [if_neg z]
  trivial
end
section
/-! shapes: labels and places fall downwards, no while test below a statement, every item is one that the machine makes -/
def gm_nw : List gm_I → Prop
  | [] => True
  | x :: S => x.1 ≠ 9 ∧ gm_nw S
def gm_sh : List gm_I → Prop
  | [] => True
  | x :: S => (x.1 = 1 → S = []) ∧ ((x.1 = 2 ∨ x.1 = 3 ∨ x.1 = 4 ∨ x.1 = 6 ∨ x.1 = 7 ∨ x.1 = 8 ∨ x.1 = 9 ∨ x.1 = 10) → gm_nw S) ∧ gm_sh S
def gm_lb : Nat → List gm_I → Prop
  | _, [] => True
  | b, x :: S => if x.1 = 6 ∨ x.1 = 7 ∨ x.1 = 8 ∨ x.1 = 9 ∨ x.1 = 10 ∨ x.1 = 15 then x.2.1 + 2 ≤ b ∧ gm_lb x.2.1 S else gm_lb b S
def gm_pl : Nat → List gm_I → Prop
  | _, [] => True
  | b, x :: S => if x.1 = 16 ∨ x.1 = 17 then x.2.1 < b ∧ gm_pl x.2.1 S else gm_pl b S
def gm_ve (K : Nat → Int32) (n : Nat) (x : gm_I) : Prop :=
  if x.1 = 11 then (x.2.1 = 50 ∧ x.2.2.2.1 = 915) ∨ (x.2.1 = 32 ∧ x.2.2.2.1 = 1043) ∨ (x.2.1 = 33 ∧ x.2.2.2.1 = 1075) ∨ (x.2.1 = 54 ∧ x.2.2.1 < n ∧ x.2.2.2.1 = 22 + 32 * x.2.2.1)
  else if x.1 = 20 then x.2.1 = 55 ∧ x.2.2.1 < n ∧ x.2.2.2.1 = 14 + 32 * x.2.2.1
  else (15 ≤ x.2.1 ∧ x.2.1 ≤ 31 ∧ x.2.2.1 < n ∧ K x.2.2.1 = nI x.2.1 ∧ x.2.2.2.1 = 20 + 32 * x.2.2.1) ∨ (x.2.1 = 53 ∧ ∃ u, u ≤ 5 ∧ x.2.2.2.2 = nI u ∧ x.2.2.2.1 = 13 + 32 * u)
    ∨ (x.2.1 = 39 ∧ x.2.2.2.1 = 11) ∨ (x.2.1 = 40 ∧ x.2.2.2.1 = 12) ∨ (x.2.1 = 56 ∧ x.2.2.2.1 = 15)
def gm_vl (K V : Nat → Int32) (n p : Nat) (x : gm_I) : Prop :=
  if x.1 = 5 then x.2.1 ≤ 41 else if x.1 = 9 then 2 ≤ x.2.2.1 ∧ x.2.2.1 ≤ n else if x.1 = 11 ∨ x.1 = 19 ∨ x.1 = 20 then gm_ve K n x
  else if x.1 = 12 ∨ x.1 = 13 then 1 ≤ x.2.1 ∧ x.2.1 ≤ 11 else if x.1 = 16 then x.2.1 < n else if x.1 = 17 then x.2.1 < n ∧ 1 ≤ x.2.2.1 ∧ x.2.2.1 ≤ p
  else if x.1 = 18 then x.2.1 < n ∧ x.2.2.2.2 = V x.2.1 ∧ K x.2.1 = 2 else 1 ≤ x.1 ∧ x.1 ≤ 15
def gm_va (K V : Nat → Int32) (n p : Nat) : List gm_I → Prop
  | [] => True
  | x :: S => gm_vl K V n p x ∧ gm_va K V n p S
/-- what token lets in -/
def gm_tok (K V : Nat → Int32) (n : Nat) : Prop :=
  ∀ j, j < n → (∃ k, k ≤ 41 ∧ K j = nI k) ∧ (K j = 1 → ∃ u, u ≤ 5 ∧ V j = nI u) ∧ (K j = 2 → ∃ u, u ≤ 3 ∧ V j = nI u)
theorem gm_vl_up {K V : Nat → Int32} {n p q : Nat} {x : gm_I} (h : gm_vl K V n p x) (hq : p ≤ q) : gm_vl K V n q x := by
  unfold gm_vl at h ⊢
  repeat' split at h
  all_goals simp_all
  all_goals omega
theorem gm_va_up {K V : Nat → Int32} {n p q : Nat} (hq : p ≤ q) : ∀ {S : List gm_I}, gm_va K V n p S → gm_va K V n q S
  | [], _ => trivial
  | _ :: _, h => ⟨gm_vl_up h.1 hq, gm_va_up hq h.2⟩
theorem gm_lb_up {b c : Nat} (hq : b ≤ c) : ∀ {S : List gm_I}, gm_lb b S → gm_lb c S
  | [], _ => trivial
  | x :: S, h => by
    unfold gm_lb at h ⊢
    split at h
    · rw [if_pos (by assumption)]; exact ⟨by omega, h.2⟩
    · rw [if_neg (by assumption)]; exact gm_lb_up hq h
theorem gm_pl_up {b c : Nat} (hq : b ≤ c) : ∀ {S : List gm_I}, gm_pl b S → gm_pl c S
  | [], _ => trivial
  | x :: S, h => by
    unfold gm_pl at h ⊢
    split at h
    · rw [if_pos (by assumption)]; exact ⟨by omega, h.2⟩
    · rw [if_neg (by assumption)]; exact gm_pl_up hq h
def gm_sl : List gm_I → Prop
  | [] => True
  | x :: S => (x.1 = 1 ∨ x.1 = 2 ∨ x.1 = 3 ∨ x.1 = 4 ∨ x.1 = 7 ∨ x.1 = 8 ∨ x.1 = 10) ∧ gm_sl S
def gm_hd : List gm_I → Nat
  | [] => 0
  | x :: _ => x.1
theorem gm_hd_n : gm_hd [] = 0 := rfl
theorem gm_hd_c (x : gm_I) (S : List gm_I) : gm_hd (x :: S) = x.1 := rfl
theorem gm_sl_hd {S : List gm_I} (h : gm_sl S) : ¬ gm_hd S = 18 := by
  cases S with
  | nil => simp [gm_hd]
  | cons x S => have := h.1; simp only [gm_hd]; omega
/-- below a statement there are statements alone; above a call its arguments -/
def gm_s2 : List gm_I → Prop
  | [] => True
  | x :: S => ((x.1 = 2 ∨ x.1 = 3 ∨ x.1 = 4 ∨ x.1 = 6 ∨ x.1 = 7 ∨ x.1 = 8 ∨ x.1 = 9 ∨ x.1 = 10 ∨ (x.1 = 5 ∧ x.2.1 = 10)) → gm_sl S) ∧ ((x.1 = 19 ∧ x.2.1 = 39) → ∃ S', S = gi_X 10 :: S') ∧ (gm_hd S = 18 → x.1 = 16 ∨ x.1 = 17) ∧ gm_s2 S
end
section
/-! the run of G with its arrays; the certificate that a compiled program leaves -/
abbrev gm_A : Type := (Nat → Int32) × (Nat → Int32) × (Nat → Int32) × (Nat → Int32) × (Nat → Int32) × (Nat → Int32) × (Nat → Int32) × (Nat → Int32)
def gu_k (g : gm_M → Int32) : (Nat → Int32) → Nat → List gm_M → Nat → Int32
  | f, _, [] => f
  | f, c, x :: es => gu_k g (upd f c (g x)) (c + 1) es
def gu_l (f : Nat → Int32) : Option (Nat × Nat) → Nat → Int32
  | none => f
  | some x => upd f x.1 (nI x.2)
def gu_f (f : Nat → Int32) (c : Nat) : Option Int32 → Nat → Int32
  | none => f
  | some v => upd f c v
def gu_s (f : Nat → Int32) (c : Nat) (y : Int32) : Option Int32 → Nat → Int32
  | none => f
  | some _ => upd f c y
def gm_up (A : gm_A) (cc fc p' : Nat) (es : List gm_M) (lw aw : Option (Nat × Nat)) (fw : Option Int32) : gm_A :=
  (gu_k (fun x => nI x.1) A.1 cc es, gu_k (fun x => x.2.1) A.2.1 cc es, gu_k (fun x => nI x.2.2) A.2.2.1 cc es, gu_l A.2.2.2.1 lw, gu_l A.2.2.2.2.1 aw,
   gu_s A.2.2.2.2.2.1 fc (nI cc) fw, gu_f A.2.2.2.2.2.2.1 fc fw, gu_s A.2.2.2.2.2.2.2 fc (nI p') fw)
def gm_o (b : Bool) (p : Nat) (o : Int32) : Int32 := if b = true then (if o < 0 then nI p else o) else o
def gm_inv (K V : Nat → Int32) (n p : Nat) (S : List gm_I) (cc lc fc : Nat) : Prop :=
  p ≤ n ∧ gm_lin p S cc lc ∧ gm_sh S ∧ gm_lb lc S ∧ gm_pl p S ∧ gm_va K V n p S ∧ fc ≤ 4 ∧ gm_s2 S
def gm_run (K V : Nat → Int32) (n : Nat) (E : Nat → (Nat → Int32) → (Nat → Int32) → Prop) (D : Nat → Nat → Nat → Nat → Int32 → gm_A → Prop) :
    Nat → Nat → List gm_I → Nat → Nat → Nat → Int32 → gm_A → Prop
  | 0, _, _, _, _, _, _, _ => False
  | _ + 1, p, [], cc, lc, fc, o, A => D p cc lc fc o A
  | m + 1, p, x :: S, cc, lc, fc, o, A =>
    gm_d K V n (fun e w => E e A.2.2.2.2.1 (gu_f A.2.2.2.2.2.2.1 fc w))
      (fun p' S' lc' fc' b es lw aw fw => gm_run K V n E D m p' S' (cc + es.length) lc' fc' (gm_o b p o) (gm_up A cc fc p' es lw aw fw)) p x S cc lc fc
def gm_sc (K : Nat → Int32) (n : Nat) (F : gm_A) (p : Nat) (x : gm_I) : Prop :=
  (x.1 = 16 → gm_tk K n p = 5 → F.2.2.2.2.1 x.2.1 = 0) ∧ (x.1 = 17 → gm_tk K n p = 5 → F.2.2.2.2.1 x.2.1 = nI x.2.2.1)
def gm_ok (K V : Nat → Int32) (n : Nat) (F : gm_A) (NF : Nat) : Nat → Nat → List gm_I → Nat → Nat → Nat → Prop
  | 0, _, _, _, _, _ => False
  | _ + 1, p, [], cc, lc, fc => gm_inv K V n p [] cc lc fc ∧ fc = NF
  | m + 1, p, x :: S, cc, lc, fc => gm_inv K V n p (x :: S) cc lc fc ∧ gm_sc K n F p x ∧
    gm_d K V n (fun _ _ => False) (fun p' S' lc' fc' b es lw _ fw => b = false ∧ gm_up F cc fc p' es lw none fw = F ∧ gm_ok K V n F NF m p' S' (cc + es.length) lc' fc') p x S cc lc fc
/-! writes that write what stands there -/
theorem gu_fix1 {F : Nat → Int32} {k : Nat} {v : Int32} (h : F k = v) : upd F k v = F := by
  funext j
  by_cases z : j = k
  · subst z; rw [pk_us, h]
  · rw [pk_un z]
theorem gu_lo (g : gm_M → Int32) : ∀ (es : List gm_M) (f : Nat → Int32) (c j : Nat), j < c → gu_k g f c es j = f j
  | [], _, _, _, _ => rfl
  | x :: es, f, c, j, h => (gu_lo g es (upd f c (g x)) (c + 1) j (by omega)).trans (pk_un (by omega))
theorem gu_fix (g : gm_M → Int32) : ∀ (es : List gm_M) (F f : Nat → Int32) (c : Nat), (∀ j, c ≤ j → j < c + es.length → F j = gu_k g f c es j) → gu_k g F c es = F
  | [], _, _, _, _ => rfl
  | x :: es, F, f, c, h => by
    have h0 : F c = g x := by
      rw [h c (by omega) (by simp), gu_k, gu_lo g es _ _ _ (by omega), pk_us]
    rw [gu_k, gu_fix1 h0]
    refine gu_fix g es F (upd f c (g x)) (c + 1) fun j h1 h2 => ?_
    exact h j (by omega) (by simp only [List.length_cons]; omega)
def gm_np (l : Nat) : List gm_I → Prop
  | [] => True
  | x :: S => ((x.1 = 6 ∨ x.1 = 7 ∨ x.1 = 15) → l ≠ x.2.1) ∧ ((x.1 = 6 ∨ x.1 = 7 ∨ x.1 = 8 ∨ x.1 = 9 ∨ x.1 = 10) → l ≠ x.2.1 + 1) ∧ gm_np l S
def gm_nq (q : Nat) : List gm_I → Prop
  | [] => True
  | x :: S => ((x.1 = 16 ∨ x.1 = 17) → q ≠ x.2.1) ∧ gm_nq q S
theorem gm_lb_np {l : Nat} : ∀ {S : List gm_I} {b : Nat}, gm_lb b S → b ≤ l → gm_np l S
  | [], _, _, _ => trivial
  | x :: S, b, h, hl => by
    unfold gm_lb at h
    split at h
    · exact ⟨fun _ => by omega, fun _ => by omega, gm_lb_np h.2 (by omega)⟩
    · rename_i z
      exact ⟨fun y => absurd y (by omega), fun y => absurd y (by omega), gm_lb_np h hl⟩
theorem gm_pl_nq {q : Nat} : ∀ {S : List gm_I} {b : Nat}, gm_pl b S → b ≤ q → gm_nq q S
  | [], _, _, _ => trivial
  | x :: S, b, h, hl => by
    unfold gm_pl at h
    split at h
    · exact ⟨fun _ => by omega, gm_pl_nq h.2 (by omega)⟩
    · rename_i z
      exact ⟨fun y => absurd y z, gm_pl_nq h hl⟩
/-! the shapes last -/
def gm_st (K V : Nat → Int32) (n : Nat) : gm_K Prop := fun p' S' lc' fc' _ _ _ _ _ =>
  gm_sh S' ∧ gm_lb lc' S' ∧ gm_pl p' S' ∧ gm_va K V n p' S' ∧ fc' ≤ 4
theorem gs_stm {K V : Nat → Int32} {n p : Nat} {S : List gm_I} {cc lc fc : Nat} (ht : gm_tok K V n) (hw : gm_nw S) (h1 : gm_sh S) (h2 : gm_lb lc S) (h3 : gm_pl p S) (h4 : gm_va K V n p S) (h5 : fc ≤ 4) :
    gm_stm K V n (fun _ _ => True) (gm_st K V n) p S cc lc fc := by
  have a1 : gm_pl (p + 1) S := gm_pl_up (by omega) h3
  have a2 : gm_pl (p + 2) S := gm_pl_up (by omega) h3
  have b1 : gm_va K V n (p + 1) S := gm_va_up (by omega) h4
  have b2 : gm_va K V n (p + 2) S := gm_va_up (by omega) h4
  unfold gm_stm
  repeat' split
  all_goals try trivial
  all_goals try (cases hO : gm_opn S)
  all_goals
    have hp := gm_tk_lt (by assumption : gm_tk K n p = _) (by decide)
    have hk := ht p hp
    try have hq := gm_tk_lt (by assumption : gm_tk K n (p + 1) = _) (by decide)
    simp_all [gm_brk, gm_st, gm_sh, gm_nw, gm_lb, gm_pl, gm_va, gm_vl, gm_ve, gm_tk]
  all_goals try omega
  all_goals
    obtain ⟨u, hu, e⟩ := hk.2
    exact ⟨u, hu, e, by rw [e, nI_clamp (by omega)]⟩
theorem gs_una {K V : Nat → Int32} {n p : Nat} {S : List gm_I} {cc lc fc : Nat} (ht : gm_tok K V n) (h1 : gm_sh S) (h2 : gm_lb lc S) (h3 : gm_pl p S) (h4 : gm_va K V n p S) (h5 : fc ≤ 4) :
    gm_una K V n (fun _ _ => True) (gm_st K V n) p S lc fc := by
  have a1 : gm_pl (p + 1) S := gm_pl_up (by omega) h3
  have a2 : gm_pl (p + 2) S := gm_pl_up (by omega) h3
  have b1 : gm_va K V n (p + 1) S := gm_va_up (by omega) h4
  have b2 : gm_va K V n (p + 2) S := gm_va_up (by omega) h4
  unfold gm_una
  repeat' split
  all_goals try trivial
  all_goals
    have hp := gm_tk_lt (by assumption : gm_tk K n p = _) (by decide)
    have hk := ht p hp
    try have hq := gm_tk_lt (by assumption : gm_tk K n (p + 1) = _) (by decide)
    simp_all [gm_brk, gm_st, gm_sh, gm_nw, gm_lb, gm_pl, gm_va, gm_vl, gm_ve, gm_tk]
theorem gm_str_k {k : Nat} (hk : k ≤ 41) (h : 1 ≤ gm_str (nI k)) : 13 ≤ k ∧ k ≤ 31 := by
  unfold gm_str at h
  rw [nI_clamp (by omega)] at h
  repeat' split at h
  all_goals omega
theorem gm_str_le (t : Int32) : gm_str t ≤ 10 := by
  unfold gm_str
  repeat' split
  all_goals omega
theorem gs_bin {K V : Nat → Int32} {n p w : Nat} {S : List gm_I} {lc fc : Nat} (ht : gm_tok K V n) (hw : 1 ≤ w) (hw' : w ≤ 11) (h1 : gm_sh S) (h2 : gm_lb lc S) (h3 : gm_pl p S) (h4 : gm_va K V n p S) (h5 : fc ≤ 4) :
    gm_bin K n (gm_st K V n) p w S lc fc := by
  have a1 : gm_pl (p + 1) S := gm_pl_up (by omega) h3
  have b1 : gm_va K V n (p + 1) S := gm_va_up (by omega) h4
  unfold gm_bin
  split
  · exact ⟨h1, h2, h3, h4, h5⟩
  · rename_i hs
    have hp : p < n := by
      by_cases z : p < n
      · exact z
      · rw [show gm_tk K n p = -1 from if_neg z, gm_str0] at hs
        omega
    have hk := ht p hp
    have hle := gm_str_le (K p)
    obtain ⟨⟨k, hk1, hk2⟩, -⟩ := hk
    rw [gm_tk_K hp, hk2] at hs
    have hr := gm_str_k hk1 (by omega)
    have hkc : (nI k).toNatClampNeg = k := nI_clamp (by omega)
    repeat' split
    · simp [gm_brk, gm_st, gm_sh, gm_nw, gm_lb, gm_pl, gm_va, gm_vl, gm_ve, a1, b1, h1, h2, h5, hw, hw']
    · simp [gm_brk, gm_st, gm_sh, gm_nw, gm_lb, gm_pl, gm_va, gm_vl, gm_ve, a1, b1, h1, h2, h5, hw, hw']
    · rename_i n13 n14
      rw [gm_tk_K hp, hk2] at n13 n14 ⊢
      have e13 : k ≠ 13 := fun z => n13 (by rw [z]; rfl)
      have e14 : k ≠ 14 := fun z => n14 (by rw [z]; rfl)
      rw [hk2] at hle
      simp [gm_brk, gm_st, gm_sh, gm_nw, gm_lb, gm_pl, gm_va, gm_vl, gm_ve, a1, b1, h1, h2, h5, hw, hw', hkc, hp, hk2]
      omega
theorem gs_prg {K V : Nat → Int32} {n p : Nat} {S : List gm_I} {lc fc : Nat} (h5 : fc ≤ 4) (h0 : S = []) :
    gm_prg K V n (fun _ _ => True) (gm_st K V n) p S lc fc := by
  subst h0
  unfold gm_prg
  repeat' split
  all_goals try trivial
  all_goals
    simp [gm_brk, gm_st, gm_sh, gm_nw, gm_lb, gm_pl, gm_va, gm_vl, gm_ve]
    omega
theorem gs_d {K V : Nat → Int32} {n p : Nat} {x : gm_I} {S : List gm_I} {cc lc fc : Nat} (ht : gm_tok K V n) (hn : p ≤ n) (h1 : gm_sh (x :: S)) (h2 : gm_lb lc (x :: S)) (h3 : gm_pl p (x :: S)) (h4 : gm_va K V n p (x :: S)) (h5 : fc ≤ 4) :
    gm_d K V n (fun _ _ => True) (gm_st K V n) p x S cc lc fc := by
  obtain ⟨t, a, b, e, v⟩ := x
  obtain ⟨q0, qw, q1⟩ := h1
  obtain ⟨v1, v2⟩ := h4
  unfold gm_d
  dsimp only at *
  by_cases z : t = 1
  · subst z; rw [if_pos rfl]
    exact gs_prg h5 (q0 rfl)
  rw [if_neg z]
  by_cases z : t = 2
  · subst z; rw [if_pos rfl]
    simp_all [gm_brk, gm_st, gm_sh, gm_nw, gm_lb, gm_pl, gm_va, gm_vl, gm_ve]
  rw [if_neg z]
  by_cases z : t = 3
  · subst z; rw [if_pos rfl]
    split
    · have a1 : gm_pl (p + 1) S := gm_pl_up (b := p) (by omega) (by simpa [gm_pl] using h3)
      have b1 : gm_va K V n (p + 1) S := gm_va_up (by omega) v2
      simp_all [gm_brk, gm_st, gm_sh, gm_nw, gm_lb, gm_pl, gm_va, gm_vl, gm_ve]
    · exact gs_stm ht ⟨by decide, qw (by omega)⟩ ⟨q0, qw, q1⟩ h2 h3 ⟨v1, v2⟩ h5
  rw [if_neg z]
  by_cases z : t = 4
  · subst z; rw [if_pos rfl]
    exact gs_stm ht (qw (by omega)) q1 (by simpa [gm_lb] using h2) (by simpa [gm_pl] using h3) v2 h5
  rw [if_neg z]
  by_cases z : t = 5
  · subst z; rw [if_pos rfl]
    have a1 : gm_pl (p + 1) S := gm_pl_up (b := p) (by omega) (by simpa [gm_pl] using h3)
    have b1 : gm_va K V n (p + 1) S := gm_va_up (by omega) v2
    split
    · simp_all [gm_brk, gm_st, gm_sh, gm_nw, gm_lb, gm_pl, gm_va, gm_vl, gm_ve]
    · trivial
  rw [if_neg z]
  by_cases z : t = 6
  · subst z; rw [if_pos rfl]
    simp_all [gm_brk, gm_st, gm_sh, gm_nw, gm_lb, gm_pl, gm_va, gm_vl, gm_ve]
  rw [if_neg z]
  by_cases z : t = 7
  · subst z; rw [if_pos rfl]
    have a1 : gm_pl (p + 1) S := gm_pl_up (b := p) (by omega) (by simpa [gm_pl] using h3)
    have b1 : gm_va K V n (p + 1) S := gm_va_up (by omega) v2
    have c1 := gm_lb_up (b := a) (c := lc) (S := S) (by simp [gm_lb] at h2; omega) (by simp [gm_lb] at h2; exact h2.2)
    split
    · simp_all [gm_brk, gm_st, gm_sh, gm_nw, gm_lb, gm_pl, gm_va, gm_vl, gm_ve]
    · simp_all [gm_brk, gm_st, gm_sh, gm_nw, gm_lb, gm_pl, gm_va, gm_vl, gm_ve]
  rw [if_neg z]
  by_cases z : t = 8
  · subst z; rw [if_pos rfl]
    have c1 := gm_lb_up (b := a) (c := lc) (S := S) (by simp [gm_lb] at h2; omega) (by simp [gm_lb] at h2; exact h2.2)
    simp_all [gm_brk, gm_st, gm_sh, gm_nw, gm_lb, gm_pl, gm_va, gm_vl, gm_ve]
  rw [if_neg z]
  by_cases z : t = 9
  · subst z; rw [if_pos rfl]
    simp_all [gm_brk, gm_st, gm_sh, gm_nw, gm_lb, gm_pl, gm_va, gm_vl, gm_ve]
  rw [if_neg z]
  by_cases z : t = 10
  · subst z; rw [if_pos rfl]
    have c1 := gm_lb_up (b := a) (c := lc) (S := S) (by simp [gm_lb] at h2; omega) (by simp [gm_lb] at h2; exact h2.2)
    simp_all [gm_brk, gm_st, gm_sh, gm_nw, gm_lb, gm_pl, gm_va, gm_vl, gm_ve]
  rw [if_neg z]
  by_cases z : t = 11 ∨ t = 19 ∨ t = 20
  · rw [if_pos z]
    rcases z with z | z | z <;> subst z <;> simp_all [gm_st, gm_lb, gm_pl]
  rw [if_neg z]
  by_cases z : t = 12
  · subst z; rw [if_pos rfl]
    exact gs_una (cc := cc) ht ⟨by simp, by simp, q1⟩ (by simpa [gm_lb] using h2) (by simpa [gm_pl] using h3) ⟨by simpa [gm_vl] using v1, v2⟩ h5
  rw [if_neg z]
  by_cases z : t = 13
  · subst z; rw [if_pos rfl]
    have v1' : 1 ≤ a ∧ a ≤ 11 := by simpa [gm_vl] using v1
    exact gs_bin ht v1'.1 v1'.2 q1 (by simpa [gm_lb] using h2) (by simpa [gm_pl] using h3) v2 h5
  rw [if_neg z]
  by_cases z : t = 14
  · subst z; rw [if_pos rfl]
    exact gs_una (cc := cc) ht q1 (by simpa [gm_lb] using h2) (by simpa [gm_pl] using h3) v2 h5
  rw [if_neg z]
  by_cases z : t = 15
  · subst z; rw [if_pos rfl]
    have c1 := gm_lb_up (b := a) (c := lc) (S := S) (by simp [gm_lb] at h2; omega) (by simp [gm_lb] at h2; exact h2.2)
    simp_all [gm_brk, gm_st, gm_sh, gm_nw, gm_lb, gm_pl, gm_va, gm_vl, gm_ve]
  rw [if_neg z]
  by_cases z : t = 16
  · subst z; rw [if_pos rfl]
    have h3' : a < p ∧ gm_pl a S := by simpa [gm_pl] using h3
    have a0 : gm_pl p S := gm_pl_up (by omega) h3'.2
    have a1 : gm_pl (p + 1) S := gm_pl_up (by omega) h3'.2
    have b1 : gm_va K V n (p + 1) S := gm_va_up (by omega) v2
    split
    · simp_all [gm_brk, gm_st, gm_sh, gm_nw, gm_lb, gm_pl, gm_va, gm_vl, gm_ve]
    · simp_all [gm_brk, gm_st, gm_sh, gm_nw, gm_lb, gm_pl, gm_va, gm_vl, gm_ve]
      omega
  rw [if_neg z]
  by_cases z : t = 17
  · subst z; rw [if_pos rfl]
    have h3' : a < p ∧ gm_pl a S := by simpa [gm_pl] using h3
    have a1 : gm_pl (p + 1) S := gm_pl_up (by omega) h3'.2
    have b1 : gm_va K V n (p + 1) S := gm_va_up (by omega) v2
    repeat' split
    · simp_all [gm_brk, gm_st, gm_sh, gm_nw, gm_lb, gm_pl, gm_va, gm_vl, gm_ve]
    · simp_all [gm_brk, gm_st, gm_sh, gm_nw, gm_lb, gm_pl, gm_va, gm_vl, gm_ve]
      omega
    · trivial
  rw [if_neg z]
  by_cases z : t = 18
  · subst z; rw [if_pos rfl]
    simp_all [gm_brk, gm_st, gm_sh, gm_nw, gm_lb, gm_pl, gm_va, gm_vl, gm_ve]
  rw [if_neg z]
  trivial
theorem gs2_stm {K V : Nat → Int32} {n p : Nat} {S : List gm_I} {cc lc fc : Nat} (hl : gm_sl S) (h : gm_s2 S) : gm_stm K V n (fun _ _ => True) (fun _ S' _ _ _ _ _ _ _ => gm_s2 S') p S cc lc fc := by
  have hh := gm_sl_hd hl
  unfold gm_stm
  repeat' split
  all_goals try trivial
  all_goals try (cases hO : gm_opn S)
  all_goals simp [gm_brk, gm_s2, gm_sl, gm_hd_c, gm_hd_n, hl, h, hh]
theorem gs2_una {K V : Nat → Int32} {n p : Nat} {S : List gm_I} {lc fc : Nat} (hh : ¬ gm_hd S = 18) (h : gm_s2 S) : gm_una K V n (fun _ _ => True) (fun _ S' _ _ _ _ _ _ _ => gm_s2 S') p S lc fc := by
  unfold gm_una
  repeat' split
  all_goals try trivial
  all_goals simp [gm_s2, gm_sl, gm_hd_c, gm_hd_n, h, hh]
theorem gs2_bin {K : Nat → Int32} {n p w : Nat} {S : List gm_I} {lc fc : Nat} (hw : 1 ≤ w) (hh : ¬ gm_hd S = 18) (h : gm_s2 S) : gm_bin K n (fun _ S' _ _ _ _ _ _ _ => gm_s2 S') p w S lc fc := by
  unfold gm_bin
  split
  · exact h
  · rename_i hs
    have hk : (gm_tk K n p).toNatClampNeg ≠ 39 := by
      intro z
      unfold gm_str at hs
      rw [z] at hs
      simp at hs
      omega
    repeat' split
    all_goals simp [gm_s2, gm_sl, gm_hd_c, gm_hd_n, h, hk, hh]
theorem gs2_prg {K V : Nat → Int32} {n p : Nat} {S : List gm_I} {lc fc : Nat} (h0 : S = []) : gm_prg K V n (fun _ _ => True) (fun _ S' _ _ _ _ _ _ _ => gm_s2 S') p S lc fc := by
  subst h0
  unfold gm_prg
  repeat' split
  all_goals try trivial
  all_goals simp [gm_s2, gm_sl, gm_hd_c, gm_hd_n]
theorem gs2_d {K V : Nat → Int32} {n p : Nat} {x : gm_I} {S : List gm_I} {cc lc fc : Nat} (h0 : x.1 = 1 → S = []) (h13 : x.1 = 13 → 1 ≤ x.2.1) (h : gm_s2 (x :: S)) : gm_d K V n (fun _ _ => True) (fun _ S' _ _ _ _ _ _ _ => gm_s2 S') p x S cc lc fc := by
  obtain ⟨t, a, b, e, v⟩ := x
  obtain ⟨q1, q2, q4, q3⟩ := h
  unfold gm_d
  dsimp only at *
  by_cases z : t = 1
  · subst z; rw [if_pos rfl]
    exact gs2_prg (h0 rfl)
  rw [if_neg z]
  by_cases z : t = 2
  · subst z; rw [if_pos rfl]
    repeat' split
    all_goals first | trivial | exact q3 | (simp [gm_s2, gm_sl, gm_hd_c, gm_hd_n, q3]; done) | (have q1' := q1 (by simp); have q5 := gm_sl_hd q1'; simp [gm_s2, gm_sl, gm_hd_c, gm_hd_n, q3, q1', q5])
  rw [if_neg z]
  by_cases z : t = 3
  · subst z; rw [if_pos rfl]
    split
    · exact q3
    · exact gs2_stm ⟨by simp, q1 (by simp)⟩ ⟨fun _ => q1 (by simp), by simp, fun z => absurd z (gm_sl_hd (q1 (by simp))), q3⟩
  rw [if_neg z]
  by_cases z : t = 4
  · subst z; rw [if_pos rfl]
    exact gs2_stm (q1 (by simp)) q3
  rw [if_neg z]
  by_cases z : t = 5
  · subst z; rw [if_pos rfl]
    repeat' split
    all_goals first | trivial | exact q3 | (simp [gm_s2, gm_sl, gm_hd_c, gm_hd_n, q3]; done) | (have q1' := q1 (by simp); have q5 := gm_sl_hd q1'; simp [gm_s2, gm_sl, gm_hd_c, gm_hd_n, q3, q1', q5])
  rw [if_neg z]
  by_cases z : t = 6
  · subst z; rw [if_pos rfl]
    repeat' split
    all_goals first | trivial | exact q3 | (simp [gm_s2, gm_sl, gm_hd_c, gm_hd_n, q3]; done) | (have q1' := q1 (by simp); have q5 := gm_sl_hd q1'; simp [gm_s2, gm_sl, gm_hd_c, gm_hd_n, q3, q1', q5])
  rw [if_neg z]
  by_cases z : t = 7
  · subst z; rw [if_pos rfl]
    repeat' split
    all_goals first | trivial | exact q3 | (simp [gm_s2, gm_sl, gm_hd_c, gm_hd_n, q3]; done) | (have q1' := q1 (by simp); have q5 := gm_sl_hd q1'; simp [gm_s2, gm_sl, gm_hd_c, gm_hd_n, q3, q1', q5])
  rw [if_neg z]
  by_cases z : t = 8
  · subst z; rw [if_pos rfl]
    repeat' split
    all_goals first | trivial | exact q3 | (simp [gm_s2, gm_sl, gm_hd_c, gm_hd_n, q3]; done) | (have q1' := q1 (by simp); have q5 := gm_sl_hd q1'; simp [gm_s2, gm_sl, gm_hd_c, gm_hd_n, q3, q1', q5])
  rw [if_neg z]
  by_cases z : t = 9
  · subst z; rw [if_pos rfl]
    repeat' split
    all_goals first | trivial | exact q3 | (simp [gm_s2, gm_sl, gm_hd_c, gm_hd_n, q3]; done) | (have q1' := q1 (by simp); have q5 := gm_sl_hd q1'; simp [gm_s2, gm_sl, gm_hd_c, gm_hd_n, q3, q1', q5])
  rw [if_neg z]
  by_cases z : t = 10
  · subst z; rw [if_pos rfl]
    repeat' split
    all_goals first | trivial | exact q3 | (simp [gm_s2, gm_sl, gm_hd_c, gm_hd_n, q3]; done) | (have q1' := q1 (by simp); have q5 := gm_sl_hd q1'; simp [gm_s2, gm_sl, gm_hd_c, gm_hd_n, q3, q1', q5])
  rw [if_neg z]
  by_cases z : t = 11 ∨ t = 19 ∨ t = 20
  · rw [if_pos z]; exact q3
  rw [if_neg z]
  by_cases z : t = 12
  · subst z; rw [if_pos rfl]
    exact gs2_una (by simp [gm_hd_c]) ⟨by simp, by simp, fun z => absurd (q4 z) (by decide), q3⟩
  rw [if_neg z]
  by_cases z : t = 13
  · subst z; rw [if_pos rfl]
    exact gs2_bin (h13 rfl) (fun z => absurd (q4 z) (by decide)) q3
  rw [if_neg z]
  by_cases z : t = 14
  · subst z; rw [if_pos rfl]
    exact gs2_una (fun z => absurd (q4 z) (by decide)) q3
  rw [if_neg z]
  by_cases z : t = 15
  · subst z; rw [if_pos rfl]
    repeat' split
    all_goals first | trivial | exact q3 | (simp [gm_s2, gm_sl, gm_hd_c, gm_hd_n, q3]; done) | (have q1' := q1 (by simp); have q5 := gm_sl_hd q1'; simp [gm_s2, gm_sl, gm_hd_c, gm_hd_n, q3, q1', q5])
  rw [if_neg z]
  by_cases z : t = 16
  · subst z; rw [if_pos rfl]
    repeat' split
    all_goals first | trivial | exact q3 | (simp [gm_s2, gm_sl, gm_hd_c, gm_hd_n, q3]; done) | (have q1' := q1 (by simp); have q5 := gm_sl_hd q1'; simp [gm_s2, gm_sl, gm_hd_c, gm_hd_n, q3, q1', q5])
  rw [if_neg z]
  by_cases z : t = 17
  · subst z; rw [if_pos rfl]
    repeat' split
    all_goals first | trivial | exact q3 | (simp [gm_s2, gm_sl, gm_hd_c, gm_hd_n, q3]; done) | (have q1' := q1 (by simp); have q5 := gm_sl_hd q1'; simp [gm_s2, gm_sl, gm_hd_c, gm_hd_n, q3, q1', q5])
  rw [if_neg z]
  by_cases z : t = 18
  · subst z; rw [if_pos rfl]
    repeat' split
    all_goals first | trivial | exact q3 | (simp [gm_s2, gm_sl, gm_hd_c, gm_hd_n, q3]; done) | (have q1' := q1 (by simp); have q5 := gm_sl_hd q1'; simp [gm_s2, gm_sl, gm_hd_c, gm_hd_n, q3, q1', q5])
  rw [if_neg z]
  trivial
theorem gm_inv_d {K V : Nat → Int32} {n p : Nat} {x : gm_I} {S : List gm_I} {cc lc fc : Nat} (ht : gm_tok K V n) (h : gm_inv K V n p (x :: S) cc lc fc) :
    gm_d K V n (fun _ _ => True) (fun p' S' lc' fc' _ es _ _ _ => gm_inv K V n p' S' (cc + es.length) lc' fc' ∧ p ≤ p' ∧ gm_sm gw_m S' + 3 * (n - p') < gm_sm gw_m (x :: S) + 3 * (n - p) ∧ p + gm_sm gw_r (x :: S) ≤ p' + gm_sm gw_r S') p x S cc lc fc := by
  obtain ⟨hn, hl, h1, h2, h3, h4, h5, h6⟩ := h
  have v := h4.1
  have g2 := gs2_d (K := K) (V := V) (n := n) (p := p) (cc := cc) (lc := lc) (fc := fc) h1.1 (fun z => by unfold gm_vl at v; simp [z] at v; exact v.1) h6
  refine gm_and (E' := fun _ _ => True) (gm_and (E2 := fun _ _ => True) (C2 := fun p' S' lc' fc' _ es _ _ _ => (gm_lin p' S' (cc + es.length) lc' ∧ p ≤ p' ∧ p' ≤ n ∧ gm_sm gw_m S' + 3 * (n - p') < gm_sm gw_m (x :: S) + 3 * (n - p) ∧ p + gm_sm gw_r (x :: S) ≤ p' + gm_sm gw_r S') ∧ gm_s2 S') (gl_d hn hl h1.1 (fun z => ?_) (fun z => ?_) (fun z => ?_)) g2 (fun _ _ _ _ => trivial) (fun p' S' lc' fc' o es lw aw fw a b => ⟨a, b⟩)) (gs_d (cc := cc) ht hn h1 h2 h3 h4 h5) (fun _ _ _ _ => trivial) (fun p' S' lc' fc' o es lw aw fw a b => ?_)
  · unfold gm_vl at v
    rw [if_pos z] at v
    exact v
  · unfold gm_vl at v
    simp [z] at v
    exact v.1
  · unfold gm_vl at v
    simp [z] at v
    exact v.2.1
  · exact ⟨⟨a.1.2.2.1, a.1.1, b.1, b.2.1, b.2.2.1, b.2.2.2.1, b.2.2.2.2, a.2⟩, a.1.2.1, a.1.2.2.2.1, a.1.2.2.2.2⟩
end
section
/-! X, compile: the plan stack as a list, the small methods -/
def xp_Pd (pk pv pp : Nat → Int32) : List gm_M → Prop
  | [] => True
  | x :: P => pk P.length = nI x.1 ∧ pv P.length = x.2.1 ∧ pp P.length = nI x.2.2 ∧ xp_Pd pk pv pp P
def xp_Ol (ol : Nat → Int32) : List Nat → Prop
  | [] => True
  | a :: l => ol l.length = nI a ∧ xp_Ol ol l
theorem xp_Pd_up {pk pv pp : Nat → Int32} {k : Nat} {a b c : Int32} : ∀ {P : List gm_M}, xp_Pd pk pv pp P → P.length ≤ k → xp_Pd (upd pk k a) (upd pv k b) (upd pp k c) P
  | [], _, _ => trivial
  | x :: P, h, hk => by
    have h1 : P.length + 1 ≤ k := hk
    have h2 : P.length ≠ k := by omega
    exact ⟨(pk_un h2).trans h.1, (pk_un h2).trans h.2.1, (pk_un h2).trans h.2.2.1, xp_Pd_up h.2.2.2 (by omega)⟩
theorem xp_Ol_up {ol : Nat → Int32} {k : Nat} {a : Int32} : ∀ {l : List Nat}, xp_Ol ol l → l.length ≤ k → xp_Ol (upd ol k a) l
  | [], _, _ => trivial
  | x :: l, h, hk => by
    have h1 : l.length + 1 ≤ k := hk
    have h2 : l.length ≠ k := by omega
    exact ⟨(pk_un h2).trans h.1, xp_Ol_up h.2 (by omega)⟩
theorem xm_plan {post : SX → Prop} {f_tokenCount f_planCount f_next f_wrongToken f_looseJump f_latestPlace f_openLoopCount f_codeCount f_labelCount f_functionCount f_registerCount f_activeCalls f_stackCount f_nextCode f_running f_ending f_endingPlace f_resultValue f_ticksUsed f_printedCount : Int32} {a_tokenKind a_tokenValue a_planKind a_planValue a_planPlace a_argumentCount a_openLoop a_codeKind a_codeValue a_codePlace a_labelTarget a_functionStart a_functionParameters a_register a_frame a_returnTo a_stack a_element a_outputValue : Nat → Int32} {P : List gm_M} (k : Nat) (v : Int32) (q : Nat) (hc : f_planCount = nI P.length) (hl : P.length < 960) (hP : xp_Pd a_planKind a_planValue a_planPlace P)
    (H : ∀ pk pv pp, xp_Pd pk pv pp ((k, v, q) :: P) → post (f_tokenCount, nI ((k, v, q) :: P).length, f_next, f_wrongToken, f_looseJump, f_latestPlace, f_openLoopCount, f_codeCount, f_labelCount, f_functionCount, f_registerCount, f_activeCalls, f_stackCount, f_nextCode, f_running, f_ending, f_endingPlace, f_resultValue, f_ticksUsed, f_printedCount, a_tokenKind, a_tokenValue, pk, pv, pp, a_argumentCount, a_openLoop, a_codeKind, a_codeValue, a_codePlace, a_labelTarget, a_functionStart, a_functionParameters, a_register, a_frame, a_returnTo, a_stack, a_element, a_outputValue)) : wpX_plan post (f_tokenCount, f_planCount, f_next, f_wrongToken, f_looseJump, f_latestPlace, f_openLoopCount, f_codeCount, f_labelCount, f_functionCount, f_registerCount, f_activeCalls, f_stackCount, f_nextCode, f_running, f_ending, f_endingPlace, f_resultValue, f_ticksUsed, f_printedCount, a_tokenKind, a_tokenValue, a_planKind, a_planValue, a_planPlace, a_argumentCount, a_openLoop, a_codeKind, a_codeValue, a_codePlace, a_labelTarget, a_functionStart, a_functionParameters, a_register, a_frame, a_returnTo, a_stack, a_element, a_outputValue) (nI k) v (nI q) := by
  subst hc
  have h1 : ¬ (960 : Int32) ≤ nI P.length := nI_ge (b := 960) hl (by decide)
  have h2 : vp_in (nI P.length) 960 := vp_in_nI hl (by decide)
  have h3 : (nI P.length).toNatClampNeg = P.length := nI_clamp (by omega)
  refine br_f h1 ⟨h2, nm_r (by rw [h3]) ⟨h2, nm_r (by rw [h3]) ⟨h2, nm_r (by rw [h3]) (nm_r (nI_1 _) ?_)⟩⟩⟩
  exact H _ _ _ ⟨pk_us, pk_us, pk_us, xp_Pd_up hP (Nat.le_refl _)⟩
theorem xm_kindAt {post : Int32 → Prop} {f_tokenCount f_planCount f_next f_wrongToken f_looseJump f_latestPlace f_openLoopCount f_codeCount f_labelCount f_functionCount f_registerCount f_activeCalls f_stackCount f_nextCode f_running f_ending f_endingPlace f_resultValue f_ticksUsed f_printedCount : Int32} {a_tokenKind a_tokenValue a_planKind a_planValue a_planPlace a_argumentCount a_openLoop a_codeKind a_codeValue a_codePlace a_labelTarget a_functionStart a_functionParameters a_register a_frame a_returnTo a_stack a_element a_outputValue : Nat → Int32} {n p : Nat} {x : Int32} (hx : x = nI p) (ht : f_tokenCount = nI n) (hn : n ≤ 120) (hp : p ≤ 120)
    (H : post (gm_tk a_tokenKind n p)) : wpX_kindAt post (f_tokenCount, f_planCount, f_next, f_wrongToken, f_looseJump, f_latestPlace, f_openLoopCount, f_codeCount, f_labelCount, f_functionCount, f_registerCount, f_activeCalls, f_stackCount, f_nextCode, f_running, f_ending, f_endingPlace, f_resultValue, f_ticksUsed, f_printedCount, a_tokenKind, a_tokenValue, a_planKind, a_planValue, a_planPlace, a_argumentCount, a_openLoop, a_codeKind, a_codeValue, a_codePlace, a_labelTarget, a_functionStart, a_functionParameters, a_register, a_frame, a_returnTo, a_stack, a_element, a_outputValue) x := by
  subst hx ht
  refine br_f (nI_pos (by omega)) ?_
  refine pk_le 120 p (fun h => ?_) (fun h => ?_)
  · rwa [show gm_tk a_tokenKind n p = -1 from if_neg (by omega)] at H
  · refine pk_le n p (fun h => ?_) (fun h => ?_)
    · rwa [show gm_tk a_tokenKind n p = -1 from if_neg (by omega)] at H
    · rw [show gm_tk a_tokenKind n p = a_tokenKind p from if_pos h] at H
      refine ⟨vp_in_nI (by omega) (by decide), ?_⟩
      rw [nI_clamp (by omega)]
      exact H
theorem xm_valueAt {post : Int32 → Prop} {f_tokenCount f_planCount f_next f_wrongToken f_looseJump f_latestPlace f_openLoopCount f_codeCount f_labelCount f_functionCount f_registerCount f_activeCalls f_stackCount f_nextCode f_running f_ending f_endingPlace f_resultValue f_ticksUsed f_printedCount : Int32} {a_tokenKind a_tokenValue a_planKind a_planValue a_planPlace a_argumentCount a_openLoop a_codeKind a_codeValue a_codePlace a_labelTarget a_functionStart a_functionParameters a_register a_frame a_returnTo a_stack a_element a_outputValue : Nat → Int32} {p : Nat} {x : Int32} (hx : x = nI p) (hp : p < 120)
    (H : post (a_tokenValue p)) : wpX_valueAt post (f_tokenCount, f_planCount, f_next, f_wrongToken, f_looseJump, f_latestPlace, f_openLoopCount, f_codeCount, f_labelCount, f_functionCount, f_registerCount, f_activeCalls, f_stackCount, f_nextCode, f_running, f_ending, f_endingPlace, f_resultValue, f_ticksUsed, f_printedCount, a_tokenKind, a_tokenValue, a_planKind, a_planValue, a_planPlace, a_argumentCount, a_openLoop, a_codeKind, a_codeValue, a_codePlace, a_labelTarget, a_functionStart, a_functionParameters, a_register, a_frame, a_returnTo, a_stack, a_element, a_outputValue) x := by
  subst hx
  refine br_f (nI_pos (by omega)) (br_f (nI_ge (b := 120) hp (by decide)) ⟨vp_in_nI hp (by decide), ?_⟩)
  rw [nI_clamp (by omega)]
  exact H
theorem xm_valueAt0 {post : Int32 → Prop} {f_tokenCount f_planCount f_next f_wrongToken f_looseJump f_latestPlace f_openLoopCount f_codeCount f_labelCount f_functionCount f_registerCount f_activeCalls f_stackCount f_nextCode f_running f_ending f_endingPlace f_resultValue f_ticksUsed f_printedCount : Int32} {a_tokenKind a_tokenValue a_planKind a_planValue a_planPlace a_argumentCount a_openLoop a_codeKind a_codeValue a_codePlace a_labelTarget a_functionStart a_functionParameters a_register a_frame a_returnTo a_stack a_element a_outputValue : Nat → Int32} {p : Nat} {x : Int32} (hx : x = nI p) (hp : p ≤ 120)
    (H : ∀ v, (p < 120 → v = a_tokenValue p) → post v) : wpX_valueAt post (f_tokenCount, f_planCount, f_next, f_wrongToken, f_looseJump, f_latestPlace, f_openLoopCount, f_codeCount, f_labelCount, f_functionCount, f_registerCount, f_activeCalls, f_stackCount, f_nextCode, f_running, f_ending, f_endingPlace, f_resultValue, f_ticksUsed, f_printedCount, a_tokenKind, a_tokenValue, a_planKind, a_planValue, a_planPlace, a_argumentCount, a_openLoop, a_codeKind, a_codeValue, a_codePlace, a_labelTarget, a_functionStart, a_functionParameters, a_register, a_frame, a_returnTo, a_stack, a_element, a_outputValue) x := by
  by_cases h : p < 120
  · exact xm_valueAt hx h (H _ fun _ => rfl)
  · subst hx
    refine br_f (nI_pos (by omega)) (br_t (nI_le (a := 120) (by omega) (by omega)) (H _ fun z => absurd z h))
theorem xm_take {post : SX → Prop} {f_tokenCount f_planCount f_next f_wrongToken f_looseJump f_latestPlace f_openLoopCount f_codeCount f_labelCount f_functionCount f_registerCount f_activeCalls f_stackCount f_nextCode f_running f_ending f_endingPlace f_resultValue f_ticksUsed f_printedCount : Int32} {a_tokenKind a_tokenValue a_planKind a_planValue a_planPlace a_argumentCount a_openLoop a_codeKind a_codeValue a_codePlace a_labelTarget a_functionStart a_functionParameters a_register a_frame a_returnTo a_stack a_element a_outputValue : Nat → Int32} {n p : Nat} (k : Int32) (hx : f_next = nI p) (ht : f_tokenCount = nI n) (hn : n ≤ 120) (hp : p ≤ 120)
    (H1 : gm_tk a_tokenKind n p = k → post (f_tokenCount, f_planCount, nI (p + 1), f_wrongToken, f_looseJump, f_latestPlace, f_openLoopCount, f_codeCount, f_labelCount, f_functionCount, f_registerCount, f_activeCalls, f_stackCount, f_nextCode, f_running, f_ending, f_endingPlace, f_resultValue, f_ticksUsed, f_printedCount, a_tokenKind, a_tokenValue, a_planKind, a_planValue, a_planPlace, a_argumentCount, a_openLoop, a_codeKind, a_codeValue, a_codePlace, a_labelTarget, a_functionStart, a_functionParameters, a_register, a_frame, a_returnTo, a_stack, a_element, a_outputValue)) (H2 : ¬ gm_tk a_tokenKind n p = k → post (f_tokenCount, f_planCount, f_next, nI p, f_looseJump, f_latestPlace, f_openLoopCount, f_codeCount, f_labelCount, f_functionCount, f_registerCount, f_activeCalls, f_stackCount, f_nextCode, f_running, f_ending, f_endingPlace, f_resultValue, f_ticksUsed, f_printedCount, a_tokenKind, a_tokenValue, a_planKind, a_planValue, a_planPlace, a_argumentCount, a_openLoop, a_codeKind, a_codeValue, a_codePlace, a_labelTarget, a_functionStart, a_functionParameters, a_register, a_frame, a_returnTo, a_stack, a_element, a_outputValue)) : wpX_take post (f_tokenCount, f_planCount, f_next, f_wrongToken, f_looseJump, f_latestPlace, f_openLoopCount, f_codeCount, f_labelCount, f_functionCount, f_registerCount, f_activeCalls, f_stackCount, f_nextCode, f_running, f_ending, f_endingPlace, f_resultValue, f_ticksUsed, f_printedCount, a_tokenKind, a_tokenValue, a_planKind, a_planValue, a_planPlace, a_argumentCount, a_openLoop, a_codeKind, a_codeValue, a_codePlace, a_labelTarget, a_functionStart, a_functionParameters, a_register, a_frame, a_returnTo, a_stack, a_element, a_outputValue) k := by
  unfold wpX_take
  refine xm_kindAt hx ht hn hp ?_
  refine (br_c (fun h => ?_) (fun h => ?_))
  · subst hx
    exact nm_r (nI_1 _) (H1 h)
  · subst hx
    exact H2 h
theorem xm_emit {post : SX → Prop} {f_tokenCount f_planCount f_next f_wrongToken f_looseJump f_latestPlace f_openLoopCount f_codeCount f_labelCount f_functionCount f_registerCount f_activeCalls f_stackCount f_nextCode f_running f_ending f_endingPlace f_resultValue f_ticksUsed f_printedCount : Int32} {a_tokenKind a_tokenValue a_planKind a_planValue a_planPlace a_argumentCount a_openLoop a_codeKind a_codeValue a_codePlace a_labelTarget a_functionStart a_functionParameters a_register a_frame a_returnTo a_stack a_element a_outputValue : Nat → Int32} {cc : Nat} {k v q : Int32} (hc : f_codeCount = nI cc) (hl : cc < 360)
    (H : post (f_tokenCount, f_planCount, f_next, f_wrongToken, f_looseJump, f_latestPlace, f_openLoopCount, nI (cc + 1), f_labelCount, f_functionCount, f_registerCount, f_activeCalls, f_stackCount, f_nextCode, f_running, f_ending, f_endingPlace, f_resultValue, f_ticksUsed, f_printedCount, a_tokenKind, a_tokenValue, a_planKind, a_planValue, a_planPlace, a_argumentCount, a_openLoop, upd a_codeKind cc k, upd a_codeValue cc v, upd a_codePlace cc q, a_labelTarget, a_functionStart, a_functionParameters, a_register, a_frame, a_returnTo, a_stack, a_element, a_outputValue)) : wpX_emit post (f_tokenCount, f_planCount, f_next, f_wrongToken, f_looseJump, f_latestPlace, f_openLoopCount, f_codeCount, f_labelCount, f_functionCount, f_registerCount, f_activeCalls, f_stackCount, f_nextCode, f_running, f_ending, f_endingPlace, f_resultValue, f_ticksUsed, f_printedCount, a_tokenKind, a_tokenValue, a_planKind, a_planValue, a_planPlace, a_argumentCount, a_openLoop, a_codeKind, a_codeValue, a_codePlace, a_labelTarget, a_functionStart, a_functionParameters, a_register, a_frame, a_returnTo, a_stack, a_element, a_outputValue) k v q := by
  subst hc
  have h2 : vp_in (nI cc) 360 := vp_in_nI hl (by decide)
  have h3 : (nI cc).toNatClampNeg = cc := nI_clamp (by omega)
  refine br_f (nI_ge (b := 360) hl (by decide)) ⟨h2, nm_r (by rw [h3]) ⟨h2, nm_r (by rw [h3]) ⟨h2, nm_r (by rw [h3]) (nm_r (nI_1 _) ?_)⟩⟩⟩
  exact H
theorem xm_putLabel {post : SX → Prop} {f_tokenCount f_planCount f_next f_wrongToken f_looseJump f_latestPlace f_openLoopCount f_codeCount f_labelCount f_functionCount f_registerCount f_activeCalls f_stackCount f_nextCode f_running f_ending f_endingPlace f_resultValue f_ticksUsed f_printedCount : Int32} {a_tokenKind a_tokenValue a_planKind a_planValue a_planPlace a_argumentCount a_openLoop a_codeKind a_codeValue a_codePlace a_labelTarget a_functionStart a_functionParameters a_register a_frame a_returnTo a_stack a_element a_outputValue : Nat → Int32} {l : Nat} {x : Int32} (hx : x = nI l) (hl : l < 240)
    (H : post (f_tokenCount, f_planCount, f_next, f_wrongToken, f_looseJump, f_latestPlace, f_openLoopCount, f_codeCount, f_labelCount, f_functionCount, f_registerCount, f_activeCalls, f_stackCount, f_nextCode, f_running, f_ending, f_endingPlace, f_resultValue, f_ticksUsed, f_printedCount, a_tokenKind, a_tokenValue, a_planKind, a_planValue, a_planPlace, a_argumentCount, a_openLoop, a_codeKind, a_codeValue, a_codePlace, upd a_labelTarget l f_codeCount, a_functionStart, a_functionParameters, a_register, a_frame, a_returnTo, a_stack, a_element, a_outputValue)) : wpX_putLabel post (f_tokenCount, f_planCount, f_next, f_wrongToken, f_looseJump, f_latestPlace, f_openLoopCount, f_codeCount, f_labelCount, f_functionCount, f_registerCount, f_activeCalls, f_stackCount, f_nextCode, f_running, f_ending, f_endingPlace, f_resultValue, f_ticksUsed, f_printedCount, a_tokenKind, a_tokenValue, a_planKind, a_planValue, a_planPlace, a_argumentCount, a_openLoop, a_codeKind, a_codeValue, a_codePlace, a_labelTarget, a_functionStart, a_functionParameters, a_register, a_frame, a_returnTo, a_stack, a_element, a_outputValue) x := by
  subst hx
  have h3 : (nI l).toNatClampNeg = l := nI_clamp (by omega)
  exact br_f (nI_pos (by omega)) (br_f (nI_ge (b := 240) hl (by decide)) ⟨vp_in_nI hl (by decide), nm_r (by rw [h3]) H⟩)
end
section
/-! X, compile: the parse methods, each with a general post -/
theorem xm_stmts {post : SX → Prop} {f_tokenCount f_planCount f_next f_wrongToken f_looseJump f_latestPlace f_openLoopCount f_codeCount f_labelCount f_functionCount f_registerCount f_activeCalls f_stackCount f_nextCode f_running f_ending f_endingPlace f_resultValue f_ticksUsed f_printedCount : Int32} {a_tokenKind a_tokenValue a_planKind a_planValue a_planPlace a_argumentCount a_openLoop a_codeKind a_codeValue a_codePlace a_labelTarget a_functionStart a_functionParameters a_register a_frame a_returnTo a_stack a_element a_outputValue : Nat → Int32} {n p : Nat} {P : List gm_M} (hx : f_next = nI p) (ht : f_tokenCount = nI n) (hn : n ≤ 120) (hp : p ≤ 120) (hc : f_planCount = nI P.length) (hP : xp_Pd a_planKind a_planValue a_planPlace P) (hl : P.length + 2 < 960) (H1 : gm_tk a_tokenKind n p = 9 → post (f_tokenCount, f_planCount, f_next, f_wrongToken, f_looseJump, f_latestPlace, f_openLoopCount, f_codeCount, f_labelCount, f_functionCount, f_registerCount, f_activeCalls, f_stackCount, f_nextCode, f_running, f_ending, f_endingPlace, f_resultValue, f_ticksUsed, f_printedCount, a_tokenKind, a_tokenValue, a_planKind, a_planValue, a_planPlace, a_argumentCount, a_openLoop, a_codeKind, a_codeValue, a_codePlace, a_labelTarget, a_functionStart, a_functionParameters, a_register, a_frame, a_returnTo, a_stack, a_element, a_outputValue)) (H2 : ¬ gm_tk a_tokenKind n p = 9 → ∀ pk pv pp, xp_Pd pk pv pp ((103, 0, 0) :: (102, 0, 0) :: P) → post (f_tokenCount, nI ((103, 0, 0) :: (102, 0, 0) :: P).length, f_next, f_wrongToken, f_looseJump, f_latestPlace, f_openLoopCount, f_codeCount, f_labelCount, f_functionCount, f_registerCount, f_activeCalls, f_stackCount, f_nextCode, f_running, f_ending, f_endingPlace, f_resultValue, f_ticksUsed, f_printedCount, a_tokenKind, a_tokenValue, pk, pv, pp, a_argumentCount, a_openLoop, a_codeKind, a_codeValue, a_codePlace, a_labelTarget, a_functionStart, a_functionParameters, a_register, a_frame, a_returnTo, a_stack, a_element, a_outputValue)) : wpX_parseStatements post (f_tokenCount, f_planCount, f_next, f_wrongToken, f_looseJump, f_latestPlace, f_openLoopCount, f_codeCount, f_labelCount, f_functionCount, f_registerCount, f_activeCalls, f_stackCount, f_nextCode, f_running, f_ending, f_endingPlace, f_resultValue, f_ticksUsed, f_printedCount, a_tokenKind, a_tokenValue, a_planKind, a_planValue, a_planPlace, a_argumentCount, a_openLoop, a_codeKind, a_codeValue, a_codePlace, a_labelTarget, a_functionStart, a_functionParameters, a_register, a_frame, a_returnTo, a_stack, a_element, a_outputValue) := by
  unfold wpX_parseStatements
  refine xm_kindAt hx ht hn hp ?_
  refine (br_c H1 fun h => ?_)
  refine xm_plan 102 0 0 hc (by omega) hP fun pk pv pp hP => ?_
  refine xm_plan 103 0 0 rfl (by simp only [List.length_cons]; omega) hP fun pk pv pp hP => ?_
  exact H2 h _ _ _ hP
theorem xm_planAssignment {post : SX → Prop} {f_tokenCount f_planCount f_next f_wrongToken f_looseJump f_latestPlace f_openLoopCount f_codeCount f_labelCount f_functionCount f_registerCount f_activeCalls f_stackCount f_nextCode f_running f_ending f_endingPlace f_resultValue f_ticksUsed f_printedCount : Int32} {a_tokenKind a_tokenValue a_planKind a_planValue a_planPlace a_argumentCount a_openLoop a_codeKind a_codeValue a_codePlace a_labelTarget a_functionStart a_functionParameters a_register a_frame a_returnTo a_stack a_element a_outputValue : Nat → Int32} {p : Nat} {P : List gm_M} (hc : f_planCount = nI P.length) (hP : xp_Pd a_planKind a_planValue a_planPlace P) {x : Int32} (k : Nat) (hx : x = nI p) (hp : p < 120) (hl : P.length + 4 < 960)
    (H : ∀ pk pv pp, xp_Pd pk pv pp ((12, 0, 0) :: (106, 1, 0) :: (200 + k, a_tokenValue p, p) :: (10, 0, 0) :: P) → post (f_tokenCount, nI ((12, 0, 0) :: (106, 1, 0) :: (200 + k, a_tokenValue p, p) :: (10, 0, 0) :: P).length, f_next, f_wrongToken, f_looseJump, f_latestPlace, f_openLoopCount, f_codeCount, f_labelCount, f_functionCount, f_registerCount, f_activeCalls, f_stackCount, f_nextCode, f_running, f_ending, f_endingPlace, f_resultValue, f_ticksUsed, f_printedCount, a_tokenKind, a_tokenValue, pk, pv, pp, a_argumentCount, a_openLoop, a_codeKind, a_codeValue, a_codePlace, a_labelTarget, a_functionStart, a_functionParameters, a_register, a_frame, a_returnTo, a_stack, a_element, a_outputValue)) : wpX_planAssignment post (f_tokenCount, f_planCount, f_next, f_wrongToken, f_looseJump, f_latestPlace, f_openLoopCount, f_codeCount, f_labelCount, f_functionCount, f_registerCount, f_activeCalls, f_stackCount, f_nextCode, f_running, f_ending, f_endingPlace, f_resultValue, f_ticksUsed, f_printedCount, a_tokenKind, a_tokenValue, a_planKind, a_planValue, a_planPlace, a_argumentCount, a_openLoop, a_codeKind, a_codeValue, a_codePlace, a_labelTarget, a_functionStart, a_functionParameters, a_register, a_frame, a_returnTo, a_stack, a_element, a_outputValue) (nI k) x := by
  unfold wpX_planAssignment
  refine xm_valueAt hx hp ?_
  subst hx
  refine xm_plan 10 0 0 hc (by omega) hP fun pk pv pp hP => ?_
  rw [show (200 : Int32) + nI k = nI (200 + k) from nI_add 200 k]
  refine xm_plan (200 + k) _ p rfl (by simp only [List.length_cons]; omega) hP fun pk pv pp hP => ?_
  refine xm_plan 106 1 0 rfl (by simp only [List.length_cons]; omega) hP fun pk pv pp hP => ?_
  refine xm_plan 12 0 0 rfl (by simp only [List.length_cons]; omega) hP fun pk pv pp hP => ?_
  exact H _ _ _ hP
theorem xm_planElementIndex {post : SX → Prop} {f_tokenCount f_planCount f_next f_wrongToken f_looseJump f_latestPlace f_openLoopCount f_codeCount f_labelCount f_functionCount f_registerCount f_activeCalls f_stackCount f_nextCode f_running f_ending f_endingPlace f_resultValue f_ticksUsed f_printedCount : Int32} {a_tokenKind a_tokenValue a_planKind a_planValue a_planPlace a_argumentCount a_openLoop a_codeKind a_codeValue a_codePlace a_labelTarget a_functionStart a_functionParameters a_register a_frame a_returnTo a_stack a_element a_outputValue : Nat → Int32} {P : List gm_M} (hc : f_planCount = nI P.length) (hP : xp_Pd a_planKind a_planValue a_planPlace P) (hl : P.length + 3 < 960)
    (H : ∀ pk pv pp, xp_Pd pk pv pp ((6, 0, 0) :: (106, 1, 0) :: (7, 0, 0) :: P) → post (f_tokenCount, nI ((6, 0, 0) :: (106, 1, 0) :: (7, 0, 0) :: P).length, f_next, f_wrongToken, f_looseJump, f_latestPlace, f_openLoopCount, f_codeCount, f_labelCount, f_functionCount, f_registerCount, f_activeCalls, f_stackCount, f_nextCode, f_running, f_ending, f_endingPlace, f_resultValue, f_ticksUsed, f_printedCount, a_tokenKind, a_tokenValue, pk, pv, pp, a_argumentCount, a_openLoop, a_codeKind, a_codeValue, a_codePlace, a_labelTarget, a_functionStart, a_functionParameters, a_register, a_frame, a_returnTo, a_stack, a_element, a_outputValue)) : wpX_planElementIndex post (f_tokenCount, f_planCount, f_next, f_wrongToken, f_looseJump, f_latestPlace, f_openLoopCount, f_codeCount, f_labelCount, f_functionCount, f_registerCount, f_activeCalls, f_stackCount, f_nextCode, f_running, f_ending, f_endingPlace, f_resultValue, f_ticksUsed, f_printedCount, a_tokenKind, a_tokenValue, a_planKind, a_planValue, a_planPlace, a_argumentCount, a_openLoop, a_codeKind, a_codeValue, a_codePlace, a_labelTarget, a_functionStart, a_functionParameters, a_register, a_frame, a_returnTo, a_stack, a_element, a_outputValue) := by
  unfold wpX_planElementIndex
  refine xm_plan 7 0 0 hc (by omega) hP fun pk pv pp hP => ?_
  refine xm_plan 106 1 0 rfl (by simp only [List.length_cons]; omega) hP fun pk pv pp hP => ?_
  refine xm_plan 6 0 0 rfl (by simp only [List.length_cons]; omega) hP fun pk pv pp hP => ?_
  exact H _ _ _ hP
theorem xm_planCondition {post : SX → Prop} {f_tokenCount f_planCount f_next f_wrongToken f_looseJump f_latestPlace f_openLoopCount f_codeCount f_labelCount f_functionCount f_registerCount f_activeCalls f_stackCount f_nextCode f_running f_ending f_endingPlace f_resultValue f_ticksUsed f_printedCount : Int32} {a_tokenKind a_tokenValue a_planKind a_planValue a_planPlace a_argumentCount a_openLoop a_codeKind a_codeValue a_codePlace a_labelTarget a_functionStart a_functionParameters a_register a_frame a_returnTo a_stack a_element a_outputValue : Nat → Int32} {P : List gm_M} (hc : f_planCount = nI P.length) (hP : xp_Pd a_planKind a_planValue a_planPlace P) (hl : P.length + 3 < 960)
    (H : ∀ pk pv pp, xp_Pd pk pv pp ((4, 0, 0) :: (106, 1, 0) :: (5, 0, 0) :: P) → post (f_tokenCount, nI ((4, 0, 0) :: (106, 1, 0) :: (5, 0, 0) :: P).length, f_next, f_wrongToken, f_looseJump, f_latestPlace, f_openLoopCount, f_codeCount, f_labelCount, f_functionCount, f_registerCount, f_activeCalls, f_stackCount, f_nextCode, f_running, f_ending, f_endingPlace, f_resultValue, f_ticksUsed, f_printedCount, a_tokenKind, a_tokenValue, pk, pv, pp, a_argumentCount, a_openLoop, a_codeKind, a_codeValue, a_codePlace, a_labelTarget, a_functionStart, a_functionParameters, a_register, a_frame, a_returnTo, a_stack, a_element, a_outputValue)) : wpX_planCondition post (f_tokenCount, f_planCount, f_next, f_wrongToken, f_looseJump, f_latestPlace, f_openLoopCount, f_codeCount, f_labelCount, f_functionCount, f_registerCount, f_activeCalls, f_stackCount, f_nextCode, f_running, f_ending, f_endingPlace, f_resultValue, f_ticksUsed, f_printedCount, a_tokenKind, a_tokenValue, a_planKind, a_planValue, a_planPlace, a_argumentCount, a_openLoop, a_codeKind, a_codeValue, a_codePlace, a_labelTarget, a_functionStart, a_functionParameters, a_register, a_frame, a_returnTo, a_stack, a_element, a_outputValue) := by
  unfold wpX_planCondition
  refine xm_plan 5 0 0 hc (by omega) hP fun pk pv pp hP => ?_
  refine xm_plan 106 1 0 rfl (by simp only [List.length_cons]; omega) hP fun pk pv pp hP => ?_
  refine xm_plan 4 0 0 rfl (by simp only [List.length_cons]; omega) hP fun pk pv pp hP => ?_
  exact H _ _ _ hP
theorem xm_planCall {post : SX → Prop} {f_tokenCount f_planCount f_next f_wrongToken f_looseJump f_latestPlace f_openLoopCount f_codeCount f_labelCount f_functionCount f_registerCount f_activeCalls f_stackCount f_nextCode f_running f_ending f_endingPlace f_resultValue f_ticksUsed f_printedCount : Int32} {a_tokenKind a_tokenValue a_planKind a_planValue a_planPlace a_argumentCount a_openLoop a_codeKind a_codeValue a_codePlace a_labelTarget a_functionStart a_functionParameters a_register a_frame a_returnTo a_stack a_element a_outputValue : Nat → Int32} {p : Nat} {P : List gm_M} (hc : f_planCount = nI P.length) (hP : xp_Pd a_planKind a_planValue a_planPlace P) {x : Int32} (hx : x = nI p) (hp : p < 120) (hl : P.length + 5 < 960)
    (H : ∀ pk pv pp, xp_Pd pk pv pp ((4, 0, 0) :: (109, 0, p) :: (262, 0, p) :: (263, 0, p) :: (264, a_tokenValue p, 0) :: P) → post (f_tokenCount, nI ((4, 0, 0) :: (109, 0, p) :: (262, 0, p) :: (263, 0, p) :: (264, a_tokenValue p, 0) :: P).length, f_next, f_wrongToken, f_looseJump, f_latestPlace, f_openLoopCount, f_codeCount, f_labelCount, f_functionCount, f_registerCount, f_activeCalls, f_stackCount, f_nextCode, f_running, f_ending, f_endingPlace, f_resultValue, f_ticksUsed, f_printedCount, a_tokenKind, a_tokenValue, pk, pv, pp, a_argumentCount, a_openLoop, a_codeKind, a_codeValue, a_codePlace, a_labelTarget, a_functionStart, a_functionParameters, a_register, a_frame, a_returnTo, a_stack, a_element, a_outputValue)) : wpX_planCall post (f_tokenCount, f_planCount, f_next, f_wrongToken, f_looseJump, f_latestPlace, f_openLoopCount, f_codeCount, f_labelCount, f_functionCount, f_registerCount, f_activeCalls, f_stackCount, f_nextCode, f_running, f_ending, f_endingPlace, f_resultValue, f_ticksUsed, f_printedCount, a_tokenKind, a_tokenValue, a_planKind, a_planValue, a_planPlace, a_argumentCount, a_openLoop, a_codeKind, a_codeValue, a_codePlace, a_labelTarget, a_functionStart, a_functionParameters, a_register, a_frame, a_returnTo, a_stack, a_element, a_outputValue) x := by
  unfold wpX_planCall
  refine xm_valueAt hx hp ?_
  subst hx
  refine xm_plan 264 _ 0 hc (by omega) hP fun pk pv pp hP => ?_
  refine xm_plan 263 0 p rfl (by simp only [List.length_cons]; omega) hP fun pk pv pp hP => ?_
  refine xm_plan 262 0 p rfl (by simp only [List.length_cons]; omega) hP fun pk pv pp hP => ?_
  refine xm_plan 109 0 p rfl (by simp only [List.length_cons]; omega) hP fun pk pv pp hP => ?_
  refine xm_plan 4 0 0 rfl (by simp only [List.length_cons]; omega) hP fun pk pv pp hP => ?_
  exact H _ _ _ hP
theorem xm_newLabels {post : Int32 → SX → Prop} {f_tokenCount f_planCount f_next f_wrongToken f_looseJump f_latestPlace f_openLoopCount f_codeCount f_labelCount f_functionCount f_registerCount f_activeCalls f_stackCount f_nextCode f_running f_ending f_endingPlace f_resultValue f_ticksUsed f_printedCount : Int32} {a_tokenKind a_tokenValue a_planKind a_planValue a_planPlace a_argumentCount a_openLoop a_codeKind a_codeValue a_codePlace a_labelTarget a_functionStart a_functionParameters a_register a_frame a_returnTo a_stack a_element a_outputValue : Nat → Int32} {lc : Nat} (h : f_labelCount = nI lc) (H : post (nI lc) (f_tokenCount, f_planCount, f_next, f_wrongToken, f_looseJump, f_latestPlace, f_openLoopCount, f_codeCount, nI (lc + 2), f_functionCount, f_registerCount, f_activeCalls, f_stackCount, f_nextCode, f_running, f_ending, f_endingPlace, f_resultValue, f_ticksUsed, f_printedCount, a_tokenKind, a_tokenValue, a_planKind, a_planValue, a_planPlace, a_argumentCount, a_openLoop, a_codeKind, a_codeValue, a_codePlace, a_labelTarget, a_functionStart, a_functionParameters, a_register, a_frame, a_returnTo, a_stack, a_element, a_outputValue)) : wpX_newLabels post (f_tokenCount, f_planCount, f_next, f_wrongToken, f_looseJump, f_latestPlace, f_openLoopCount, f_codeCount, f_labelCount, f_functionCount, f_registerCount, f_activeCalls, f_stackCount, f_nextCode, f_running, f_ending, f_endingPlace, f_resultValue, f_ticksUsed, f_printedCount, a_tokenKind, a_tokenValue, a_planKind, a_planValue, a_planPlace, a_argumentCount, a_openLoop, a_codeKind, a_codeValue, a_codePlace, a_labelTarget, a_functionStart, a_functionParameters, a_register, a_frame, a_returnTo, a_stack, a_element, a_outputValue) := by
  subst h
  exact nm_r (nI_add lc 2) H
theorem xm_startIf {post : SX → Prop} {f_tokenCount f_planCount f_next f_wrongToken f_looseJump f_latestPlace f_openLoopCount f_codeCount f_labelCount f_functionCount f_registerCount f_activeCalls f_stackCount f_nextCode f_running f_ending f_endingPlace f_resultValue f_ticksUsed f_printedCount : Int32} {a_tokenKind a_tokenValue a_planKind a_planValue a_planPlace a_argumentCount a_openLoop a_codeKind a_codeValue a_codePlace a_labelTarget a_functionStart a_functionParameters a_register a_frame a_returnTo a_stack a_element a_outputValue : Nat → Int32} {P : List gm_M} {lc : Nat} (h : f_labelCount = nI lc) (hc : f_planCount = nI P.length) (hP : xp_Pd a_planKind a_planValue a_planPlace P) (hl : P.length + 3 < 960)
    (H : ∀ pk pv pp, xp_Pd pk pv pp ((259, nI lc, 0) :: (103, 0, 0) :: (104, nI lc, 0) :: P) → post (f_tokenCount, nI ((259, nI lc, 0) :: (103, 0, 0) :: (104, nI lc, 0) :: P).length, f_next, f_wrongToken, f_looseJump, f_latestPlace, f_openLoopCount, f_codeCount, nI (lc + 2), f_functionCount, f_registerCount, f_activeCalls, f_stackCount, f_nextCode, f_running, f_ending, f_endingPlace, f_resultValue, f_ticksUsed, f_printedCount, a_tokenKind, a_tokenValue, pk, pv, pp, a_argumentCount, a_openLoop, a_codeKind, a_codeValue, a_codePlace, a_labelTarget, a_functionStart, a_functionParameters, a_register, a_frame, a_returnTo, a_stack, a_element, a_outputValue)) : wpX_startIf post (f_tokenCount, f_planCount, f_next, f_wrongToken, f_looseJump, f_latestPlace, f_openLoopCount, f_codeCount, f_labelCount, f_functionCount, f_registerCount, f_activeCalls, f_stackCount, f_nextCode, f_running, f_ending, f_endingPlace, f_resultValue, f_ticksUsed, f_printedCount, a_tokenKind, a_tokenValue, a_planKind, a_planValue, a_planPlace, a_argumentCount, a_openLoop, a_codeKind, a_codeValue, a_codePlace, a_labelTarget, a_functionStart, a_functionParameters, a_register, a_frame, a_returnTo, a_stack, a_element, a_outputValue) := by
  unfold wpX_startIf
  refine xm_newLabels h ?_
  refine xm_plan 104 (nI lc) 0 hc (by omega) hP fun pk pv pp hP => ?_
  refine xm_plan 103 0 0 rfl (by simp only [List.length_cons]; omega) hP fun pk pv pp hP => ?_
  refine xm_plan 259 (nI lc) 0 rfl (by simp only [List.length_cons]; omega) hP fun pk pv pp hP => ?_
  exact H _ _ _ hP
theorem xm_startLoop {post : SX → Prop} {f_tokenCount f_planCount f_next f_wrongToken f_looseJump f_latestPlace f_openLoopCount f_codeCount f_labelCount f_functionCount f_registerCount f_activeCalls f_stackCount f_nextCode f_running f_ending f_endingPlace f_resultValue f_ticksUsed f_printedCount : Int32} {a_tokenKind a_tokenValue a_planKind a_planValue a_planPlace a_argumentCount a_openLoop a_codeKind a_codeValue a_codePlace a_labelTarget a_functionStart a_functionParameters a_register a_frame a_returnTo a_stack a_element a_outputValue : Nat → Int32} {P : List gm_M} {lc cc p : Nat} {ol : List Nat} {x : Int32} (hx : x = nI p) (h : f_labelCount = nI lc) (hcc : f_codeCount = nI cc) (hlc : lc < 240) (hcl : cc < 360)
    (ho : f_openLoopCount = nI ol.length) (hol : ol.length < 120) (hO : xp_Ol a_openLoop ol) (hc : f_planCount = nI P.length) (hP : xp_Pd a_planKind a_planValue a_planPlace P) (hl : P.length + 3 < 960)
    (H : ∀ oa, xp_Ol oa (lc :: ol) → ∀ pk pv pp, xp_Pd pk pv pp ((259, nI (lc + 1), 0) :: (103, 0, 0) :: (105, nI lc, 0) :: P) → post (f_tokenCount, nI ((259, nI (lc + 1), 0) :: (103, 0, 0) :: (105, nI lc, 0) :: P).length, f_next, f_wrongToken, f_looseJump, f_latestPlace, nI (lc :: ol).length, nI (cc + 1), nI (lc + 2), f_functionCount, f_registerCount, f_activeCalls, f_stackCount, f_nextCode, f_running, f_ending, f_endingPlace, f_resultValue, f_ticksUsed, f_printedCount, a_tokenKind, a_tokenValue, pk, pv, pp, a_argumentCount, oa, upd a_codeKind cc 63, upd a_codeValue cc 0, upd a_codePlace cc (nI p), upd a_labelTarget lc (nI cc), a_functionStart, a_functionParameters, a_register, a_frame, a_returnTo, a_stack, a_element, a_outputValue)) : wpX_startLoop post (f_tokenCount, f_planCount, f_next, f_wrongToken, f_looseJump, f_latestPlace, f_openLoopCount, f_codeCount, f_labelCount, f_functionCount, f_registerCount, f_activeCalls, f_stackCount, f_nextCode, f_running, f_ending, f_endingPlace, f_resultValue, f_ticksUsed, f_printedCount, a_tokenKind, a_tokenValue, a_planKind, a_planValue, a_planPlace, a_argumentCount, a_openLoop, a_codeKind, a_codeValue, a_codePlace, a_labelTarget, a_functionStart, a_functionParameters, a_register, a_frame, a_returnTo, a_stack, a_element, a_outputValue) x := by
  unfold wpX_startLoop
  refine xm_newLabels h ?_
  subst ho hx hcc
  have h3 : (nI ol.length).toNatClampNeg = ol.length := nI_clamp (by omega)
  refine br_f (nI_ge (b := 120) hol (by decide)) ⟨vp_in_nI hol (by decide), nm_r (by rw [h3]) (nm_r (nI_1 _) ?_)⟩
  refine xm_putLabel rfl hlc ?_
  refine xm_emit rfl hcl ?_
  refine xm_plan 105 (nI lc) 0 hc (by omega) hP fun pk pv pp hP => ?_
  refine xm_plan 103 0 0 rfl (by simp only [List.length_cons]; omega) hP fun pk pv pp hP => ?_
  rw [nI_1 lc]
  refine xm_plan 259 (nI (lc + 1)) 0 rfl (by simp only [List.length_cons]; omega) hP fun pk pv pp hP => ?_
  exact H _ ⟨pk_us, xp_Ol_up hO (Nat.le_refl _)⟩ _ _ _ hP
theorem xm_leave0 {post : SX → Prop} {f_tokenCount f_planCount f_next f_wrongToken f_looseJump f_latestPlace f_openLoopCount f_codeCount f_labelCount f_functionCount f_registerCount f_activeCalls f_stackCount f_nextCode f_running f_ending f_endingPlace f_resultValue f_ticksUsed f_printedCount : Int32} {a_tokenKind a_tokenValue a_planKind a_planValue a_planPlace a_argumentCount a_openLoop a_codeKind a_codeValue a_codePlace a_labelTarget a_functionStart a_functionParameters a_register a_frame a_returnTo a_stack a_element a_outputValue : Nat → Int32} {P : List gm_M} {ol : List Nat} {p : Nat} {x y : Int32} (hx : x = nI p) (hy : ol = [])
    (ho : f_openLoopCount = nI ol.length) (hc : f_planCount = nI P.length) (hP : xp_Pd a_planKind a_planValue a_planPlace P) (hl : P.length + 1 < 960)
    (H : ∀ pk pv pp, xp_Pd pk pv pp ((10, 0, 0) :: P) → post (f_tokenCount, nI ((10, 0, 0) :: P).length, f_next, f_wrongToken, if f_looseJump < 0 then nI p else f_looseJump, f_latestPlace, f_openLoopCount, f_codeCount, f_labelCount, f_functionCount, f_registerCount, f_activeCalls, f_stackCount, f_nextCode, f_running, f_ending, f_endingPlace, f_resultValue, f_ticksUsed, f_printedCount, a_tokenKind, a_tokenValue, pk, pv, pp, a_argumentCount, a_openLoop, a_codeKind, a_codeValue, a_codePlace, a_labelTarget, a_functionStart, a_functionParameters, a_register, a_frame, a_returnTo, a_stack, a_element, a_outputValue)) : wpX_leaveOrRepeatLoop post (f_tokenCount, f_planCount, f_next, f_wrongToken, f_looseJump, f_latestPlace, f_openLoopCount, f_codeCount, f_labelCount, f_functionCount, f_registerCount, f_activeCalls, f_stackCount, f_nextCode, f_running, f_ending, f_endingPlace, f_resultValue, f_ticksUsed, f_printedCount, a_tokenKind, a_tokenValue, a_planKind, a_planValue, a_planPlace, a_argumentCount, a_openLoop, a_codeKind, a_codeValue, a_codePlace, a_labelTarget, a_functionStart, a_functionParameters, a_register, a_frame, a_returnTo, a_stack, a_element, a_outputValue) y x := by
  unfold wpX_leaveOrRepeatLoop
  refine xm_plan 10 0 0 hc (by omega) hP fun pk pv pp hP => ?_
  subst ho hx hy
  refine br_t (by decide) (br_c (fun h => ?_) (fun h => ?_))
  · have H := H _ _ _ hP
    rw [if_neg (Int32.not_lt.mpr h)] at H
    exact H
  · have H := H _ _ _ hP
    rw [if_pos (Int32.not_le.mp h)] at H
    exact H
theorem xm_leave1 {post : SX → Prop} {f_tokenCount f_planCount f_next f_wrongToken f_looseJump f_latestPlace f_openLoopCount f_codeCount f_labelCount f_functionCount f_registerCount f_activeCalls f_stackCount f_nextCode f_running f_ending f_endingPlace f_resultValue f_ticksUsed f_printedCount : Int32} {a_tokenKind a_tokenValue a_planKind a_planValue a_planPlace a_argumentCount a_openLoop a_codeKind a_codeValue a_codePlace a_labelTarget a_functionStart a_functionParameters a_register a_frame a_returnTo a_stack a_element a_outputValue : Nat → Int32} {P : List gm_M} {a d p cc : Nat} {ol : List Nat} {x y : Int32} (hx : x = nI p) (hd : y = 37 ∧ d = 1 ∨ ¬ y = 37 ∧ d = 0)
    (ho : f_openLoopCount = nI (a :: ol).length) (hol : ol.length < 120) (hO : xp_Ol a_openLoop (a :: ol)) (hcc : f_codeCount = nI cc) (hcl : cc < 360) (hc : f_planCount = nI P.length) (hP : xp_Pd a_planKind a_planValue a_planPlace P) (hl : P.length + 1 < 960)
    (H : ∀ pk pv pp, xp_Pd pk pv pp ((10, 0, 0) :: P) → post (f_tokenCount, nI ((10, 0, 0) :: P).length, f_next, f_wrongToken, f_looseJump, f_latestPlace, f_openLoopCount, nI (cc + 1), f_labelCount, f_functionCount, f_registerCount, f_activeCalls, f_stackCount, f_nextCode, f_running, f_ending, f_endingPlace, f_resultValue, f_ticksUsed, f_printedCount, a_tokenKind, a_tokenValue, pk, pv, pp, a_argumentCount, a_openLoop, upd a_codeKind cc 58, upd a_codeValue cc (nI (a + d)), upd a_codePlace cc (nI p), a_labelTarget, a_functionStart, a_functionParameters, a_register, a_frame, a_returnTo, a_stack, a_element, a_outputValue)) : wpX_leaveOrRepeatLoop post (f_tokenCount, f_planCount, f_next, f_wrongToken, f_looseJump, f_latestPlace, f_openLoopCount, f_codeCount, f_labelCount, f_functionCount, f_registerCount, f_activeCalls, f_stackCount, f_nextCode, f_running, f_ending, f_endingPlace, f_resultValue, f_ticksUsed, f_printedCount, a_tokenKind, a_tokenValue, a_planKind, a_planValue, a_planPlace, a_argumentCount, a_openLoop, a_codeKind, a_codeValue, a_codePlace, a_labelTarget, a_functionStart, a_functionParameters, a_register, a_frame, a_returnTo, a_stack, a_element, a_outputValue) y x := by
  unfold wpX_leaveOrRepeatLoop
  refine xm_plan 10 0 0 hc (by omega) hP fun pk pv pp hP => ?_
  subst ho hx
  have e : nI (a :: ol).length - 1 = nI ol.length := nI_pred _
  refine br_f (nI_nle (by simp) (by simp; omega)) (br_f (nI_nlt (a := 120) (by simp; omega) (by decide)) ?_)
  refine ⟨by rw [e]; exact vp_in_nI hol (by decide), nm_r (e' := nI a) (by rw [e, nI_clamp (by omega)]; exact hO.1) ?_⟩
  have H := H _ _ _ hP
  rcases hd with ⟨h1, h2⟩ | ⟨h1, h2⟩
  · subst h2
    refine br_t h1 (xm_emit hcc hcl ?_)
    rw [nI_1]
    exact H
  · subst h2
    exact br_f h1 (xm_emit hcc hcl H)
end
section
/-! X, compile: parseStatement, a theorem a token -/
theorem xm_st8 {post : SX → Prop} {f_tokenCount f_planCount f_next f_wrongToken f_looseJump f_latestPlace f_openLoopCount f_codeCount f_labelCount f_functionCount f_registerCount f_activeCalls f_stackCount f_nextCode f_running f_ending f_endingPlace f_resultValue f_ticksUsed f_printedCount : Int32} {a_tokenKind a_tokenValue a_planKind a_planValue a_planPlace a_argumentCount a_openLoop a_codeKind a_codeValue a_codePlace a_labelTarget a_functionStart a_functionParameters a_register a_frame a_returnTo a_stack a_element a_outputValue : Nat → Int32} {n p : Nat} {P : List gm_M} (hx : f_next = nI p) (ht : f_tokenCount = nI n) (hn : n ≤ 120) (hp : p ≤ 120) (hc : f_planCount = nI P.length) (hP : xp_Pd a_planKind a_planValue a_planPlace P) (hl : P.length + 2 < 960) (h : gm_tk a_tokenKind n p = 8) (H : ∀ pk pv pp, xp_Pd pk pv pp ((102, 0, 0) :: (9, 0, 0) :: P) → post (f_tokenCount, nI ((102, 0, 0) :: (9, 0, 0) :: P).length, nI (p + 1), f_wrongToken, f_looseJump, f_latestPlace, f_openLoopCount, f_codeCount, f_labelCount, f_functionCount, f_registerCount, f_activeCalls, f_stackCount, f_nextCode, f_running, f_ending, f_endingPlace, f_resultValue, f_ticksUsed, f_printedCount, a_tokenKind, a_tokenValue, pk, pv, pp, a_argumentCount, a_openLoop, a_codeKind, a_codeValue, a_codePlace, a_labelTarget, a_functionStart, a_functionParameters, a_register, a_frame, a_returnTo, a_stack, a_element, a_outputValue)) : wpX_parseStatement post (f_tokenCount, f_planCount, f_next, f_wrongToken, f_looseJump, f_latestPlace, f_openLoopCount, f_codeCount, f_labelCount, f_functionCount, f_registerCount, f_activeCalls, f_stackCount, f_nextCode, f_running, f_ending, f_endingPlace, f_resultValue, f_ticksUsed, f_printedCount, a_tokenKind, a_tokenValue, a_planKind, a_planValue, a_planPlace, a_argumentCount, a_openLoop, a_codeKind, a_codeValue, a_codePlace, a_labelTarget, a_functionStart, a_functionParameters, a_register, a_frame, a_returnTo, a_stack, a_element, a_outputValue) := by
  unfold wpX_parseStatement
  refine xm_kindAt hx ht hn hp ?_
  rw [h]
  subst hx
  refine nm_r (nI_1 _) (br_f (by decide) (br_f (by decide) (br_f (by decide) (br_f (by decide) (br_f (by decide) (br_f (by decide) (br_f (by decide) (br_f (by decide) (br_f (by decide) (br_t (by decide) (?_)))))))))))
  refine xm_plan 9 0 0 hc (by omega) hP fun pk pv pp hP => ?_
  refine xm_plan 102 0 0 rfl (by simp only [List.length_cons]; omega) hP fun pk pv pp hP => ?_
  exact H _ _ _ hP
theorem xm_st1 {post : SX → Prop} {f_tokenCount f_planCount f_next f_wrongToken f_looseJump f_latestPlace f_openLoopCount f_codeCount f_labelCount f_functionCount f_registerCount f_activeCalls f_stackCount f_nextCode f_running f_ending f_endingPlace f_resultValue f_ticksUsed f_printedCount : Int32} {a_tokenKind a_tokenValue a_planKind a_planValue a_planPlace a_argumentCount a_openLoop a_codeKind a_codeValue a_codePlace a_labelTarget a_functionStart a_functionParameters a_register a_frame a_returnTo a_stack a_element a_outputValue : Nat → Int32} {n p : Nat} {P : List gm_M} (hx : f_next = nI p) (ht : f_tokenCount = nI n) (hn : n ≤ 120) (hp : p ≤ 120) (hc : f_planCount = nI P.length) (hP : xp_Pd a_planKind a_planValue a_planPlace P) (hp' : p < 120) (hl : P.length + 4 < 960) (h : gm_tk a_tokenKind n p = 1) (H : ∀ pk pv pp, xp_Pd pk pv pp ((12, 0, 0) :: (106, 1, 0) :: (253, a_tokenValue p, p) :: (10, 0, 0) :: P) → post (f_tokenCount, nI ((12, 0, 0) :: (106, 1, 0) :: (253, a_tokenValue p, p) :: (10, 0, 0) :: P).length, nI (p + 1), f_wrongToken, f_looseJump, f_latestPlace, f_openLoopCount, f_codeCount, f_labelCount, f_functionCount, f_registerCount, f_activeCalls, f_stackCount, f_nextCode, f_running, f_ending, f_endingPlace, f_resultValue, f_ticksUsed, f_printedCount, a_tokenKind, a_tokenValue, pk, pv, pp, a_argumentCount, a_openLoop, a_codeKind, a_codeValue, a_codePlace, a_labelTarget, a_functionStart, a_functionParameters, a_register, a_frame, a_returnTo, a_stack, a_element, a_outputValue)) : wpX_parseStatement post (f_tokenCount, f_planCount, f_next, f_wrongToken, f_looseJump, f_latestPlace, f_openLoopCount, f_codeCount, f_labelCount, f_functionCount, f_registerCount, f_activeCalls, f_stackCount, f_nextCode, f_running, f_ending, f_endingPlace, f_resultValue, f_ticksUsed, f_printedCount, a_tokenKind, a_tokenValue, a_planKind, a_planValue, a_planPlace, a_argumentCount, a_openLoop, a_codeKind, a_codeValue, a_codePlace, a_labelTarget, a_functionStart, a_functionParameters, a_register, a_frame, a_returnTo, a_stack, a_element, a_outputValue) := by
  unfold wpX_parseStatement
  refine xm_kindAt hx ht hn hp ?_
  rw [h]
  refine nm_r ((congrArg (· + 1) hx).trans (nI_1 _)) (br_f (by decide) (br_f (by decide) (br_t (by decide) (?_))))
  exact xm_planAssignment hc hP 53 hx hp' hl H
theorem xm_st3 {post : SX → Prop} {f_tokenCount f_planCount f_next f_wrongToken f_looseJump f_latestPlace f_openLoopCount f_codeCount f_labelCount f_functionCount f_registerCount f_activeCalls f_stackCount f_nextCode f_running f_ending f_endingPlace f_resultValue f_ticksUsed f_printedCount : Int32} {a_tokenKind a_tokenValue a_planKind a_planValue a_planPlace a_argumentCount a_openLoop a_codeKind a_codeValue a_codePlace a_labelTarget a_functionStart a_functionParameters a_register a_frame a_returnTo a_stack a_element a_outputValue : Nat → Int32} {n p : Nat} {P : List gm_M} (hx : f_next = nI p) (ht : f_tokenCount = nI n) (hn : n ≤ 120) (hp : p ≤ 120) (hc : f_planCount = nI P.length) (hP : xp_Pd a_planKind a_planValue a_planPlace P) (hp' : p < 120) (hl : P.length + 7 < 960) (h : gm_tk a_tokenKind n p = 3) (H : ∀ pk pv pp, xp_Pd pk pv pp ((6, 0, 0) :: (106, 1, 0) :: (7, 0, 0) :: (12, 0, 0) :: (106, 1, 0) :: (255, a_tokenValue p, p) :: (10, 0, 0) :: P) → post (f_tokenCount, nI ((6, 0, 0) :: (106, 1, 0) :: (7, 0, 0) :: (12, 0, 0) :: (106, 1, 0) :: (255, a_tokenValue p, p) :: (10, 0, 0) :: P).length, nI (p + 1), f_wrongToken, f_looseJump, f_latestPlace, f_openLoopCount, f_codeCount, f_labelCount, f_functionCount, f_registerCount, f_activeCalls, f_stackCount, f_nextCode, f_running, f_ending, f_endingPlace, f_resultValue, f_ticksUsed, f_printedCount, a_tokenKind, a_tokenValue, pk, pv, pp, a_argumentCount, a_openLoop, a_codeKind, a_codeValue, a_codePlace, a_labelTarget, a_functionStart, a_functionParameters, a_register, a_frame, a_returnTo, a_stack, a_element, a_outputValue)) : wpX_parseStatement post (f_tokenCount, f_planCount, f_next, f_wrongToken, f_looseJump, f_latestPlace, f_openLoopCount, f_codeCount, f_labelCount, f_functionCount, f_registerCount, f_activeCalls, f_stackCount, f_nextCode, f_running, f_ending, f_endingPlace, f_resultValue, f_ticksUsed, f_printedCount, a_tokenKind, a_tokenValue, a_planKind, a_planValue, a_planPlace, a_argumentCount, a_openLoop, a_codeKind, a_codeValue, a_codePlace, a_labelTarget, a_functionStart, a_functionParameters, a_register, a_frame, a_returnTo, a_stack, a_element, a_outputValue) := by
  unfold wpX_parseStatement
  refine xm_kindAt hx ht hn hp ?_
  rw [h]
  refine nm_r ((congrArg (· + 1) hx).trans (nI_1 _)) (br_f (by decide) (br_f (by decide) (br_f (by decide) (br_f (by decide) (br_t (by decide) (?_))))))
  refine xm_planAssignment hc hP 55 hx hp' (by omega) fun pk pv pp hP => ?_
  exact xm_planElementIndex rfl hP (by simp only [List.length_cons]; omega) H
theorem xm_st2 {post : SX → Prop} {f_tokenCount f_planCount f_next f_wrongToken f_looseJump f_latestPlace f_openLoopCount f_codeCount f_labelCount f_functionCount f_registerCount f_activeCalls f_stackCount f_nextCode f_running f_ending f_endingPlace f_resultValue f_ticksUsed f_printedCount : Int32} {a_tokenKind a_tokenValue a_planKind a_planValue a_planPlace a_argumentCount a_openLoop a_codeKind a_codeValue a_codePlace a_labelTarget a_functionStart a_functionParameters a_register a_frame a_returnTo a_stack a_element a_outputValue : Nat → Int32} {n p : Nat} {P : List gm_M} (hx : f_next = nI p) (ht : f_tokenCount = nI n) (hn : n ≤ 120) (hp : p ≤ 120) (hc : f_planCount = nI P.length) (hP : xp_Pd a_planKind a_planValue a_planPlace P) (hp' : p < 120) (hl : P.length + 7 < 960) (h : gm_tk a_tokenKind n p = 2) (H : ∀ pk pv pp, xp_Pd pk pv pp ((4, 0, 0) :: (109, 0, p) :: (262, 0, p) :: (263, 0, p) :: (264, a_tokenValue p, 0) :: (256, 0, 0) :: (10, 0, 0) :: P) → post (f_tokenCount, nI ((4, 0, 0) :: (109, 0, p) :: (262, 0, p) :: (263, 0, p) :: (264, a_tokenValue p, 0) :: (256, 0, 0) :: (10, 0, 0) :: P).length, nI (p + 1), f_wrongToken, f_looseJump, f_latestPlace, f_openLoopCount, f_codeCount, f_labelCount, f_functionCount, f_registerCount, f_activeCalls, f_stackCount, f_nextCode, f_running, f_ending, f_endingPlace, f_resultValue, f_ticksUsed, f_printedCount, a_tokenKind, a_tokenValue, pk, pv, pp, a_argumentCount, a_openLoop, a_codeKind, a_codeValue, a_codePlace, a_labelTarget, a_functionStart, a_functionParameters, a_register, a_frame, a_returnTo, a_stack, a_element, a_outputValue)) : wpX_parseStatement post (f_tokenCount, f_planCount, f_next, f_wrongToken, f_looseJump, f_latestPlace, f_openLoopCount, f_codeCount, f_labelCount, f_functionCount, f_registerCount, f_activeCalls, f_stackCount, f_nextCode, f_running, f_ending, f_endingPlace, f_resultValue, f_ticksUsed, f_printedCount, a_tokenKind, a_tokenValue, a_planKind, a_planValue, a_planPlace, a_argumentCount, a_openLoop, a_codeKind, a_codeValue, a_codePlace, a_labelTarget, a_functionStart, a_functionParameters, a_register, a_frame, a_returnTo, a_stack, a_element, a_outputValue) := by
  unfold wpX_parseStatement
  refine xm_kindAt hx ht hn hp ?_
  rw [h]
  refine nm_r ((congrArg (· + 1) hx).trans (nI_1 _)) (br_f (by decide) (br_f (by decide) (br_f (by decide) (br_t (by decide) (?_)))))
  refine xm_plan 10 0 0 hc (by omega) hP fun pk pv pp hP => ?_
  refine xm_plan 256 0 0 rfl (by simp only [List.length_cons]; omega) hP fun pk pv pp hP => ?_
  exact xm_planCall rfl hP hx hp' (by simp only [List.length_cons]; omega) H
theorem xm_st34 {post : SX → Prop} {f_tokenCount f_planCount f_next f_wrongToken f_looseJump f_latestPlace f_openLoopCount f_codeCount f_labelCount f_functionCount f_registerCount f_activeCalls f_stackCount f_nextCode f_running f_ending f_endingPlace f_resultValue f_ticksUsed f_printedCount : Int32} {a_tokenKind a_tokenValue a_planKind a_planValue a_planPlace a_argumentCount a_openLoop a_codeKind a_codeValue a_codePlace a_labelTarget a_functionStart a_functionParameters a_register a_frame a_returnTo a_stack a_element a_outputValue : Nat → Int32} {n p : Nat} {P : List gm_M} (hx : f_next = nI p) (ht : f_tokenCount = nI n) (hn : n ≤ 120) (hp : p ≤ 120) (hc : f_planCount = nI P.length) (hP : xp_Pd a_planKind a_planValue a_planPlace P) {lc : Nat} (hlb : f_labelCount = nI lc) (hl : P.length + 6 < 960) (h : gm_tk a_tokenKind n p = 34) (H : ∀ pk pv pp, xp_Pd pk pv pp ((4, 0, 0) :: (106, 1, 0) :: (5, 0, 0) :: (259, nI lc, 0) :: (103, 0, 0) :: (104, nI lc, 0) :: P) → post (f_tokenCount, nI ((4, 0, 0) :: (106, 1, 0) :: (5, 0, 0) :: (259, nI lc, 0) :: (103, 0, 0) :: (104, nI lc, 0) :: P).length, nI (p + 1), f_wrongToken, f_looseJump, f_latestPlace, f_openLoopCount, f_codeCount, nI (lc + 2), f_functionCount, f_registerCount, f_activeCalls, f_stackCount, f_nextCode, f_running, f_ending, f_endingPlace, f_resultValue, f_ticksUsed, f_printedCount, a_tokenKind, a_tokenValue, pk, pv, pp, a_argumentCount, a_openLoop, a_codeKind, a_codeValue, a_codePlace, a_labelTarget, a_functionStart, a_functionParameters, a_register, a_frame, a_returnTo, a_stack, a_element, a_outputValue)) : wpX_parseStatement post (f_tokenCount, f_planCount, f_next, f_wrongToken, f_looseJump, f_latestPlace, f_openLoopCount, f_codeCount, f_labelCount, f_functionCount, f_registerCount, f_activeCalls, f_stackCount, f_nextCode, f_running, f_ending, f_endingPlace, f_resultValue, f_ticksUsed, f_printedCount, a_tokenKind, a_tokenValue, a_planKind, a_planValue, a_planPlace, a_argumentCount, a_openLoop, a_codeKind, a_codeValue, a_codePlace, a_labelTarget, a_functionStart, a_functionParameters, a_register, a_frame, a_returnTo, a_stack, a_element, a_outputValue) := by
  unfold wpX_parseStatement
  refine xm_kindAt hx ht hn hp ?_
  rw [h]
  refine nm_r ((congrArg (· + 1) hx).trans (nI_1 _)) (br_f (by decide) (br_f (by decide) (br_f (by decide) (br_f (by decide) (br_f (by decide) (br_f (by decide) (br_f (by decide) (br_f (by decide) (br_f (by decide) (br_f (by decide) (br_f (by decide) (br_f (by decide) (br_f (by decide) (br_f (by decide) (br_f (by decide) (br_f (by decide) (br_f (by decide) (br_f (by decide) (br_f (by decide) (br_f (by decide) (br_f (by decide) (br_f (by decide) (br_f (by decide) (br_f (by decide) (br_f (by decide) (br_f (by decide) (br_f (by decide) (br_f (by decide) (br_f (by decide) (br_f (by decide) (br_f (by decide) (br_f (by decide) (br_f (by decide) (br_f (by decide) (br_f (by decide) (br_t (by decide) (?_)))))))))))))))))))))))))))))))))))))
  refine xm_startIf hlb hc hP (by omega) fun pk pv pp hP => ?_
  exact xm_planCondition rfl hP (by simp only [List.length_cons]; omega) H
theorem xm_st36 {post : SX → Prop} {f_tokenCount f_planCount f_next f_wrongToken f_looseJump f_latestPlace f_openLoopCount f_codeCount f_labelCount f_functionCount f_registerCount f_activeCalls f_stackCount f_nextCode f_running f_ending f_endingPlace f_resultValue f_ticksUsed f_printedCount : Int32} {a_tokenKind a_tokenValue a_planKind a_planValue a_planPlace a_argumentCount a_openLoop a_codeKind a_codeValue a_codePlace a_labelTarget a_functionStart a_functionParameters a_register a_frame a_returnTo a_stack a_element a_outputValue : Nat → Int32} {n p : Nat} {P : List gm_M} (hx : f_next = nI p) (ht : f_tokenCount = nI n) (hn : n ≤ 120) (hp : p ≤ 120) (hc : f_planCount = nI P.length) (hP : xp_Pd a_planKind a_planValue a_planPlace P) {ol : List Nat} (ho : f_openLoopCount = nI ol.length) (hol : ol.length < 120) (hO : xp_Ol a_openLoop ol) {lc cc : Nat} (hlb : f_labelCount = nI lc) (hcc : f_codeCount = nI cc) (hlc : lc < 240) (hcl : cc < 360) (hl : P.length + 6 < 960) (h : gm_tk a_tokenKind n p = 36)
    (H : ∀ oa, xp_Ol oa (lc :: ol) → ∀ pk pv pp, xp_Pd pk pv pp ((4, 0, 0) :: (106, 1, 0) :: (5, 0, 0) :: (259, nI (lc + 1), 0) :: (103, 0, 0) :: (105, nI lc, 0) :: P) → post (f_tokenCount, nI ((4, 0, 0) :: (106, 1, 0) :: (5, 0, 0) :: (259, nI (lc + 1), 0) :: (103, 0, 0) :: (105, nI lc, 0) :: P).length, nI (p + 1), f_wrongToken, f_looseJump, f_latestPlace, nI (lc :: ol).length, nI (cc + 1), nI (lc + 2), f_functionCount, f_registerCount, f_activeCalls, f_stackCount, f_nextCode, f_running, f_ending, f_endingPlace, f_resultValue, f_ticksUsed, f_printedCount, a_tokenKind, a_tokenValue, pk, pv, pp, a_argumentCount, oa, upd a_codeKind cc 63, upd a_codeValue cc 0, upd a_codePlace cc (nI p), upd a_labelTarget lc (nI cc), a_functionStart, a_functionParameters, a_register, a_frame, a_returnTo, a_stack, a_element, a_outputValue)) : wpX_parseStatement post (f_tokenCount, f_planCount, f_next, f_wrongToken, f_looseJump, f_latestPlace, f_openLoopCount, f_codeCount, f_labelCount, f_functionCount, f_registerCount, f_activeCalls, f_stackCount, f_nextCode, f_running, f_ending, f_endingPlace, f_resultValue, f_ticksUsed, f_printedCount, a_tokenKind, a_tokenValue, a_planKind, a_planValue, a_planPlace, a_argumentCount, a_openLoop, a_codeKind, a_codeValue, a_codePlace, a_labelTarget, a_functionStart, a_functionParameters, a_register, a_frame, a_returnTo, a_stack, a_element, a_outputValue) := by
  unfold wpX_parseStatement
  refine xm_kindAt hx ht hn hp ?_
  rw [h]
  refine nm_r ((congrArg (· + 1) hx).trans (nI_1 _)) (br_f (by decide) (br_f (by decide) (br_f (by decide) (br_f (by decide) (br_f (by decide) (br_f (by decide) (br_f (by decide) (br_f (by decide) (br_f (by decide) (br_f (by decide) (br_f (by decide) (br_f (by decide) (br_f (by decide) (br_f (by decide) (br_f (by decide) (br_f (by decide) (br_f (by decide) (br_f (by decide) (br_f (by decide) (br_f (by decide) (br_f (by decide) (br_f (by decide) (br_f (by decide) (br_f (by decide) (br_f (by decide) (br_f (by decide) (br_f (by decide) (br_f (by decide) (br_f (by decide) (br_f (by decide) (br_f (by decide) (br_f (by decide) (br_f (by decide) (br_f (by decide) (br_f (by decide) (br_f (by decide) (br_f (by decide) (br_t (by decide) (?_)))))))))))))))))))))))))))))))))))))))
  refine xm_startLoop hx hlb hcc hlc hcl ho hol hO hc hP (by omega) fun oa hO => ?_
  intro pk pv pp hP
  exact xm_planCondition rfl hP (by simp only [List.length_cons]; omega) (H oa hO)
theorem xm_st37a {post : SX → Prop} {f_tokenCount f_planCount f_next f_wrongToken f_looseJump f_latestPlace f_openLoopCount f_codeCount f_labelCount f_functionCount f_registerCount f_activeCalls f_stackCount f_nextCode f_running f_ending f_endingPlace f_resultValue f_ticksUsed f_printedCount : Int32} {a_tokenKind a_tokenValue a_planKind a_planValue a_planPlace a_argumentCount a_openLoop a_codeKind a_codeValue a_codePlace a_labelTarget a_functionStart a_functionParameters a_register a_frame a_returnTo a_stack a_element a_outputValue : Nat → Int32} {n p : Nat} {P : List gm_M} (hx : f_next = nI p) (ht : f_tokenCount = nI n) (hn : n ≤ 120) (hp : p ≤ 120) (hc : f_planCount = nI P.length) (hP : xp_Pd a_planKind a_planValue a_planPlace P) {ol : List Nat} (ho : f_openLoopCount = nI ol.length) (hol : ol.length < 120) (hO : xp_Ol a_openLoop ol) {d : Nat} (hd : d = 37 ∨ d = 38) (hl : P.length + 1 < 960) (hol0 : ol = []) (h : gm_tk a_tokenKind n p = nI d)
    (H : ∀ pk pv pp, xp_Pd pk pv pp ((10, 0, 0) :: P) → post (f_tokenCount, nI ((10, 0, 0) :: P).length, nI (p + 1), f_wrongToken, if f_looseJump < 0 then nI p else f_looseJump, f_latestPlace, f_openLoopCount, f_codeCount, f_labelCount, f_functionCount, f_registerCount, f_activeCalls, f_stackCount, f_nextCode, f_running, f_ending, f_endingPlace, f_resultValue, f_ticksUsed, f_printedCount, a_tokenKind, a_tokenValue, pk, pv, pp, a_argumentCount, a_openLoop, a_codeKind, a_codeValue, a_codePlace, a_labelTarget, a_functionStart, a_functionParameters, a_register, a_frame, a_returnTo, a_stack, a_element, a_outputValue)) : wpX_parseStatement post (f_tokenCount, f_planCount, f_next, f_wrongToken, f_looseJump, f_latestPlace, f_openLoopCount, f_codeCount, f_labelCount, f_functionCount, f_registerCount, f_activeCalls, f_stackCount, f_nextCode, f_running, f_ending, f_endingPlace, f_resultValue, f_ticksUsed, f_printedCount, a_tokenKind, a_tokenValue, a_planKind, a_planValue, a_planPlace, a_argumentCount, a_openLoop, a_codeKind, a_codeValue, a_codePlace, a_labelTarget, a_functionStart, a_functionParameters, a_register, a_frame, a_returnTo, a_stack, a_element, a_outputValue) := by
  unfold wpX_parseStatement
  refine xm_kindAt hx ht hn hp ?_
  rw [h]
  rcases hd with rfl | rfl
  · refine nm_r ((congrArg (· + 1) hx).trans (nI_1 _)) (br_f (by decide) (br_f (by decide) (br_f (by decide) (br_f (by decide) (br_f (by decide) (br_f (by decide) (br_f (by decide) (br_f (by decide) (br_f (by decide) (br_f (by decide) (br_f (by decide) (br_f (by decide) (br_f (by decide) (br_f (by decide) (br_f (by decide) (br_f (by decide) (br_f (by decide) (br_f (by decide) (br_f (by decide) (br_f (by decide) (br_f (by decide) (br_f (by decide) (br_f (by decide) (br_f (by decide) (br_f (by decide) (br_f (by decide) (br_f (by decide) (br_f (by decide) (br_f (by decide) (br_f (by decide) (br_f (by decide) (br_f (by decide) (br_f (by decide) (br_f (by decide) (br_f (by decide) (br_f (by decide) (br_f (by decide) (br_f (by decide) (br_t (by decide) (?_))))))))))))))))))))))))))))))))))))))))
    exact xm_leave0 hx hol0 ho hc hP hl H
  · refine nm_r ((congrArg (· + 1) hx).trans (nI_1 _)) (br_f (by decide) (br_f (by decide) (br_f (by decide) (br_f (by decide) (br_f (by decide) (br_f (by decide) (br_f (by decide) (br_f (by decide) (br_f (by decide) (br_f (by decide) (br_f (by decide) (br_f (by decide) (br_f (by decide) (br_f (by decide) (br_f (by decide) (br_f (by decide) (br_f (by decide) (br_f (by decide) (br_f (by decide) (br_f (by decide) (br_f (by decide) (br_f (by decide) (br_f (by decide) (br_f (by decide) (br_f (by decide) (br_f (by decide) (br_f (by decide) (br_f (by decide) (br_f (by decide) (br_f (by decide) (br_f (by decide) (br_f (by decide) (br_f (by decide) (br_f (by decide) (br_f (by decide) (br_f (by decide) (br_f (by decide) (br_f (by decide) (br_f (by decide) (br_t (by decide) (?_)))))))))))))))))))))))))))))))))))))))))
    exact xm_leave0 hx hol0 ho hc hP hl H
theorem xm_st37b {post : SX → Prop} {f_tokenCount f_planCount f_next f_wrongToken f_looseJump f_latestPlace f_openLoopCount f_codeCount f_labelCount f_functionCount f_registerCount f_activeCalls f_stackCount f_nextCode f_running f_ending f_endingPlace f_resultValue f_ticksUsed f_printedCount : Int32} {a_tokenKind a_tokenValue a_planKind a_planValue a_planPlace a_argumentCount a_openLoop a_codeKind a_codeValue a_codePlace a_labelTarget a_functionStart a_functionParameters a_register a_frame a_returnTo a_stack a_element a_outputValue : Nat → Int32} {n p : Nat} {P : List gm_M} (hx : f_next = nI p) (ht : f_tokenCount = nI n) (hn : n ≤ 120) (hp : p ≤ 120) (hc : f_planCount = nI P.length) (hP : xp_Pd a_planKind a_planValue a_planPlace P) {d e a cc : Nat} {ol : List Nat} (ho : f_openLoopCount = nI (a :: ol).length) (hol : ol.length < 120) (hO : xp_Ol a_openLoop (a :: ol)) (hcc : f_codeCount = nI cc) (hcl : cc < 360) (hd : d = 37 ∧ e = 1 ∨ d = 38 ∧ e = 0) (hl : P.length + 1 < 960) (h : gm_tk a_tokenKind n p = nI d)
    (H : ∀ pk pv pp, xp_Pd pk pv pp ((10, 0, 0) :: P) → post (f_tokenCount, nI ((10, 0, 0) :: P).length, nI (p + 1), f_wrongToken, f_looseJump, f_latestPlace, f_openLoopCount, nI (cc + 1), f_labelCount, f_functionCount, f_registerCount, f_activeCalls, f_stackCount, f_nextCode, f_running, f_ending, f_endingPlace, f_resultValue, f_ticksUsed, f_printedCount, a_tokenKind, a_tokenValue, pk, pv, pp, a_argumentCount, a_openLoop, upd a_codeKind cc 58, upd a_codeValue cc (nI (a + e)), upd a_codePlace cc (nI p), a_labelTarget, a_functionStart, a_functionParameters, a_register, a_frame, a_returnTo, a_stack, a_element, a_outputValue)) : wpX_parseStatement post (f_tokenCount, f_planCount, f_next, f_wrongToken, f_looseJump, f_latestPlace, f_openLoopCount, f_codeCount, f_labelCount, f_functionCount, f_registerCount, f_activeCalls, f_stackCount, f_nextCode, f_running, f_ending, f_endingPlace, f_resultValue, f_ticksUsed, f_printedCount, a_tokenKind, a_tokenValue, a_planKind, a_planValue, a_planPlace, a_argumentCount, a_openLoop, a_codeKind, a_codeValue, a_codePlace, a_labelTarget, a_functionStart, a_functionParameters, a_register, a_frame, a_returnTo, a_stack, a_element, a_outputValue) := by
  unfold wpX_parseStatement
  refine xm_kindAt hx ht hn hp ?_
  rw [h]
  rcases hd with ⟨rfl, rfl⟩ | ⟨rfl, rfl⟩
  · refine nm_r ((congrArg (· + 1) hx).trans (nI_1 _)) (br_f (by decide) (br_f (by decide) (br_f (by decide) (br_f (by decide) (br_f (by decide) (br_f (by decide) (br_f (by decide) (br_f (by decide) (br_f (by decide) (br_f (by decide) (br_f (by decide) (br_f (by decide) (br_f (by decide) (br_f (by decide) (br_f (by decide) (br_f (by decide) (br_f (by decide) (br_f (by decide) (br_f (by decide) (br_f (by decide) (br_f (by decide) (br_f (by decide) (br_f (by decide) (br_f (by decide) (br_f (by decide) (br_f (by decide) (br_f (by decide) (br_f (by decide) (br_f (by decide) (br_f (by decide) (br_f (by decide) (br_f (by decide) (br_f (by decide) (br_f (by decide) (br_f (by decide) (br_f (by decide) (br_f (by decide) (br_f (by decide) (br_t (by decide) (?_))))))))))))))))))))))))))))))))))))))))
    exact xm_leave1 hx (Or.inl ⟨rfl, rfl⟩) ho hol hO hcc hcl hc hP hl H
  · refine nm_r ((congrArg (· + 1) hx).trans (nI_1 _)) (br_f (by decide) (br_f (by decide) (br_f (by decide) (br_f (by decide) (br_f (by decide) (br_f (by decide) (br_f (by decide) (br_f (by decide) (br_f (by decide) (br_f (by decide) (br_f (by decide) (br_f (by decide) (br_f (by decide) (br_f (by decide) (br_f (by decide) (br_f (by decide) (br_f (by decide) (br_f (by decide) (br_f (by decide) (br_f (by decide) (br_f (by decide) (br_f (by decide) (br_f (by decide) (br_f (by decide) (br_f (by decide) (br_f (by decide) (br_f (by decide) (br_f (by decide) (br_f (by decide) (br_f (by decide) (br_f (by decide) (br_f (by decide) (br_f (by decide) (br_f (by decide) (br_f (by decide) (br_f (by decide) (br_f (by decide) (br_f (by decide) (br_f (by decide) (br_t (by decide) (?_)))))))))))))))))))))))))))))))))))))))))
    exact xm_leave1 hx (Or.inr ⟨by decide, rfl⟩) ho hol hO hcc hcl hc hP hl H
theorem xm_st39 {post : SX → Prop} {f_tokenCount f_planCount f_next f_wrongToken f_looseJump f_latestPlace f_openLoopCount f_codeCount f_labelCount f_functionCount f_registerCount f_activeCalls f_stackCount f_nextCode f_running f_ending f_endingPlace f_resultValue f_ticksUsed f_printedCount : Int32} {a_tokenKind a_tokenValue a_planKind a_planValue a_planPlace a_argumentCount a_openLoop a_codeKind a_codeValue a_codePlace a_labelTarget a_functionStart a_functionParameters a_register a_frame a_returnTo a_stack a_element a_outputValue : Nat → Int32} {n p : Nat} {P : List gm_M} (hx : f_next = nI p) (ht : f_tokenCount = nI n) (hn : n ≤ 120) (hp : p ≤ 120) (hc : f_planCount = nI P.length) (hP : xp_Pd a_planKind a_planValue a_planPlace P) {d : Nat} (hd : d = 39 ∨ d = 40) (hl : P.length + 3 < 960) (h : gm_tk a_tokenKind n p = nI d) (H : ∀ pk pv pp, xp_Pd pk pv pp ((106, 1, 0) :: (200 + d, 0, p) :: (10, 0, 0) :: P) → post (f_tokenCount, nI ((106, 1, 0) :: (200 + d, 0, p) :: (10, 0, 0) :: P).length, nI (p + 1), f_wrongToken, f_looseJump, f_latestPlace, f_openLoopCount, f_codeCount, f_labelCount, f_functionCount, f_registerCount, f_activeCalls, f_stackCount, f_nextCode, f_running, f_ending, f_endingPlace, f_resultValue, f_ticksUsed, f_printedCount, a_tokenKind, a_tokenValue, pk, pv, pp, a_argumentCount, a_openLoop, a_codeKind, a_codeValue, a_codePlace, a_labelTarget, a_functionStart, a_functionParameters, a_register, a_frame, a_returnTo, a_stack, a_element, a_outputValue)) : wpX_parseStatement post (f_tokenCount, f_planCount, f_next, f_wrongToken, f_looseJump, f_latestPlace, f_openLoopCount, f_codeCount, f_labelCount, f_functionCount, f_registerCount, f_activeCalls, f_stackCount, f_nextCode, f_running, f_ending, f_endingPlace, f_resultValue, f_ticksUsed, f_printedCount, a_tokenKind, a_tokenValue, a_planKind, a_planValue, a_planPlace, a_argumentCount, a_openLoop, a_codeKind, a_codeValue, a_codePlace, a_labelTarget, a_functionStart, a_functionParameters, a_register, a_frame, a_returnTo, a_stack, a_element, a_outputValue) := by
  unfold wpX_parseStatement
  refine xm_kindAt hx ht hn hp ?_
  rw [h]
  subst hx
  rcases hd with rfl | rfl
  · refine nm_r (nI_1 _) (br_f (by decide) (br_f (by decide) (br_f (by decide) (br_f (by decide) (br_f (by decide) (br_f (by decide) (br_f (by decide) (br_f (by decide) (br_f (by decide) (br_f (by decide) (br_f (by decide) (br_f (by decide) (br_f (by decide) (br_f (by decide) (br_f (by decide) (br_f (by decide) (br_f (by decide) (br_f (by decide) (br_f (by decide) (br_f (by decide) (br_f (by decide) (br_f (by decide) (br_f (by decide) (br_f (by decide) (br_f (by decide) (br_f (by decide) (br_f (by decide) (br_f (by decide) (br_f (by decide) (br_f (by decide) (br_f (by decide) (br_f (by decide) (br_f (by decide) (br_f (by decide) (br_f (by decide) (br_f (by decide) (br_f (by decide) (br_f (by decide) (br_f (by decide) (br_f (by decide) (br_t (by decide) (?_))))))))))))))))))))))))))))))))))))))))))
    refine xm_plan 10 0 0 hc (by omega) hP fun pk pv pp hP => ?_
    refine xm_plan 239 0 p rfl (by simp only [List.length_cons]; omega) hP fun pk pv pp hP => ?_
    refine xm_plan 106 1 0 rfl (by simp only [List.length_cons]; omega) hP fun pk pv pp hP => ?_
    exact H _ _ _ hP
  · refine nm_r (nI_1 _) (br_f (by decide) (br_f (by decide) (br_f (by decide) (br_f (by decide) (br_f (by decide) (br_f (by decide) (br_f (by decide) (br_f (by decide) (br_f (by decide) (br_f (by decide) (br_f (by decide) (br_f (by decide) (br_f (by decide) (br_f (by decide) (br_f (by decide) (br_f (by decide) (br_f (by decide) (br_f (by decide) (br_f (by decide) (br_f (by decide) (br_f (by decide) (br_f (by decide) (br_f (by decide) (br_f (by decide) (br_f (by decide) (br_f (by decide) (br_f (by decide) (br_f (by decide) (br_f (by decide) (br_f (by decide) (br_f (by decide) (br_f (by decide) (br_f (by decide) (br_f (by decide) (br_f (by decide) (br_f (by decide) (br_f (by decide) (br_f (by decide) (br_f (by decide) (br_f (by decide) (br_f (by decide) (br_t (by decide) (?_)))))))))))))))))))))))))))))))))))))))))))
    refine xm_plan 10 0 0 hc (by omega) hP fun pk pv pp hP => ?_
    refine xm_plan 240 0 p rfl (by simp only [List.length_cons]; omega) hP fun pk pv pp hP => ?_
    refine xm_plan 106 1 0 rfl (by simp only [List.length_cons]; omega) hP fun pk pv pp hP => ?_
    exact H _ _ _ hP
theorem xm_stE {post : SX → Prop} {f_tokenCount f_planCount f_next f_wrongToken f_looseJump f_latestPlace f_openLoopCount f_codeCount f_labelCount f_functionCount f_registerCount f_activeCalls f_stackCount f_nextCode f_running f_ending f_endingPlace f_resultValue f_ticksUsed f_printedCount : Int32} {a_tokenKind a_tokenValue a_planKind a_planValue a_planPlace a_argumentCount a_openLoop a_codeKind a_codeValue a_codePlace a_labelTarget a_functionStart a_functionParameters a_register a_frame a_returnTo a_stack a_element a_outputValue : Nat → Int32} {n p : Nat} (hx : f_next = nI p) (ht : f_tokenCount = nI n) (hn : n ≤ 120) (hp : p ≤ 120) (h8 : ¬ gm_tk a_tokenKind n p = 8) (h1 : ¬ gm_tk a_tokenKind n p = 1) (h3 : ¬ gm_tk a_tokenKind n p = 3) (h2 : ¬ gm_tk a_tokenKind n p = 2) (h34 : ¬ gm_tk a_tokenKind n p = 34)
    (h36 : ¬ gm_tk a_tokenKind n p = 36) (h37 : ¬ gm_tk a_tokenKind n p = 37) (h38 : ¬ gm_tk a_tokenKind n p = 38) (h39 : ¬ gm_tk a_tokenKind n p = 39) (h40 : ¬ gm_tk a_tokenKind n p = 40)
    (H : post (f_tokenCount, f_planCount, nI (p + 1), nI p, f_looseJump, f_latestPlace, f_openLoopCount, f_codeCount, f_labelCount, f_functionCount, f_registerCount, f_activeCalls, f_stackCount, f_nextCode, f_running, f_ending, f_endingPlace, f_resultValue, f_ticksUsed, f_printedCount, a_tokenKind, a_tokenValue, a_planKind, a_planValue, a_planPlace, a_argumentCount, a_openLoop, a_codeKind, a_codeValue, a_codePlace, a_labelTarget, a_functionStart, a_functionParameters, a_register, a_frame, a_returnTo, a_stack, a_element, a_outputValue)) : wpX_parseStatement post (f_tokenCount, f_planCount, f_next, f_wrongToken, f_looseJump, f_latestPlace, f_openLoopCount, f_codeCount, f_labelCount, f_functionCount, f_registerCount, f_activeCalls, f_stackCount, f_nextCode, f_running, f_ending, f_endingPlace, f_resultValue, f_ticksUsed, f_printedCount, a_tokenKind, a_tokenValue, a_planKind, a_planValue, a_planPlace, a_argumentCount, a_openLoop, a_codeKind, a_codeValue, a_codePlace, a_labelTarget, a_functionStart, a_functionParameters, a_register, a_frame, a_returnTo, a_stack, a_element, a_outputValue) := by
  unfold wpX_parseStatement
  refine xm_kindAt hx ht hn hp ?_
  subst hx
  refine nm_r (nI_1 _) ?_
  exact br_c (fun _ => H) (fun _ => br_c (fun _ => H) (fun _ => br_f h1 (br_f h2 (br_f h3 (br_c (fun _ => H) (fun _ => br_c (fun _ => H) (fun _ => br_c (fun _ => H) (fun _ => br_c (fun _ => H) (fun _ => br_f h8 (br_c (fun _ => H) (fun _ => br_c (fun _ => H) (fun _ => br_c (fun _ => H) (fun _ => br_c (fun _ => H) (fun _ => br_c (fun _ => H) (fun _ => br_c (fun _ => H) (fun _ => br_c (fun _ => H) (fun _ => br_c (fun _ => H) (fun _ => br_c (fun _ => H) (fun _ => br_c (fun _ => H) (fun _ => br_c (fun _ => H) (fun _ => br_c (fun _ => H) (fun _ => br_c (fun _ => H) (fun _ => br_c (fun _ => H) (fun _ => br_c (fun _ => H) (fun _ => br_c (fun _ => H) (fun _ => br_c (fun _ => H) (fun _ => br_c (fun _ => H) (fun _ => br_c (fun _ => H) (fun _ => br_c (fun _ => H) (fun _ => br_c (fun _ => H) (fun _ => br_c (fun _ => H) (fun _ => br_c (fun _ => H) (fun _ => br_c (fun _ => H) (fun _ => br_c (fun _ => H) (fun _ => br_f h34 (br_c (fun _ => H) (fun _ => br_f h36 (br_f h37 (br_f h38 (br_f h39 (br_f h40 (trivial))))))))))))))))))))))))))))))))))))))))))
end
section
/-! X, compile: expressions, functions, arguments -/
theorem xm_un {post : SX → Prop} {f_tokenCount f_planCount f_next f_wrongToken f_looseJump f_latestPlace f_openLoopCount f_codeCount f_labelCount f_functionCount f_registerCount f_activeCalls f_stackCount f_nextCode f_running f_ending f_endingPlace f_resultValue f_ticksUsed f_printedCount : Int32} {a_tokenKind a_tokenValue a_planKind a_planValue a_planPlace a_argumentCount a_openLoop a_codeKind a_codeValue a_codePlace a_labelTarget a_functionStart a_functionParameters a_register a_frame a_returnTo a_stack a_element a_outputValue : Nat → Int32} {n p : Nat} {P : List gm_M} (hx : f_next = nI p) (ht : f_tokenCount = nI n) (hn : n ≤ 120) (hp : p ≤ 120) (hc : f_planCount = nI P.length) (hP : xp_Pd a_planKind a_planValue a_planPlace P) {d e : Nat} (hp' : p < 120) (hd : d = 28 ∧ e = 50 ∨ d = 32 ∧ e = 32 ∨ d = 33 ∧ e = 33) (hl : P.length + 2 < 960) (h : gm_tk a_tokenKind n p = nI d)
    (H : ∀ pk pv pp, xp_Pd pk pv pp ((108, 0, 0) :: (200 + e, 0, p) :: P) → post (f_tokenCount, nI ((108, 0, 0) :: (200 + e, 0, p) :: P).length, nI (p + 1), f_wrongToken, f_looseJump, f_latestPlace, f_openLoopCount, f_codeCount, f_labelCount, f_functionCount, f_registerCount, f_activeCalls, f_stackCount, f_nextCode, f_running, f_ending, f_endingPlace, f_resultValue, f_ticksUsed, f_printedCount, a_tokenKind, a_tokenValue, pk, pv, pp, a_argumentCount, a_openLoop, a_codeKind, a_codeValue, a_codePlace, a_labelTarget, a_functionStart, a_functionParameters, a_register, a_frame, a_returnTo, a_stack, a_element, a_outputValue)) : wpX_parseOperand post (f_tokenCount, f_planCount, f_next, f_wrongToken, f_looseJump, f_latestPlace, f_openLoopCount, f_codeCount, f_labelCount, f_functionCount, f_registerCount, f_activeCalls, f_stackCount, f_nextCode, f_running, f_ending, f_endingPlace, f_resultValue, f_ticksUsed, f_printedCount, a_tokenKind, a_tokenValue, a_planKind, a_planValue, a_planPlace, a_argumentCount, a_openLoop, a_codeKind, a_codeValue, a_codePlace, a_labelTarget, a_functionStart, a_functionParameters, a_register, a_frame, a_returnTo, a_stack, a_element, a_outputValue) := by
  unfold wpX_parseOperand
  refine xm_valueAt hx hp' ?_
  refine xm_kindAt hx ht hn hp ?_
  rw [h]
  subst hx
  rcases hd with ⟨rfl, rfl⟩ | ⟨rfl, rfl⟩ | ⟨rfl, rfl⟩
  · refine nm_r (nI_1 _) (br_f (by decide) (br_f (by decide) (br_f (by decide) (br_f (by decide) (br_f (by decide) (br_t (by decide) (br_t (by decide) ?_)))))))
    refine xm_plan 250 0 p hc (by omega) hP fun pk pv pp hP => ?_
    refine xm_plan 108 0 0 rfl (by simp only [List.length_cons]; omega) hP fun pk pv pp hP => ?_
    exact H _ _ _ hP
  · refine nm_r (nI_1 _) (br_f (by decide) (br_f (by decide) (br_f (by decide) (br_f (by decide) (br_f (by decide) (br_f (by decide) (br_t (by decide) (br_f (by decide) ?_))))))))
    refine xm_plan 232 0 p hc (by omega) hP fun pk pv pp hP => ?_
    refine xm_plan 108 0 0 rfl (by simp only [List.length_cons]; omega) hP fun pk pv pp hP => ?_
    exact H _ _ _ hP
  · refine nm_r (nI_1 _) (br_f (by decide) (br_f (by decide) (br_f (by decide) (br_f (by decide) (br_f (by decide) (br_f (by decide) (br_f (by decide) (br_t (by decide) (br_f (by decide) ?_)))))))))
    refine xm_plan 233 0 p hc (by omega) hP fun pk pv pp hP => ?_
    refine xm_plan 108 0 0 rfl (by simp only [List.length_cons]; omega) hP fun pk pv pp hP => ?_
    exact H _ _ _ hP
theorem xm_un0 {post : SX → Prop} {f_tokenCount f_planCount f_next f_wrongToken f_looseJump f_latestPlace f_openLoopCount f_codeCount f_labelCount f_functionCount f_registerCount f_activeCalls f_stackCount f_nextCode f_running f_ending f_endingPlace f_resultValue f_ticksUsed f_printedCount : Int32} {a_tokenKind a_tokenValue a_planKind a_planValue a_planPlace a_argumentCount a_openLoop a_codeKind a_codeValue a_codePlace a_labelTarget a_functionStart a_functionParameters a_register a_frame a_returnTo a_stack a_element a_outputValue : Nat → Int32} {n p : Nat} {P : List gm_M} (hx : f_next = nI p) (ht : f_tokenCount = nI n) (hn : n ≤ 120) (hp : p ≤ 120) (hc : f_planCount = nI P.length) (hP : xp_Pd a_planKind a_planValue a_planPlace P) {cc : Nat} (hcc : f_codeCount = nI cc) (hcl : cc < 360) (hp' : p < 120) (h : gm_tk a_tokenKind n p = 0)
    (H : post (f_tokenCount, f_planCount, nI (p + 1), f_wrongToken, f_looseJump, f_latestPlace, f_openLoopCount, nI (cc + 1), f_labelCount, f_functionCount, f_registerCount, f_activeCalls, f_stackCount, f_nextCode, f_running, f_ending, f_endingPlace, f_resultValue, f_ticksUsed, f_printedCount, a_tokenKind, a_tokenValue, a_planKind, a_planValue, a_planPlace, a_argumentCount, a_openLoop, upd a_codeKind cc 51, upd a_codeValue cc (a_tokenValue p), upd a_codePlace cc (nI p), a_labelTarget, a_functionStart, a_functionParameters, a_register, a_frame, a_returnTo, a_stack, a_element, a_outputValue)) : wpX_parseOperand post (f_tokenCount, f_planCount, f_next, f_wrongToken, f_looseJump, f_latestPlace, f_openLoopCount, f_codeCount, f_labelCount, f_functionCount, f_registerCount, f_activeCalls, f_stackCount, f_nextCode, f_running, f_ending, f_endingPlace, f_resultValue, f_ticksUsed, f_printedCount, a_tokenKind, a_tokenValue, a_planKind, a_planValue, a_planPlace, a_argumentCount, a_openLoop, a_codeKind, a_codeValue, a_codePlace, a_labelTarget, a_functionStart, a_functionParameters, a_register, a_frame, a_returnTo, a_stack, a_element, a_outputValue) := by
  unfold wpX_parseOperand
  refine xm_valueAt hx hp' ?_
  refine xm_kindAt hx ht hn hp ?_
  rw [h]
  subst hx
  exact nm_r (nI_1 _) (br_t (by decide) (xm_emit hcc hcl H))
theorem xm_un1 {post : SX → Prop} {f_tokenCount f_planCount f_next f_wrongToken f_looseJump f_latestPlace f_openLoopCount f_codeCount f_labelCount f_functionCount f_registerCount f_activeCalls f_stackCount f_nextCode f_running f_ending f_endingPlace f_resultValue f_ticksUsed f_printedCount : Int32} {a_tokenKind a_tokenValue a_planKind a_planValue a_planPlace a_argumentCount a_openLoop a_codeKind a_codeValue a_codePlace a_labelTarget a_functionStart a_functionParameters a_register a_frame a_returnTo a_stack a_element a_outputValue : Nat → Int32} {n p : Nat} {P : List gm_M} (hx : f_next = nI p) (ht : f_tokenCount = nI n) (hn : n ≤ 120) (hp : p ≤ 120) (hc : f_planCount = nI P.length) (hP : xp_Pd a_planKind a_planValue a_planPlace P) {cc : Nat} (hcc : f_codeCount = nI cc) (hcl : cc < 360) (hp' : p < 120) (h : gm_tk a_tokenKind n p = 1)
    (H : post (f_tokenCount, f_planCount, nI (p + 1), f_wrongToken, f_looseJump, f_latestPlace, f_openLoopCount, nI (cc + 1), f_labelCount, f_functionCount, f_registerCount, f_activeCalls, f_stackCount, f_nextCode, f_running, f_ending, f_endingPlace, f_resultValue, f_ticksUsed, f_printedCount, a_tokenKind, a_tokenValue, a_planKind, a_planValue, a_planPlace, a_argumentCount, a_openLoop, upd a_codeKind cc 52, upd a_codeValue cc (a_tokenValue p), upd a_codePlace cc (nI p), a_labelTarget, a_functionStart, a_functionParameters, a_register, a_frame, a_returnTo, a_stack, a_element, a_outputValue)) : wpX_parseOperand post (f_tokenCount, f_planCount, f_next, f_wrongToken, f_looseJump, f_latestPlace, f_openLoopCount, f_codeCount, f_labelCount, f_functionCount, f_registerCount, f_activeCalls, f_stackCount, f_nextCode, f_running, f_ending, f_endingPlace, f_resultValue, f_ticksUsed, f_printedCount, a_tokenKind, a_tokenValue, a_planKind, a_planValue, a_planPlace, a_argumentCount, a_openLoop, a_codeKind, a_codeValue, a_codePlace, a_labelTarget, a_functionStart, a_functionParameters, a_register, a_frame, a_returnTo, a_stack, a_element, a_outputValue) := by
  unfold wpX_parseOperand
  refine xm_valueAt hx hp' ?_
  refine xm_kindAt hx ht hn hp ?_
  rw [h]
  subst hx
  exact nm_r (nI_1 _) (br_f (by decide) (br_t (by decide) (xm_emit hcc hcl H)))
theorem xm_un2 {post : SX → Prop} {f_tokenCount f_planCount f_next f_wrongToken f_looseJump f_latestPlace f_openLoopCount f_codeCount f_labelCount f_functionCount f_registerCount f_activeCalls f_stackCount f_nextCode f_running f_ending f_endingPlace f_resultValue f_ticksUsed f_printedCount : Int32} {a_tokenKind a_tokenValue a_planKind a_planValue a_planPlace a_argumentCount a_openLoop a_codeKind a_codeValue a_codePlace a_labelTarget a_functionStart a_functionParameters a_register a_frame a_returnTo a_stack a_element a_outputValue : Nat → Int32} {n p : Nat} {P : List gm_M} (hx : f_next = nI p) (ht : f_tokenCount = nI n) (hn : n ≤ 120) (hp : p ≤ 120) (hc : f_planCount = nI P.length) (hP : xp_Pd a_planKind a_planValue a_planPlace P) (hp' : p < 120) (hl : P.length + 5 < 960) (h : gm_tk a_tokenKind n p = 2)
    (H : ∀ pk pv pp, xp_Pd pk pv pp ((4, 0, 0) :: (109, 0, p) :: (262, 0, p) :: (263, 0, p) :: (264, a_tokenValue p, 0) :: P) → post (f_tokenCount, nI ((4, 0, 0) :: (109, 0, p) :: (262, 0, p) :: (263, 0, p) :: (264, a_tokenValue p, 0) :: P).length, nI (p + 1), f_wrongToken, f_looseJump, f_latestPlace, f_openLoopCount, f_codeCount, f_labelCount, f_functionCount, f_registerCount, f_activeCalls, f_stackCount, f_nextCode, f_running, f_ending, f_endingPlace, f_resultValue, f_ticksUsed, f_printedCount, a_tokenKind, a_tokenValue, pk, pv, pp, a_argumentCount, a_openLoop, a_codeKind, a_codeValue, a_codePlace, a_labelTarget, a_functionStart, a_functionParameters, a_register, a_frame, a_returnTo, a_stack, a_element, a_outputValue)) : wpX_parseOperand post (f_tokenCount, f_planCount, f_next, f_wrongToken, f_looseJump, f_latestPlace, f_openLoopCount, f_codeCount, f_labelCount, f_functionCount, f_registerCount, f_activeCalls, f_stackCount, f_nextCode, f_running, f_ending, f_endingPlace, f_resultValue, f_ticksUsed, f_printedCount, a_tokenKind, a_tokenValue, a_planKind, a_planValue, a_planPlace, a_argumentCount, a_openLoop, a_codeKind, a_codeValue, a_codePlace, a_labelTarget, a_functionStart, a_functionParameters, a_register, a_frame, a_returnTo, a_stack, a_element, a_outputValue) := by
  unfold wpX_parseOperand
  refine xm_valueAt hx hp' ?_
  refine xm_kindAt hx ht hn hp ?_
  rw [h]
  refine nm_r ((congrArg (· + 1) hx).trans (nI_1 _)) (br_f (by decide) (br_f (by decide) (br_t (by decide) (?_))))
  exact xm_planCall hc hP hx hp' hl H
theorem xm_un3 {post : SX → Prop} {f_tokenCount f_planCount f_next f_wrongToken f_looseJump f_latestPlace f_openLoopCount f_codeCount f_labelCount f_functionCount f_registerCount f_activeCalls f_stackCount f_nextCode f_running f_ending f_endingPlace f_resultValue f_ticksUsed f_printedCount : Int32} {a_tokenKind a_tokenValue a_planKind a_planValue a_planPlace a_argumentCount a_openLoop a_codeKind a_codeValue a_codePlace a_labelTarget a_functionStart a_functionParameters a_register a_frame a_returnTo a_stack a_element a_outputValue : Nat → Int32} {n p : Nat} {P : List gm_M} (hx : f_next = nI p) (ht : f_tokenCount = nI n) (hn : n ≤ 120) (hp : p ≤ 120) (hc : f_planCount = nI P.length) (hP : xp_Pd a_planKind a_planValue a_planPlace P) (hp' : p < 120) (hl : P.length + 4 < 960) (h : gm_tk a_tokenKind n p = 3)
    (H : ∀ pk pv pp, xp_Pd pk pv pp ((6, 0, 0) :: (106, 1, 0) :: (7, 0, 0) :: (254, 0, p) :: P) → post (f_tokenCount, nI ((6, 0, 0) :: (106, 1, 0) :: (7, 0, 0) :: (254, 0, p) :: P).length, nI (p + 1), f_wrongToken, f_looseJump, f_latestPlace, f_openLoopCount, f_codeCount, f_labelCount, f_functionCount, f_registerCount, f_activeCalls, f_stackCount, f_nextCode, f_running, f_ending, f_endingPlace, f_resultValue, f_ticksUsed, f_printedCount, a_tokenKind, a_tokenValue, pk, pv, pp, a_argumentCount, a_openLoop, a_codeKind, a_codeValue, a_codePlace, a_labelTarget, a_functionStart, a_functionParameters, a_register, a_frame, a_returnTo, a_stack, a_element, a_outputValue)) : wpX_parseOperand post (f_tokenCount, f_planCount, f_next, f_wrongToken, f_looseJump, f_latestPlace, f_openLoopCount, f_codeCount, f_labelCount, f_functionCount, f_registerCount, f_activeCalls, f_stackCount, f_nextCode, f_running, f_ending, f_endingPlace, f_resultValue, f_ticksUsed, f_printedCount, a_tokenKind, a_tokenValue, a_planKind, a_planValue, a_planPlace, a_argumentCount, a_openLoop, a_codeKind, a_codeValue, a_codePlace, a_labelTarget, a_functionStart, a_functionParameters, a_register, a_frame, a_returnTo, a_stack, a_element, a_outputValue) := by
  unfold wpX_parseOperand
  refine xm_valueAt hx hp' ?_
  refine xm_kindAt hx ht hn hp ?_
  rw [h]
  subst hx
  refine nm_r (nI_1 _) (br_f (by decide) (br_f (by decide) (br_f (by decide) (br_t (by decide) (?_)))))
  refine xm_plan 254 0 p hc (by omega) hP fun pk pv pp hP => ?_
  exact xm_planElementIndex rfl hP (by simp only [List.length_cons]; omega) H
theorem xm_un4 {post : SX → Prop} {f_tokenCount f_planCount f_next f_wrongToken f_looseJump f_latestPlace f_openLoopCount f_codeCount f_labelCount f_functionCount f_registerCount f_activeCalls f_stackCount f_nextCode f_running f_ending f_endingPlace f_resultValue f_ticksUsed f_printedCount : Int32} {a_tokenKind a_tokenValue a_planKind a_planValue a_planPlace a_argumentCount a_openLoop a_codeKind a_codeValue a_codePlace a_labelTarget a_functionStart a_functionParameters a_register a_frame a_returnTo a_stack a_element a_outputValue : Nat → Int32} {n p : Nat} {P : List gm_M} (hx : f_next = nI p) (ht : f_tokenCount = nI n) (hn : n ≤ 120) (hp : p ≤ 120) (hc : f_planCount = nI P.length) (hP : xp_Pd a_planKind a_planValue a_planPlace P) (hp' : p < 120) (hl : P.length + 2 < 960) (h : gm_tk a_tokenKind n p = 4)
    (H : ∀ pk pv pp, xp_Pd pk pv pp ((106, 1, 0) :: (5, 0, 0) :: P) → post (f_tokenCount, nI ((106, 1, 0) :: (5, 0, 0) :: P).length, nI (p + 1), f_wrongToken, f_looseJump, f_latestPlace, f_openLoopCount, f_codeCount, f_labelCount, f_functionCount, f_registerCount, f_activeCalls, f_stackCount, f_nextCode, f_running, f_ending, f_endingPlace, f_resultValue, f_ticksUsed, f_printedCount, a_tokenKind, a_tokenValue, pk, pv, pp, a_argumentCount, a_openLoop, a_codeKind, a_codeValue, a_codePlace, a_labelTarget, a_functionStart, a_functionParameters, a_register, a_frame, a_returnTo, a_stack, a_element, a_outputValue)) : wpX_parseOperand post (f_tokenCount, f_planCount, f_next, f_wrongToken, f_looseJump, f_latestPlace, f_openLoopCount, f_codeCount, f_labelCount, f_functionCount, f_registerCount, f_activeCalls, f_stackCount, f_nextCode, f_running, f_ending, f_endingPlace, f_resultValue, f_ticksUsed, f_printedCount, a_tokenKind, a_tokenValue, a_planKind, a_planValue, a_planPlace, a_argumentCount, a_openLoop, a_codeKind, a_codeValue, a_codePlace, a_labelTarget, a_functionStart, a_functionParameters, a_register, a_frame, a_returnTo, a_stack, a_element, a_outputValue) := by
  unfold wpX_parseOperand
  refine xm_valueAt hx hp' ?_
  refine xm_kindAt hx ht hn hp ?_
  rw [h]
  refine nm_r ((congrArg (· + 1) hx).trans (nI_1 _)) (br_f (by decide) (br_f (by decide) (br_f (by decide) (br_f (by decide) (br_t (by decide) (?_))))))
  refine xm_plan 5 0 0 hc (by omega) hP fun pk pv pp hP => ?_
  refine xm_plan 106 1 0 rfl (by simp only [List.length_cons]; omega) hP fun pk pv pp hP => ?_
  exact H _ _ _ hP
theorem xm_unE {post : SX → Prop} {f_tokenCount f_planCount f_next f_wrongToken f_looseJump f_latestPlace f_openLoopCount f_codeCount f_labelCount f_functionCount f_registerCount f_activeCalls f_stackCount f_nextCode f_running f_ending f_endingPlace f_resultValue f_ticksUsed f_printedCount : Int32} {a_tokenKind a_tokenValue a_planKind a_planValue a_planPlace a_argumentCount a_openLoop a_codeKind a_codeValue a_codePlace a_labelTarget a_functionStart a_functionParameters a_register a_frame a_returnTo a_stack a_element a_outputValue : Nat → Int32} {n p : Nat} (hx : f_next = nI p) (ht : f_tokenCount = nI n) (hn : n ≤ 120) (hp : p ≤ 120) (h28 : ¬ gm_tk a_tokenKind n p = 28) (h32 : ¬ gm_tk a_tokenKind n p = 32) (h33 : ¬ gm_tk a_tokenKind n p = 33) (h0 : ¬ gm_tk a_tokenKind n p = 0)
    (h1 : ¬ gm_tk a_tokenKind n p = 1) (h2 : ¬ gm_tk a_tokenKind n p = 2) (h3 : ¬ gm_tk a_tokenKind n p = 3) (h4 : ¬ gm_tk a_tokenKind n p = 4)
    (H : post (f_tokenCount, f_planCount, nI (p + 1), nI p, f_looseJump, f_latestPlace, f_openLoopCount, f_codeCount, f_labelCount, f_functionCount, f_registerCount, f_activeCalls, f_stackCount, f_nextCode, f_running, f_ending, f_endingPlace, f_resultValue, f_ticksUsed, f_printedCount, a_tokenKind, a_tokenValue, a_planKind, a_planValue, a_planPlace, a_argumentCount, a_openLoop, a_codeKind, a_codeValue, a_codePlace, a_labelTarget, a_functionStart, a_functionParameters, a_register, a_frame, a_returnTo, a_stack, a_element, a_outputValue)) : wpX_parseOperand post (f_tokenCount, f_planCount, f_next, f_wrongToken, f_looseJump, f_latestPlace, f_openLoopCount, f_codeCount, f_labelCount, f_functionCount, f_registerCount, f_activeCalls, f_stackCount, f_nextCode, f_running, f_ending, f_endingPlace, f_resultValue, f_ticksUsed, f_printedCount, a_tokenKind, a_tokenValue, a_planKind, a_planValue, a_planPlace, a_argumentCount, a_openLoop, a_codeKind, a_codeValue, a_codePlace, a_labelTarget, a_functionStart, a_functionParameters, a_register, a_frame, a_returnTo, a_stack, a_element, a_outputValue) := by
  unfold wpX_parseOperand
  refine xm_valueAt0 hx hp fun v _ => ?_
  refine xm_kindAt hx ht hn hp ?_
  subst hx
  exact nm_r (nI_1 _) (br_f h0 (br_f h1 (br_f h2 (br_f h3 (br_f h4 (br_f h28 (br_f h32 (br_f h33 H))))))))
theorem gm_tk_r {K : Nat → Int32} {n p : Nat} (hk : ∀ q, q < n → ∃ k, k ≤ 41 ∧ K q = nI k) : gm_tk K n p = -1 ∨ ∃ k, k ≤ 41 ∧ gm_tk K n p = nI k := by
  by_cases h : p < n
  · rw [gm_tk_K h]; exact Or.inr (hk p h)
  · exact Or.inl (if_neg h)
theorem gm_tk_200 {t : Int32} (h : ∃ k, k ≤ 41 ∧ t = nI k) : (200 : Int32) + t = nI (200 + t.toNatClampNeg) := by
  obtain ⟨k, hk, rfl⟩ := h
  rw [nI_clamp (by omega)]
  exact nI_add 200 k
theorem xm_tight {post : Int32 → Prop} (k : Nat) (hk : k ≤ 41) (H : post (nI (gm_str (nI k)))) : wpX_tightness post (nI k) := by
  refine pk_lt k 13 (fun h => ?_) (fun h => pk_lt 31 k (fun h' => ?_) (fun h' => ?_))
  · rw [show gm_str (nI k) = 0 from by unfold gm_str; rw [nI_clamp (by omega), if_pos h]] at H
    exact H
  · rw [show gm_str (nI k) = 0 from by unfold gm_str; rw [nI_clamp (by omega), if_neg (by omega), if_pos h']] at H
    exact H
  · exact pk_eq k 13 (fun e => by subst e; rw [show gm_str (nI 13) = 1 from by decide] at H; exact H) (fun n13 => pk_eq k 14 (fun e => by subst e; rw [show gm_str (nI 14) = 2 from by decide] at H; exact H) (fun n14 => pk_eq k 15 (fun e => by subst e; rw [show gm_str (nI 15) = 3 from by decide] at H; exact H) (fun n15 => pk_eq k 16 (fun e => by subst e; rw [show gm_str (nI 16) = 4 from by decide] at H; exact H) (fun n16 => pk_eq k 17 (fun e => by subst e; rw [show gm_str (nI 17) = 5 from by decide] at H; exact H) (fun n17 => pk_eq k 18 (fun e => by subst e; rw [show gm_str (nI 18) = 6 from by decide] at H; exact H) (fun n18 => pk_eq k 19 (fun e => by subst e; rw [show gm_str (nI 19) = 6 from by decide] at H; exact H) (fun n19 => pk_eq k 20 (fun e => by subst e; rw [show gm_str (nI 20) = 7 from by decide] at H; exact H) (fun n20 => pk_eq k 21 (fun e => by subst e; rw [show gm_str (nI 21) = 7 from by decide] at H; exact H) (fun n21 => pk_eq k 22 (fun e => by subst e; rw [show gm_str (nI 22) = 7 from by decide] at H; exact H) (fun n22 => pk_eq k 23 (fun e => by subst e; rw [show gm_str (nI 23) = 7 from by decide] at H; exact H) (fun n23 => pk_eq k 24 (fun e => by subst e; rw [show gm_str (nI 24) = 8 from by decide] at H; exact H) (fun n24 => pk_eq k 25 (fun e => by subst e; rw [show gm_str (nI 25) = 8 from by decide] at H; exact H) (fun n25 => pk_eq k 26 (fun e => by subst e; rw [show gm_str (nI 26) = 8 from by decide] at H; exact H) (fun n26 => pk_eq k 27 (fun e => by subst e; rw [show gm_str (nI 27) = 9 from by decide] at H; exact H) (fun n27 => pk_eq k 28 (fun e => by subst e; rw [show gm_str (nI 28) = 9 from by decide] at H; exact H) (fun n28 => pk_eq k 29 (fun e => by subst e; rw [show gm_str (nI 29) = 10 from by decide] at H; exact H) (fun n29 => pk_eq k 30 (fun e => by subst e; rw [show gm_str (nI 30) = 10 from by decide] at H; exact H) (fun n30 => pk_eq k 31 (fun e => by subst e; rw [show gm_str (nI 31) = 10 from by decide] at H; exact H) (fun n31 => by omega)))))))))))))))))))
theorem xm_tight' {post : Int32 → Prop} {t : Int32} (h : t = -1 ∨ ∃ k, k ≤ 41 ∧ t = nI k) (H : post (nI (gm_str t))) : wpX_tightness post t := by
  rcases h with rfl | ⟨k, hk, rfl⟩
  · exact br_t (by decide) H
  · exact xm_tight k hk H
theorem xm_op0 {post : SX → Prop} {f_tokenCount f_planCount f_next f_wrongToken f_looseJump f_latestPlace f_openLoopCount f_codeCount f_labelCount f_functionCount f_registerCount f_activeCalls f_stackCount f_nextCode f_running f_ending f_endingPlace f_resultValue f_ticksUsed f_printedCount : Int32} {a_tokenKind a_tokenValue a_planKind a_planValue a_planPlace a_argumentCount a_openLoop a_codeKind a_codeValue a_codePlace a_labelTarget a_functionStart a_functionParameters a_register a_frame a_returnTo a_stack a_element a_outputValue : Nat → Int32} {n p w : Nat} {x : Int32} (hx : f_next = nI p) (ht : f_tokenCount = nI n) (hn : n ≤ 120) (hp : p ≤ 120) (hw : x = nI w) (hw' : w ≤ 11) (hk : ∀ q, q < n → ∃ k, k ≤ 41 ∧ a_tokenKind q = nI k) (h : gm_str (gm_tk a_tokenKind n p) < w)
    (H : post (f_tokenCount, f_planCount, f_next, f_wrongToken, f_looseJump, f_latestPlace, f_openLoopCount, f_codeCount, f_labelCount, f_functionCount, f_registerCount, f_activeCalls, f_stackCount, f_nextCode, f_running, f_ending, f_endingPlace, f_resultValue, f_ticksUsed, f_printedCount, a_tokenKind, a_tokenValue, a_planKind, a_planValue, a_planPlace, a_argumentCount, a_openLoop, a_codeKind, a_codeValue, a_codePlace, a_labelTarget, a_functionStart, a_functionParameters, a_register, a_frame, a_returnTo, a_stack, a_element, a_outputValue)) : wpX_parseOperators post (f_tokenCount, f_planCount, f_next, f_wrongToken, f_looseJump, f_latestPlace, f_openLoopCount, f_codeCount, f_labelCount, f_functionCount, f_registerCount, f_activeCalls, f_stackCount, f_nextCode, f_running, f_ending, f_endingPlace, f_resultValue, f_ticksUsed, f_printedCount, a_tokenKind, a_tokenValue, a_planKind, a_planValue, a_planPlace, a_argumentCount, a_openLoop, a_codeKind, a_codeValue, a_codePlace, a_labelTarget, a_functionStart, a_functionParameters, a_register, a_frame, a_returnTo, a_stack, a_element, a_outputValue) x := by
  unfold wpX_parseOperators
  refine xm_kindAt hx ht hn hp ?_
  refine xm_tight' (gm_tk_r hk) ?_
  subst hw
  refine br_f (nI_ge h (by omega)) H
theorem xm_op1 {post : SX → Prop} {f_tokenCount f_planCount f_next f_wrongToken f_looseJump f_latestPlace f_openLoopCount f_codeCount f_labelCount f_functionCount f_registerCount f_activeCalls f_stackCount f_nextCode f_running f_ending f_endingPlace f_resultValue f_ticksUsed f_printedCount : Int32} {a_tokenKind a_tokenValue a_planKind a_planValue a_planPlace a_argumentCount a_openLoop a_codeKind a_codeValue a_codePlace a_labelTarget a_functionStart a_functionParameters a_register a_frame a_returnTo a_stack a_element a_outputValue : Nat → Int32} {n p : Nat} {P : List gm_M} (hx : f_next = nI p) (ht : f_tokenCount = nI n) (hn : n ≤ 120) (hp : p ≤ 120) (hc : f_planCount = nI P.length) (hP : xp_Pd a_planKind a_planValue a_planPlace P) {w : Nat} {x : Int32} (hw : x = nI w) (hw' : w ≤ 11) (hk : ∀ q, q < n → ∃ k, k ≤ 41 ∧ a_tokenKind q = nI k) (h : ¬ gm_str (gm_tk a_tokenKind n p) < w) (hw1 : 1 ≤ w) (h13 : ¬ gm_tk a_tokenKind n p = 13) (h14 : ¬ gm_tk a_tokenKind n p = 14) (hl : P.length + 3 < 960)
    (H : ∀ pk pv pp, xp_Pd pk pv pp ((106, nI (gm_str (gm_tk a_tokenKind n p) + 1), 0) :: (200 + (gm_tk a_tokenKind n p).toNatClampNeg, 0, p) :: (107, nI w, 0) :: P) → post (f_tokenCount, nI ((106, nI (gm_str (gm_tk a_tokenKind n p) + 1), 0) :: (200 + (gm_tk a_tokenKind n p).toNatClampNeg, 0, p) :: (107, nI w, 0) :: P).length, nI (p + 1), f_wrongToken, f_looseJump, f_latestPlace, f_openLoopCount, f_codeCount, f_labelCount, f_functionCount, f_registerCount, f_activeCalls, f_stackCount, f_nextCode, f_running, f_ending, f_endingPlace, f_resultValue, f_ticksUsed, f_printedCount, a_tokenKind, a_tokenValue, pk, pv, pp, a_argumentCount, a_openLoop, a_codeKind, a_codeValue, a_codePlace, a_labelTarget, a_functionStart, a_functionParameters, a_register, a_frame, a_returnTo, a_stack, a_element, a_outputValue)) : wpX_parseOperators post (f_tokenCount, f_planCount, f_next, f_wrongToken, f_looseJump, f_latestPlace, f_openLoopCount, f_codeCount, f_labelCount, f_functionCount, f_registerCount, f_activeCalls, f_stackCount, f_nextCode, f_running, f_ending, f_endingPlace, f_resultValue, f_ticksUsed, f_printedCount, a_tokenKind, a_tokenValue, a_planKind, a_planValue, a_planPlace, a_argumentCount, a_openLoop, a_codeKind, a_codeValue, a_codePlace, a_labelTarget, a_functionStart, a_functionParameters, a_register, a_frame, a_returnTo, a_stack, a_element, a_outputValue) x := by
  unfold wpX_parseOperators
  refine xm_kindAt hx ht hn hp ?_
  have hr := gm_tk_r (p := p) hk
  refine xm_tight' hr ?_
  have hs := gm_str_le (gm_tk a_tokenKind n p)
  subst hw hx
  refine br_t (nI_le (by omega) (by omega)) (nm_r (nI_1 _) ?_)
  refine xm_plan 107 (nI w) 0 hc (by omega) hP fun pk pv pp hP => ?_
  refine br_f h14 (br_f h13 ?_)
  have hr' : ∃ k, k ≤ 41 ∧ gm_tk a_tokenKind n p = nI k := by
    rcases hr with hr | hr
    · rw [hr, gm_str0] at h; omega
    · exact hr
  rw [gm_tk_200 hr']
  refine xm_plan _ 0 p rfl (by simp only [List.length_cons]; omega) hP fun pk pv pp hP => ?_
  refine xm_plan 106 (nI (gm_str (gm_tk a_tokenKind n p)) + 1) 0 rfl (by simp only [List.length_cons]; omega) hP fun pk pv pp hP => ?_
  rw [nI_1] at hP
  exact H _ _ _ hP
theorem xm_op2 {post : SX → Prop} {f_tokenCount f_planCount f_next f_wrongToken f_looseJump f_latestPlace f_openLoopCount f_codeCount f_labelCount f_functionCount f_registerCount f_activeCalls f_stackCount f_nextCode f_running f_ending f_endingPlace f_resultValue f_ticksUsed f_printedCount : Int32} {a_tokenKind a_tokenValue a_planKind a_planValue a_planPlace a_argumentCount a_openLoop a_codeKind a_codeValue a_codePlace a_labelTarget a_functionStart a_functionParameters a_register a_frame a_returnTo a_stack a_element a_outputValue : Nat → Int32} {n p : Nat} {P : List gm_M} (hx : f_next = nI p) (ht : f_tokenCount = nI n) (hn : n ≤ 120) (hp : p ≤ 120) (hc : f_planCount = nI P.length) (hP : xp_Pd a_planKind a_planValue a_planPlace P) {w d e cc lc : Nat} {x : Int32} (hw : x = nI w) (hw' : w ≤ e) (h : gm_tk a_tokenKind n p = nI d) (hd : d = 13 ∧ e = 1 ∨ d = 14 ∧ e = 2) (hcc : f_codeCount = nI cc) (hcl : cc + 1 < 360) (hlb : f_labelCount = nI lc) (hl : P.length + 4 < 960)
    (H : ∀ pk pv pp, xp_Pd pk pv pp ((106, nI (e + 1), 0) :: (257, 0, p) :: (111, nI lc, 0) :: (107, nI w, 0) :: P) → post (f_tokenCount, nI ((106, nI (e + 1), 0) :: (257, 0, p) :: (111, nI lc, 0) :: (107, nI w, 0) :: P).length, nI (p + 1), f_wrongToken, f_looseJump, f_latestPlace, f_openLoopCount, nI (cc + 2), nI (lc + 2), f_functionCount, f_registerCount, f_activeCalls, f_stackCount, f_nextCode, f_running, f_ending, f_endingPlace, f_resultValue, f_ticksUsed, f_printedCount, a_tokenKind, a_tokenValue, pk, pv, pp, a_argumentCount, a_openLoop, upd (upd a_codeKind cc 57) (cc + 1) (nI (62 - e)), upd (upd a_codeValue cc 0) (cc + 1) (nI lc), upd (upd a_codePlace cc (nI p)) (cc + 1) (nI p), a_labelTarget, a_functionStart, a_functionParameters, a_register, a_frame, a_returnTo, a_stack, a_element, a_outputValue)) : wpX_parseOperators post (f_tokenCount, f_planCount, f_next, f_wrongToken, f_looseJump, f_latestPlace, f_openLoopCount, f_codeCount, f_labelCount, f_functionCount, f_registerCount, f_activeCalls, f_stackCount, f_nextCode, f_running, f_ending, f_endingPlace, f_resultValue, f_ticksUsed, f_printedCount, a_tokenKind, a_tokenValue, a_planKind, a_planValue, a_planPlace, a_argumentCount, a_openLoop, a_codeKind, a_codeValue, a_codePlace, a_labelTarget, a_functionStart, a_functionParameters, a_register, a_frame, a_returnTo, a_stack, a_element, a_outputValue) x := by
  unfold wpX_parseOperators
  refine xm_kindAt hx ht hn hp ?_
  rw [h]
  subst hw
  rcases hd with ⟨rfl, rfl⟩ | ⟨rfl, rfl⟩
  · refine xm_tight 13 (by decide) ?_
    subst hx
    refine br_t (nI_le (b := 1) (by omega) (by decide)) (nm_r (nI_1 _) ?_)
    refine xm_plan 107 (nI w) 0 hc (by omega) hP fun pk pv pp hP => ?_
    refine br_f (by decide) (br_t (by decide) ?_)
    refine xm_newLabels hlb ?_
    refine xm_emit hcc (by omega) ?_
    refine br_f (by decide) ?_
    refine xm_emit rfl hcl ?_
    refine xm_plan 111 (nI lc) 0 rfl (by simp only [List.length_cons]; omega) hP fun pk pv pp hP => ?_
    refine xm_plan 257 0 p rfl (by simp only [List.length_cons]; omega) hP fun pk pv pp hP => ?_
    refine xm_plan 106 2 0 rfl (by simp only [List.length_cons]; omega) hP fun pk pv pp hP => ?_
    exact H _ _ _ hP
  · refine xm_tight 14 (by decide) ?_
    subst hx
    refine br_t (nI_le (b := 2) (by omega) (by decide)) (nm_r (nI_1 _) ?_)
    refine xm_plan 107 (nI w) 0 hc (by omega) hP fun pk pv pp hP => ?_
    refine br_t (by decide) ?_
    refine xm_newLabels hlb ?_
    refine xm_emit hcc (by omega) ?_
    refine br_t (by decide) ?_
    refine xm_emit rfl hcl ?_
    refine xm_plan 111 (nI lc) 0 rfl (by simp only [List.length_cons]; omega) hP fun pk pv pp hP => ?_
    refine xm_plan 257 0 p rfl (by simp only [List.length_cons]; omega) hP fun pk pv pp hP => ?_
    refine xm_plan 106 3 0 rfl (by simp only [List.length_cons]; omega) hP fun pk pv pp hP => ?_
    exact H _ _ _ hP
theorem xm_els1 {post : SX → Prop} {f_tokenCount f_planCount f_next f_wrongToken f_looseJump f_latestPlace f_openLoopCount f_codeCount f_labelCount f_functionCount f_registerCount f_activeCalls f_stackCount f_nextCode f_running f_ending f_endingPlace f_resultValue f_ticksUsed f_printedCount : Int32} {a_tokenKind a_tokenValue a_planKind a_planValue a_planPlace a_argumentCount a_openLoop a_codeKind a_codeValue a_codePlace a_labelTarget a_functionStart a_functionParameters a_register a_frame a_returnTo a_stack a_element a_outputValue : Nat → Int32} {n p : Nat} {P : List gm_M} (hx : f_next = nI p) (ht : f_tokenCount = nI n) (hn : n ≤ 120) (hp : p ≤ 120) (hc : f_planCount = nI P.length) (hP : xp_Pd a_planKind a_planValue a_planPlace P) {l cc : Nat} {x : Int32} (hy : x = nI l) (hll : l < 240) (h : gm_tk a_tokenKind n p = 35) (hcc : f_codeCount = nI cc) (hcl : cc < 360) (hl : P.length + 2 < 960)
    (H : ∀ pk pv pp, xp_Pd pk pv pp ((103, 0, 0) :: (111, nI (l + 1), 0) :: P) → post (f_tokenCount, nI ((103, 0, 0) :: (111, nI (l + 1), 0) :: P).length, nI (p + 1), f_wrongToken, f_looseJump, f_latestPlace, f_openLoopCount, nI (cc + 1), f_labelCount, f_functionCount, f_registerCount, f_activeCalls, f_stackCount, f_nextCode, f_running, f_ending, f_endingPlace, f_resultValue, f_ticksUsed, f_printedCount, a_tokenKind, a_tokenValue, pk, pv, pp, a_argumentCount, a_openLoop, upd a_codeKind cc 58, upd a_codeValue cc (nI (l + 1)), upd a_codePlace cc 0, upd a_labelTarget l (nI (cc + 1)), a_functionStart, a_functionParameters, a_register, a_frame, a_returnTo, a_stack, a_element, a_outputValue)) : wpX_parseElsePart post (f_tokenCount, f_planCount, f_next, f_wrongToken, f_looseJump, f_latestPlace, f_openLoopCount, f_codeCount, f_labelCount, f_functionCount, f_registerCount, f_activeCalls, f_stackCount, f_nextCode, f_running, f_ending, f_endingPlace, f_resultValue, f_ticksUsed, f_printedCount, a_tokenKind, a_tokenValue, a_planKind, a_planValue, a_planPlace, a_argumentCount, a_openLoop, a_codeKind, a_codeValue, a_codePlace, a_labelTarget, a_functionStart, a_functionParameters, a_register, a_frame, a_returnTo, a_stack, a_element, a_outputValue) x := by
  unfold wpX_parseElsePart
  refine xm_kindAt hx ht hn hp ?_
  rw [h]
  subst hx hy
  refine br_t rfl (nm_r (nI_1 _) (nm_r (nI_1 _) ?_))
  refine xm_emit hcc hcl ?_
  refine xm_putLabel rfl hll ?_
  refine xm_plan 111 (nI (l + 1)) 0 hc (by omega) hP fun pk pv pp hP => ?_
  refine xm_plan 103 0 0 rfl (by simp only [List.length_cons]; omega) hP fun pk pv pp hP => ?_
  exact H _ _ _ hP
theorem xm_els0 {post : SX → Prop} {f_tokenCount f_planCount f_next f_wrongToken f_looseJump f_latestPlace f_openLoopCount f_codeCount f_labelCount f_functionCount f_registerCount f_activeCalls f_stackCount f_nextCode f_running f_ending f_endingPlace f_resultValue f_ticksUsed f_printedCount : Int32} {a_tokenKind a_tokenValue a_planKind a_planValue a_planPlace a_argumentCount a_openLoop a_codeKind a_codeValue a_codePlace a_labelTarget a_functionStart a_functionParameters a_register a_frame a_returnTo a_stack a_element a_outputValue : Nat → Int32} {n p l : Nat} {x : Int32} (hx : f_next = nI p) (ht : f_tokenCount = nI n) (hn : n ≤ 120) (hp : p ≤ 120) (hy : x = nI l) (hll : l < 240) (h : ¬ gm_tk a_tokenKind n p = 35)
    (H : post (f_tokenCount, f_planCount, f_next, f_wrongToken, f_looseJump, f_latestPlace, f_openLoopCount, f_codeCount, f_labelCount, f_functionCount, f_registerCount, f_activeCalls, f_stackCount, f_nextCode, f_running, f_ending, f_endingPlace, f_resultValue, f_ticksUsed, f_printedCount, a_tokenKind, a_tokenValue, a_planKind, a_planValue, a_planPlace, a_argumentCount, a_openLoop, a_codeKind, a_codeValue, a_codePlace, upd a_labelTarget l f_codeCount, a_functionStart, a_functionParameters, a_register, a_frame, a_returnTo, a_stack, a_element, a_outputValue)) : wpX_parseElsePart post (f_tokenCount, f_planCount, f_next, f_wrongToken, f_looseJump, f_latestPlace, f_openLoopCount, f_codeCount, f_labelCount, f_functionCount, f_registerCount, f_activeCalls, f_stackCount, f_nextCode, f_running, f_ending, f_endingPlace, f_resultValue, f_ticksUsed, f_printedCount, a_tokenKind, a_tokenValue, a_planKind, a_planValue, a_planPlace, a_argumentCount, a_openLoop, a_codeKind, a_codeValue, a_codePlace, a_labelTarget, a_functionStart, a_functionParameters, a_register, a_frame, a_returnTo, a_stack, a_element, a_outputValue) x := by
  unfold wpX_parseElsePart
  refine xm_kindAt hx ht hn hp ?_
  exact br_f h (xm_putLabel hy hll H)
theorem xm_endLoop {post : SX → Prop} {f_tokenCount f_planCount f_next f_wrongToken f_looseJump f_latestPlace f_openLoopCount f_codeCount f_labelCount f_functionCount f_registerCount f_activeCalls f_stackCount f_nextCode f_running f_ending f_endingPlace f_resultValue f_ticksUsed f_printedCount : Int32} {a_tokenKind a_tokenValue a_planKind a_planValue a_planPlace a_argumentCount a_openLoop a_codeKind a_codeValue a_codePlace a_labelTarget a_functionStart a_functionParameters a_register a_frame a_returnTo a_stack a_element a_outputValue : Nat → Int32} {a b cc : Nat} {ol : List Nat} {x : Int32} (hy : x = nI a) (hll : a + 1 < 240) (hcc : f_codeCount = nI cc) (hcl : cc < 360) (ho : f_openLoopCount = nI (b :: ol).length) (hol : ol.length < 120)
    (H : post (f_tokenCount, f_planCount, f_next, f_wrongToken, f_looseJump, f_latestPlace, nI ol.length, nI (cc + 1), f_labelCount, f_functionCount, f_registerCount, f_activeCalls, f_stackCount, f_nextCode, f_running, f_ending, f_endingPlace, f_resultValue, f_ticksUsed, f_printedCount, a_tokenKind, a_tokenValue, a_planKind, a_planValue, a_planPlace, a_argumentCount, a_openLoop, upd a_codeKind cc 58, upd a_codeValue cc (nI a), upd a_codePlace cc 0, upd a_labelTarget (a + 1) (nI (cc + 1)), a_functionStart, a_functionParameters, a_register, a_frame, a_returnTo, a_stack, a_element, a_outputValue)) : wpX_endLoop post (f_tokenCount, f_planCount, f_next, f_wrongToken, f_looseJump, f_latestPlace, f_openLoopCount, f_codeCount, f_labelCount, f_functionCount, f_registerCount, f_activeCalls, f_stackCount, f_nextCode, f_running, f_ending, f_endingPlace, f_resultValue, f_ticksUsed, f_printedCount, a_tokenKind, a_tokenValue, a_planKind, a_planValue, a_planPlace, a_argumentCount, a_openLoop, a_codeKind, a_codeValue, a_codePlace, a_labelTarget, a_functionStart, a_functionParameters, a_register, a_frame, a_returnTo, a_stack, a_element, a_outputValue) x := by
  subst ho hy
  refine br_f (nI_nle (by simp) (by simp; omega)) (nm_r (nI_pred _) ?_)
  refine xm_emit hcc hcl ?_
  exact xm_putLabel (nI_1 a) hll H
theorem xm_planArgument {post : SX → Prop} {f_tokenCount f_planCount f_next f_wrongToken f_looseJump f_latestPlace f_openLoopCount f_codeCount f_labelCount f_functionCount f_registerCount f_activeCalls f_stackCount f_nextCode f_running f_ending f_endingPlace f_resultValue f_ticksUsed f_printedCount : Int32} {a_tokenKind a_tokenValue a_planKind a_planValue a_planPlace a_argumentCount a_openLoop a_codeKind a_codeValue a_codePlace a_labelTarget a_functionStart a_functionParameters a_register a_frame a_returnTo a_stack a_element a_outputValue : Nat → Int32} {q : Nat} {P : List gm_M} (hc : f_planCount = nI P.length) (hP : xp_Pd a_planKind a_planValue a_planPlace P) {x : Int32} (hx : x = nI q) (hq : q < 120) (hl : P.length + 2 < 960)
    (H : ∀ pk pv pp, xp_Pd pk pv pp ((106, 1, 0) :: (110, 0, q) :: P) → post (f_tokenCount, nI ((106, 1, 0) :: (110, 0, q) :: P).length, f_next, f_wrongToken, f_looseJump, f_latestPlace, f_openLoopCount, f_codeCount, f_labelCount, f_functionCount, f_registerCount, f_activeCalls, f_stackCount, f_nextCode, f_running, f_ending, f_endingPlace, f_resultValue, f_ticksUsed, f_printedCount, a_tokenKind, a_tokenValue, pk, pv, pp, upd a_argumentCount q (a_argumentCount q + 1), a_openLoop, a_codeKind, a_codeValue, a_codePlace, a_labelTarget, a_functionStart, a_functionParameters, a_register, a_frame, a_returnTo, a_stack, a_element, a_outputValue)) : wpX_planArgument post (f_tokenCount, f_planCount, f_next, f_wrongToken, f_looseJump, f_latestPlace, f_openLoopCount, f_codeCount, f_labelCount, f_functionCount, f_registerCount, f_activeCalls, f_stackCount, f_nextCode, f_running, f_ending, f_endingPlace, f_resultValue, f_ticksUsed, f_printedCount, a_tokenKind, a_tokenValue, a_planKind, a_planValue, a_planPlace, a_argumentCount, a_openLoop, a_codeKind, a_codeValue, a_codePlace, a_labelTarget, a_functionStart, a_functionParameters, a_register, a_frame, a_returnTo, a_stack, a_element, a_outputValue) x := by
  subst hx
  have h3 : (nI q).toNatClampNeg = q := nI_clamp (by omega)
  have h2 : vp_in (nI q) 120 := vp_in_nI hq (by decide)
  refine br_f (nI_pos (by omega)) (br_f (nI_ge (b := 120) hq (by decide)) ⟨h2, h2, nm_r (by rw [h3]) ?_⟩)
  refine xm_plan 110 0 q hc (by omega) hP fun pk pv pp hP => ?_
  refine xm_plan 106 1 0 rfl (by simp only [List.length_cons]; omega) hP fun pk pv pp hP => ?_
  exact H _ _ _ hP
theorem xm_args {post : SX → Prop} {f_tokenCount f_planCount f_next f_wrongToken f_looseJump f_latestPlace f_openLoopCount f_codeCount f_labelCount f_functionCount f_registerCount f_activeCalls f_stackCount f_nextCode f_running f_ending f_endingPlace f_resultValue f_ticksUsed f_printedCount : Int32} {a_tokenKind a_tokenValue a_planKind a_planValue a_planPlace a_argumentCount a_openLoop a_codeKind a_codeValue a_codePlace a_labelTarget a_functionStart a_functionParameters a_register a_frame a_returnTo a_stack a_element a_outputValue : Nat → Int32} {n p : Nat} {P : List gm_M} (hx : f_next = nI p) (ht : f_tokenCount = nI n) (hn : n ≤ 120) (hp : p ≤ 120) (hc : f_planCount = nI P.length) (hP : xp_Pd a_planKind a_planValue a_planPlace P) {q : Nat} {x : Int32} (hq' : x = nI q) (hq : q < 120) (hl : P.length + 2 < 960)
    (H1 : gm_tk a_tokenKind n p = 5 → post (f_tokenCount, f_planCount, nI (p + 1), f_wrongToken, f_looseJump, f_latestPlace, f_openLoopCount, f_codeCount, f_labelCount, f_functionCount, f_registerCount, f_activeCalls, f_stackCount, f_nextCode, f_running, f_ending, f_endingPlace, f_resultValue, f_ticksUsed, f_printedCount, a_tokenKind, a_tokenValue, a_planKind, a_planValue, a_planPlace, upd a_argumentCount q 0, a_openLoop, a_codeKind, a_codeValue, a_codePlace, a_labelTarget, a_functionStart, a_functionParameters, a_register, a_frame, a_returnTo, a_stack, a_element, a_outputValue))
    (H2 : ¬ gm_tk a_tokenKind n p = 5 → ∀ pk pv pp, xp_Pd pk pv pp ((106, 1, 0) :: (110, 0, q) :: P) → post (f_tokenCount, nI ((106, 1, 0) :: (110, 0, q) :: P).length, f_next, f_wrongToken, f_looseJump, f_latestPlace, f_openLoopCount, f_codeCount, f_labelCount, f_functionCount, f_registerCount, f_activeCalls, f_stackCount, f_nextCode, f_running, f_ending, f_endingPlace, f_resultValue, f_ticksUsed, f_printedCount, a_tokenKind, a_tokenValue, pk, pv, pp, upd (upd a_argumentCount q 0) q (0 + 1), a_openLoop, a_codeKind, a_codeValue, a_codePlace, a_labelTarget, a_functionStart, a_functionParameters, a_register, a_frame, a_returnTo, a_stack, a_element, a_outputValue)) : wpX_parseArguments post (f_tokenCount, f_planCount, f_next, f_wrongToken, f_looseJump, f_latestPlace, f_openLoopCount, f_codeCount, f_labelCount, f_functionCount, f_registerCount, f_activeCalls, f_stackCount, f_nextCode, f_running, f_ending, f_endingPlace, f_resultValue, f_ticksUsed, f_printedCount, a_tokenKind, a_tokenValue, a_planKind, a_planValue, a_planPlace, a_argumentCount, a_openLoop, a_codeKind, a_codeValue, a_codePlace, a_labelTarget, a_functionStart, a_functionParameters, a_register, a_frame, a_returnTo, a_stack, a_element, a_outputValue) x := by
  subst hq'
  have h3 : (nI q).toNatClampNeg = q := nI_clamp (by omega)
  refine br_f (nI_pos (by omega)) (br_f (nI_ge (b := 120) hq (by decide)) ⟨vp_in_nI hq (by decide), nm_r (by rw [h3]) ?_⟩)
  refine xm_kindAt hx ht hn hp ?_
  refine (br_c (fun h => ?_) (fun h => ?_))
  · subst hx
    exact nm_r (nI_1 _) (H1 h)
  · refine xm_planArgument hc hP rfl hq hl ?_
    rw [pk_us]
    exact H2 h
theorem xm_margs {post : SX → Prop} {f_tokenCount f_planCount f_next f_wrongToken f_looseJump f_latestPlace f_openLoopCount f_codeCount f_labelCount f_functionCount f_registerCount f_activeCalls f_stackCount f_nextCode f_running f_ending f_endingPlace f_resultValue f_ticksUsed f_printedCount : Int32} {a_tokenKind a_tokenValue a_planKind a_planValue a_planPlace a_argumentCount a_openLoop a_codeKind a_codeValue a_codePlace a_labelTarget a_functionStart a_functionParameters a_register a_frame a_returnTo a_stack a_element a_outputValue : Nat → Int32} {n p : Nat} {P : List gm_M} (hx : f_next = nI p) (ht : f_tokenCount = nI n) (hn : n ≤ 120) (hp : p ≤ 120) (hc : f_planCount = nI P.length) (hP : xp_Pd a_planKind a_planValue a_planPlace P) {q : Nat} {x : Int32} (hq' : x = nI q) (hq : q < 120) (hl : P.length + 2 < 960)
    (H1 : gm_tk a_tokenKind n p = 11 → ∀ pk pv pp, xp_Pd pk pv pp ((106, 1, 0) :: (110, 0, q) :: P) → post (f_tokenCount, nI ((106, 1, 0) :: (110, 0, q) :: P).length, nI (p + 1), f_wrongToken, f_looseJump, f_latestPlace, f_openLoopCount, f_codeCount, f_labelCount, f_functionCount, f_registerCount, f_activeCalls, f_stackCount, f_nextCode, f_running, f_ending, f_endingPlace, f_resultValue, f_ticksUsed, f_printedCount, a_tokenKind, a_tokenValue, pk, pv, pp, upd a_argumentCount q (a_argumentCount q + 1), a_openLoop, a_codeKind, a_codeValue, a_codePlace, a_labelTarget, a_functionStart, a_functionParameters, a_register, a_frame, a_returnTo, a_stack, a_element, a_outputValue))
    (H2 : gm_tk a_tokenKind n p = 5 → post (f_tokenCount, f_planCount, nI (p + 1), f_wrongToken, f_looseJump, f_latestPlace, f_openLoopCount, f_codeCount, f_labelCount, f_functionCount, f_registerCount, f_activeCalls, f_stackCount, f_nextCode, f_running, f_ending, f_endingPlace, f_resultValue, f_ticksUsed, f_printedCount, a_tokenKind, a_tokenValue, a_planKind, a_planValue, a_planPlace, a_argumentCount, a_openLoop, a_codeKind, a_codeValue, a_codePlace, a_labelTarget, a_functionStart, a_functionParameters, a_register, a_frame, a_returnTo, a_stack, a_element, a_outputValue)) (H3 : ¬ gm_tk a_tokenKind n p = 11 → ¬ gm_tk a_tokenKind n p = 5 → post (f_tokenCount, f_planCount, f_next, nI p, f_looseJump, f_latestPlace, f_openLoopCount, f_codeCount, f_labelCount, f_functionCount, f_registerCount, f_activeCalls, f_stackCount, f_nextCode, f_running, f_ending, f_endingPlace, f_resultValue, f_ticksUsed, f_printedCount, a_tokenKind, a_tokenValue, a_planKind, a_planValue, a_planPlace, a_argumentCount, a_openLoop, a_codeKind, a_codeValue, a_codePlace, a_labelTarget, a_functionStart, a_functionParameters, a_register, a_frame, a_returnTo, a_stack, a_element, a_outputValue)) : wpX_parseMoreArguments post (f_tokenCount, f_planCount, f_next, f_wrongToken, f_looseJump, f_latestPlace, f_openLoopCount, f_codeCount, f_labelCount, f_functionCount, f_registerCount, f_activeCalls, f_stackCount, f_nextCode, f_running, f_ending, f_endingPlace, f_resultValue, f_ticksUsed, f_printedCount, a_tokenKind, a_tokenValue, a_planKind, a_planValue, a_planPlace, a_argumentCount, a_openLoop, a_codeKind, a_codeValue, a_codePlace, a_labelTarget, a_functionStart, a_functionParameters, a_register, a_frame, a_returnTo, a_stack, a_element, a_outputValue) x := by
  unfold wpX_parseMoreArguments
  refine xm_kindAt hx ht hn hp ?_
  refine (br_c (fun h => ?_) (fun h => ?_))
  · refine nm_r ((congrArg (· + 1) hx).trans (nI_1 _)) ?_
    exact xm_planArgument hc hP hq' hq hl (H1 h)
  · exact xm_take 5 hx ht hn hp H2 (H3 h)
theorem xm_funs {post : SX → Prop} {f_tokenCount f_planCount f_next f_wrongToken f_looseJump f_latestPlace f_openLoopCount f_codeCount f_labelCount f_functionCount f_registerCount f_activeCalls f_stackCount f_nextCode f_running f_ending f_endingPlace f_resultValue f_ticksUsed f_printedCount : Int32} {a_tokenKind a_tokenValue a_planKind a_planValue a_planPlace a_argumentCount a_openLoop a_codeKind a_codeValue a_codePlace a_labelTarget a_functionStart a_functionParameters a_register a_frame a_returnTo a_stack a_element a_outputValue : Nat → Int32} {n p : Nat} {P : List gm_M} (hx : f_next = nI p) (ht : f_tokenCount = nI n) (hn : n ≤ 120) (hp : p ≤ 120) (hc : f_planCount = nI P.length) (hP : xp_Pd a_planKind a_planValue a_planPlace P) {fc : Nat} (hf : f_functionCount = nI fc) (hf4 : fc ≤ 4) (hl : P.length + 8 < 960)
    (H0 : gm_tk a_tokenKind n p = -1 → 0 < fc → post (f_tokenCount, f_planCount, f_next, f_wrongToken, f_looseJump, f_latestPlace, f_openLoopCount, f_codeCount, f_labelCount, f_functionCount, f_registerCount, f_activeCalls, f_stackCount, f_nextCode, f_running, f_ending, f_endingPlace, f_resultValue, f_ticksUsed, f_printedCount, a_tokenKind, a_tokenValue, a_planKind, a_planValue, a_planPlace, a_argumentCount, a_openLoop, a_codeKind, a_codeValue, a_codePlace, a_labelTarget, a_functionStart, a_functionParameters, a_register, a_frame, a_returnTo, a_stack, a_element, a_outputValue))
    (H4 : ¬ (gm_tk a_tokenKind n p = -1 ∧ 0 < fc) → fc = 4 → post (f_tokenCount, f_planCount, f_next, nI p, f_looseJump, f_latestPlace, f_openLoopCount, f_codeCount, f_labelCount, f_functionCount, f_registerCount, f_activeCalls, f_stackCount, f_nextCode, f_running, f_ending, f_endingPlace, f_resultValue, f_ticksUsed, f_printedCount, a_tokenKind, a_tokenValue, a_planKind, a_planValue, a_planPlace, a_argumentCount, a_openLoop, a_codeKind, a_codeValue, a_codePlace, a_labelTarget, a_functionStart, a_functionParameters, a_register, a_frame, a_returnTo, a_stack, a_element, a_outputValue))
    (H : ¬ (gm_tk a_tokenKind n p = -1 ∧ 0 < fc) → fc < 4 → ∀ pk pv pp, xp_Pd pk pv pp ((41, 0, 0) :: (101, 0, 0) :: (8, 0, 0) :: (102, 0, 0) :: (9, 0, 0) :: (251, 0, 0) :: (239, 0, 0) :: (100, 0, 0) :: P) → post (f_tokenCount, nI ((41, 0, 0) :: (101, 0, 0) :: (8, 0, 0) :: (102, 0, 0) :: (9, 0, 0) :: (251, 0, 0) :: (239, 0, 0) :: (100, 0, 0) :: P).length, f_next, f_wrongToken, f_looseJump, f_latestPlace, f_openLoopCount, f_codeCount, f_labelCount, f_functionCount, f_registerCount, f_activeCalls, f_stackCount, f_nextCode, f_running, f_ending, f_endingPlace, f_resultValue, f_ticksUsed, f_printedCount, a_tokenKind, a_tokenValue, pk, pv, pp, a_argumentCount, a_openLoop, a_codeKind, a_codeValue, a_codePlace, a_labelTarget, a_functionStart, a_functionParameters, a_register, a_frame, a_returnTo, a_stack, a_element, a_outputValue)) : wpX_parseMoreFunctions post (f_tokenCount, f_planCount, f_next, f_wrongToken, f_looseJump, f_latestPlace, f_openLoopCount, f_codeCount, f_labelCount, f_functionCount, f_registerCount, f_activeCalls, f_stackCount, f_nextCode, f_running, f_ending, f_endingPlace, f_resultValue, f_ticksUsed, f_printedCount, a_tokenKind, a_tokenValue, a_planKind, a_planValue, a_planPlace, a_argumentCount, a_openLoop, a_codeKind, a_codeValue, a_codePlace, a_labelTarget, a_functionStart, a_functionParameters, a_register, a_frame, a_returnTo, a_stack, a_element, a_outputValue) := by
  have key : ¬ (gm_tk a_tokenKind n p = -1 ∧ 0 < fc) → wX_parseMoreFunctions_20 post f_tokenCount f_planCount f_next f_wrongToken f_looseJump f_latestPlace f_openLoopCount f_codeCount f_labelCount f_functionCount f_registerCount f_activeCalls f_stackCount f_nextCode f_running f_ending f_endingPlace f_resultValue f_ticksUsed f_printedCount a_tokenKind a_tokenValue a_planKind a_planValue a_planPlace a_argumentCount a_openLoop a_codeKind a_codeValue a_codePlace a_labelTarget a_functionStart a_functionParameters a_register a_frame a_returnTo a_stack a_element a_outputValue := by
    intro h
    subst hf
    refine pk_lt fc 4 (fun h4 => ?_) (fun h4 => ?_)
    · refine xm_plan 100 0 0 hc (by omega) hP fun pk pv pp hP => ?_
      refine xm_plan 239 0 0 rfl (by simp only [List.length_cons]; omega) hP fun pk pv pp hP => ?_
      refine xm_plan 251 0 0 rfl (by simp only [List.length_cons]; omega) hP fun pk pv pp hP => ?_
      refine xm_plan 9 0 0 rfl (by simp only [List.length_cons]; omega) hP fun pk pv pp hP => ?_
      refine xm_plan 102 0 0 rfl (by simp only [List.length_cons]; omega) hP fun pk pv pp hP => ?_
      refine xm_plan 8 0 0 rfl (by simp only [List.length_cons]; omega) hP fun pk pv pp hP => ?_
      refine xm_plan 101 0 0 rfl (by simp only [List.length_cons]; omega) hP fun pk pv pp hP => ?_
      refine xm_plan 41 0 0 rfl (by simp only [List.length_cons]; omega) hP fun pk pv pp hP => ?_
      exact H h h4 _ _ _ hP
    · subst hx
      exact H4 h (by omega)
  subst hf
  refine pk_le fc 0 (fun h => key (by omega)) (fun h => ?_)
  refine xm_kindAt hx ht hn hp ?_
  exact br_c (fun z => H0 z h) (fun z => key (fun y => z y.1))
theorem xm_par {post : SX → Prop} {f_tokenCount f_planCount f_next f_wrongToken f_looseJump f_latestPlace f_openLoopCount f_codeCount f_labelCount f_functionCount f_registerCount f_activeCalls f_stackCount f_nextCode f_running f_ending f_endingPlace f_resultValue f_ticksUsed f_printedCount : Int32} {a_tokenKind a_tokenValue a_planKind a_planValue a_planPlace a_argumentCount a_openLoop a_codeKind a_codeValue a_codePlace a_labelTarget a_functionStart a_functionParameters a_register a_frame a_returnTo a_stack a_element a_outputValue : Nat → Int32} {n p fc : Nat} (hx : f_next = nI p) (ht : f_tokenCount = nI n) (hn : n ≤ 120) (hp : p ≤ 120) (hf : f_functionCount = nI fc) (hf4 : fc < 4)
    (H1 : ∀ v, (p < n → v = a_tokenValue p) → gm_tk a_tokenKind n p = 0 → 0 ≤ v → v ≤ 3 → post (f_tokenCount, f_planCount, nI (p + 1), f_wrongToken, f_looseJump, f_latestPlace, f_openLoopCount, f_codeCount, f_labelCount, nI (fc + 1), f_registerCount, f_activeCalls, f_stackCount, f_nextCode, f_running, f_ending, f_endingPlace, f_resultValue, f_ticksUsed, f_printedCount, a_tokenKind, a_tokenValue, a_planKind, a_planValue, a_planPlace, a_argumentCount, a_openLoop, a_codeKind, a_codeValue, a_codePlace, a_labelTarget, upd a_functionStart fc f_codeCount, upd a_functionParameters fc v, a_register, a_frame, a_returnTo, a_stack, a_element, a_outputValue))
    (H2 : ∀ v, (p < n → v = a_tokenValue p) → ¬ (gm_tk a_tokenKind n p = 0 ∧ 0 ≤ v ∧ v ≤ 3) → post (f_tokenCount, f_planCount, f_next, nI p, f_looseJump, f_latestPlace, f_openLoopCount, f_codeCount, f_labelCount, f_functionCount, f_registerCount, f_activeCalls, f_stackCount, f_nextCode, f_running, f_ending, f_endingPlace, f_resultValue, f_ticksUsed, f_printedCount, a_tokenKind, a_tokenValue, a_planKind, a_planValue, a_planPlace, a_argumentCount, a_openLoop, a_codeKind, a_codeValue, a_codePlace, a_labelTarget, a_functionStart, a_functionParameters, a_register, a_frame, a_returnTo, a_stack, a_element, a_outputValue)) : wpX_parseParameterNumber post (f_tokenCount, f_planCount, f_next, f_wrongToken, f_looseJump, f_latestPlace, f_openLoopCount, f_codeCount, f_labelCount, f_functionCount, f_registerCount, f_activeCalls, f_stackCount, f_nextCode, f_running, f_ending, f_endingPlace, f_resultValue, f_ticksUsed, f_printedCount, a_tokenKind, a_tokenValue, a_planKind, a_planValue, a_planPlace, a_argumentCount, a_openLoop, a_codeKind, a_codeValue, a_codePlace, a_labelTarget, a_functionStart, a_functionParameters, a_register, a_frame, a_returnTo, a_stack, a_element, a_outputValue) := by
  unfold wpX_parseParameterNumber
  refine xm_valueAt0 hx hp fun v hv => ?_
  have hv' : p < n → v = a_tokenValue p := fun h => hv (by omega)
  refine xm_kindAt hx ht hn hp ?_
  subst hx hf
  have h3 : (nI fc).toNatClampNeg = fc := nI_clamp (by omega)
  have h2 : vp_in (nI fc) 4 := vp_in_nI hf4 (by decide)
  refine br_c (fun h => br_c (fun a => ?_) (fun a => br_c (fun b => ?_) (fun b => ?_))) (fun h => ?_)
  · exact H2 v hv' (fun z => Int32.not_lt.mpr z.2.1 a)
  · exact H2 v hv' (fun z => Int32.not_lt.mpr z.2.2 b)
  · refine br_t (nI_lt (b := 4) hf4 (by decide)) ⟨h2, nm_r (by rw [h3]) ⟨h2, nm_r (by rw [h3]) (nm_r (nI_1 _) (nm_r (nI_1 _) ?_))⟩⟩
    exact H1 v hv' h (Int32.not_lt.mp a) (Int32.not_lt.mp b)
  · exact H2 v hv' (fun z => h z.1)
end
section
/-! X, compile: the loop over its plans -/
theorem gu_uu {f : Nat → Int32} {k : Nat} {a b : Int32} : upd (upd f k a) k b = upd f k b := by
  funext j
  by_cases h : j = k
  · subst h; rw [pk_us, pk_us]
  · rw [pk_un h, pk_un h, pk_un h]
def xW (post : Int32 → SX → Prop) (m : Nat) (s : Int32) (u : SX) : Prop := match u with
  | (f_tokenCount, f_planCount, f_next, f_wrongToken, f_looseJump, f_latestPlace, f_openLoopCount, f_codeCount, f_labelCount, f_functionCount, f_registerCount, f_activeCalls, f_stackCount, f_nextCode, f_running, f_ending, f_endingPlace, f_resultValue, f_ticksUsed, f_printedCount, a_tokenKind, a_tokenValue, a_planKind, a_planValue, a_planPlace, a_argumentCount, a_openLoop, a_codeKind, a_codeValue, a_codePlace, a_labelTarget, a_functionStart, a_functionParameters, a_register, a_frame, a_returnTo, a_stack, a_element, a_outputValue) => wX_compile_6 post m s f_tokenCount f_planCount f_next f_wrongToken f_looseJump f_latestPlace f_openLoopCount f_codeCount f_labelCount f_functionCount f_registerCount f_activeCalls f_stackCount f_nextCode f_running f_ending f_endingPlace f_resultValue f_ticksUsed f_printedCount a_tokenKind a_tokenValue a_planKind a_planValue a_planPlace a_argumentCount a_openLoop a_codeKind a_codeValue a_codePlace a_labelTarget a_functionStart a_functionParameters a_register a_frame a_returnTo a_stack a_element a_outputValue
def xL (post : Int32 → SX → Prop) (s : Nat) (u : SX) : Prop := ∀ m, 1000000 < m + s → xW post m (nI s) u
theorem xi_step {post : Int32 → SX → Prop} {f_tokenCount f_planCount f_next f_wrongToken f_looseJump f_latestPlace f_openLoopCount f_codeCount f_labelCount f_functionCount f_registerCount f_activeCalls f_stackCount f_nextCode f_running f_ending f_endingPlace f_resultValue f_ticksUsed f_printedCount : Int32} {a_tokenKind a_tokenValue a_planKind a_planValue a_planPlace a_argumentCount a_openLoop a_codeKind a_codeValue a_codePlace a_labelTarget a_functionStart a_functionParameters a_register a_frame a_returnTo a_stack a_element a_outputValue : Nat → Int32} {P : List gm_M} {k : Nat} {v : Int32} {q s : Nat} (hs : s < 1000000) (hc : f_planCount = nI ((k, v, q) :: P).length) (hl : P.length < 960)
    (hP : xp_Pd a_planKind a_planValue a_planPlace ((k, v, q) :: P)) (hw : f_wrongToken = -1)
    (H : ∀ Q : SX → Prop, (∀ u, xL post (s + 1) u → Q u) → wpX_follow Q (f_tokenCount, nI P.length, f_next, f_wrongToken, f_looseJump, f_latestPlace, f_openLoopCount, f_codeCount, f_labelCount, f_functionCount, f_registerCount, f_activeCalls, f_stackCount, f_nextCode, f_running, f_ending, f_endingPlace, f_resultValue, f_ticksUsed, f_printedCount, a_tokenKind, a_tokenValue, a_planKind, a_planValue, a_planPlace, a_argumentCount, a_openLoop, a_codeKind, a_codeValue, a_codePlace, a_labelTarget, a_functionStart, a_functionParameters, a_register, a_frame, a_returnTo, a_stack, a_element, a_outputValue) (nI k) v (nI q)) : xL post s (f_tokenCount, f_planCount, f_next, f_wrongToken, f_looseJump, f_latestPlace, f_openLoopCount, f_codeCount, f_labelCount, f_functionCount, f_registerCount, f_activeCalls, f_stackCount, f_nextCode, f_running, f_ending, f_endingPlace, f_resultValue, f_ticksUsed, f_printedCount, a_tokenKind, a_tokenValue, a_planKind, a_planValue, a_planPlace, a_argumentCount, a_openLoop, a_codeKind, a_codeValue, a_codePlace, a_labelTarget, a_functionStart, a_functionParameters, a_register, a_frame, a_returnTo, a_stack, a_element, a_outputValue) := by
  intro m hm
  obtain ⟨m, rfl⟩ : ∃ m', m = m' + 1 := ⟨m - 1, by omega⟩
  subst hc hw
  have h3 : (nI P.length).toNatClampNeg = P.length := nI_clamp (by omega)
  have h2 : vp_in (nI P.length) 960 := vp_in_nI hl (by decide)
  refine br_f (nI_ge (b := 1000000) hs (by decide)) (br_f (nI_nle (by simp) (by simp; omega)) (br_f (by decide) (nm_r (nI_pred _) ⟨h2, h2, h2, ?_⟩)))
  rw [h3, hP.1, hP.2.1, hP.2.2.1]
  refine H _ (fun u hu => ?_)
  obtain ⟨f_tokenCount', f_planCount', f_next', f_wrongToken', f_looseJump', f_latestPlace', f_openLoopCount', f_codeCount', f_labelCount', f_functionCount', f_registerCount', f_activeCalls', f_stackCount', f_nextCode', f_running', f_ending', f_endingPlace', f_resultValue', f_ticksUsed', f_printedCount', a_tokenKind', a_tokenValue', a_planKind', a_planValue', a_planPlace', a_argumentCount', a_openLoop', a_codeKind', a_codeValue', a_codePlace', a_labelTarget', a_functionStart', a_functionParameters', a_register', a_frame', a_returnTo', a_stack', a_element', a_outputValue'⟩ := u
  exact nm_r (nI_1 _) (hu m (by omega))
def xQ (post : Int32 → SX → Prop) (U : SX) (s p : Nat) (P : List gm_M) (lj : Int32) (ol : List Nat) (cc lc fc : Nat) (A : gm_A) : Prop :=
  ∀ pk pv pp oa : Nat → Int32, xp_Pd pk pv pp P → xp_Ol oa ol → xL post s (U.1, nI P.length, nI p, -1, lj, U.2.2.2.2.2.1, nI ol.length, nI cc, nI lc, nI fc, U.2.2.2.2.2.2.2.2.2.2.1, U.2.2.2.2.2.2.2.2.2.2.2.1, U.2.2.2.2.2.2.2.2.2.2.2.2.1, U.2.2.2.2.2.2.2.2.2.2.2.2.2.1, U.2.2.2.2.2.2.2.2.2.2.2.2.2.2.1, U.2.2.2.2.2.2.2.2.2.2.2.2.2.2.2.1, U.2.2.2.2.2.2.2.2.2.2.2.2.2.2.2.2.1, U.2.2.2.2.2.2.2.2.2.2.2.2.2.2.2.2.2.1, U.2.2.2.2.2.2.2.2.2.2.2.2.2.2.2.2.2.2.1, U.2.2.2.2.2.2.2.2.2.2.2.2.2.2.2.2.2.2.2.1, U.2.2.2.2.2.2.2.2.2.2.2.2.2.2.2.2.2.2.2.2.1, U.2.2.2.2.2.2.2.2.2.2.2.2.2.2.2.2.2.2.2.2.2.1, pk, pv, pp, A.2.2.2.2.1, oa, A.1, A.2.1, A.2.2.1, A.2.2.2.1, A.2.2.2.2.2.1, A.2.2.2.2.2.2.1, U.2.2.2.2.2.2.2.2.2.2.2.2.2.2.2.2.2.2.2.2.2.2.2.2.2.2.2.2.2.2.2.2.2.1, U.2.2.2.2.2.2.2.2.2.2.2.2.2.2.2.2.2.2.2.2.2.2.2.2.2.2.2.2.2.2.2.2.2.2.1, U.2.2.2.2.2.2.2.2.2.2.2.2.2.2.2.2.2.2.2.2.2.2.2.2.2.2.2.2.2.2.2.2.2.2.2.1, U.2.2.2.2.2.2.2.2.2.2.2.2.2.2.2.2.2.2.2.2.2.2.2.2.2.2.2.2.2.2.2.2.2.2.2.2.1, U.2.2.2.2.2.2.2.2.2.2.2.2.2.2.2.2.2.2.2.2.2.2.2.2.2.2.2.2.2.2.2.2.2.2.2.2.2.1, U.2.2.2.2.2.2.2.2.2.2.2.2.2.2.2.2.2.2.2.2.2.2.2.2.2.2.2.2.2.2.2.2.2.2.2.2.2.2)
def xE (post : Int32 → SX → Prop) (U : SX) (s e : Nat) (ac fp : Nat → Int32) : Prop :=
  ∀ (pc nx lj oc cc lc fc : Int32) (pk pv pp oa ck cv cp lt fs : Nat → Int32), xL post s (U.1, pc, nx, nI e, lj, U.2.2.2.2.2.1, oc, cc, lc, fc, U.2.2.2.2.2.2.2.2.2.2.1, U.2.2.2.2.2.2.2.2.2.2.2.1, U.2.2.2.2.2.2.2.2.2.2.2.2.1, U.2.2.2.2.2.2.2.2.2.2.2.2.2.1, U.2.2.2.2.2.2.2.2.2.2.2.2.2.2.1, U.2.2.2.2.2.2.2.2.2.2.2.2.2.2.2.1, U.2.2.2.2.2.2.2.2.2.2.2.2.2.2.2.2.1, U.2.2.2.2.2.2.2.2.2.2.2.2.2.2.2.2.2.1, U.2.2.2.2.2.2.2.2.2.2.2.2.2.2.2.2.2.2.1, U.2.2.2.2.2.2.2.2.2.2.2.2.2.2.2.2.2.2.2.1, U.2.2.2.2.2.2.2.2.2.2.2.2.2.2.2.2.2.2.2.2.1, U.2.2.2.2.2.2.2.2.2.2.2.2.2.2.2.2.2.2.2.2.2.1, pk, pv, pp, ac, oa, ck, cv, cp, lt, fs, fp, U.2.2.2.2.2.2.2.2.2.2.2.2.2.2.2.2.2.2.2.2.2.2.2.2.2.2.2.2.2.2.2.2.2.1, U.2.2.2.2.2.2.2.2.2.2.2.2.2.2.2.2.2.2.2.2.2.2.2.2.2.2.2.2.2.2.2.2.2.2.1, U.2.2.2.2.2.2.2.2.2.2.2.2.2.2.2.2.2.2.2.2.2.2.2.2.2.2.2.2.2.2.2.2.2.2.2.1, U.2.2.2.2.2.2.2.2.2.2.2.2.2.2.2.2.2.2.2.2.2.2.2.2.2.2.2.2.2.2.2.2.2.2.2.2.1, U.2.2.2.2.2.2.2.2.2.2.2.2.2.2.2.2.2.2.2.2.2.2.2.2.2.2.2.2.2.2.2.2.2.2.2.2.2.1, U.2.2.2.2.2.2.2.2.2.2.2.2.2.2.2.2.2.2.2.2.2.2.2.2.2.2.2.2.2.2.2.2.2.2.2.2.2.2)
def xh (U : SX) (K V : Nat → Int32) (n : Nat) : Prop :=
  U.1 = nI n ∧ n ≤ 120 ∧ (∀ p, gm_tk U.2.2.2.2.2.2.2.2.2.2.2.2.2.2.2.2.2.2.2.2.1 n p = gm_tk K n p) ∧ (∀ p, p < n → U.2.2.2.2.2.2.2.2.2.2.2.2.2.2.2.2.2.2.2.2.2.1 p = V p) ∧ (∀ q, q < n → ∃ k, k ≤ 41 ∧ U.2.2.2.2.2.2.2.2.2.2.2.2.2.2.2.2.2.2.2.2.1 q = nI k)
section
variable {post : Int32 → SX → Prop} {U : SX} {K V : Nat → Int32} {n s p cc lc fc : Nat} {P : List gm_M} {lj : Int32} {ol : List Nat} {A : gm_A}
theorem xq_tok {k : Nat} {v : Int32} {q : Nat} (hU : xh U K V n) (hs : s < 1000000) (hl : P.length < 960) (hp : p ≤ 120) (hk : k < 42)
    (H1 : gm_tk K n p = nI k → xQ post U (s + 1) (p + 1) P lj ol cc lc fc A) (H2 : ¬ gm_tk K n p = nI k → xE post U (s + 1) p A.2.2.2.2.1 A.2.2.2.2.2.2.1) : xQ post U s p ((k, v, q) :: P) lj ol cc lc fc A := by
  intro pk pv pp oa hP hO
  refine xi_step hs rfl hl hP rfl fun Q hQ => ?_
  refine br_f (nI_ge (b := 42) hk (by decide)) ?_
  rw [← hU.2.2.1 p] at H1 H2
  exact xm_take (nI k) rfl hU.1 hU.2.1 hp (fun h => hQ _ (H1 h _ _ _ _ hP.2.2.2 hO)) (fun h => hQ _ (H2 h _ _ _ _ _ _ _ _ _ _ _ _ _ _ _ _))
theorem xq_emit {k : Nat} {v : Int32} {q : Nat} (hs : s < 1000000) (hl : P.length < 960) (hc : cc < 360) (hk : k < 100)
    (H : xQ post U (s + 1) p P lj ol (cc + 1) lc fc (gm_up A cc fc p [(k, v, q)] none none none)) : xQ post U s p ((200 + k, v, q) :: P) lj ol cc lc fc A := by
  intro pk pv pp oa hP hO
  refine xi_step hs rfl hl hP rfl fun Q hQ => ?_
  refine br_t (nI_le (a := 42) (by omega) (by omega)) (br_f (nI_nlt (b := 200) (by omega) (by omega)) ?_)
  rw [show nI (200 + k) - 200 = nI k from (pk_sub (a := 200 + k) (b := 200) (by omega)).trans (congrArg nI (by omega))]
  exact xm_emit rfl hc (hQ _ (H _ _ _ _ hP.2.2.2 hO))
theorem xq_100 {v : Int32} {q : Nat} (hU : xh U K V n) (hs : s < 1000000) (hl : P.length + 9 < 960) (hp : p ≤ 120) (hf : fc ≤ 4)
    (H0 : gm_tk K n p = -1 → 0 < fc → xQ post U (s + 1) p P lj ol cc lc fc A) (H4 : ¬ (gm_tk K n p = -1 ∧ 0 < fc) → fc = 4 → xE post U (s + 1) p A.2.2.2.2.1 A.2.2.2.2.2.2.1)
    (H : ¬ (gm_tk K n p = -1 ∧ 0 < fc) → fc < 4 → xQ post U (s + 1) p ((41, 0, 0) :: (101, 0, 0) :: (8, 0, 0) :: (102, 0, 0) :: (9, 0, 0) :: (251, 0, 0) :: (239, 0, 0) :: (100, 0, 0) :: P) lj ol cc lc fc A) :
    xQ post U s p ((100, v, q) :: P) lj ol cc lc fc A := by
  intro pk pv pp oa hP hO
  refine xi_step hs rfl (by omega) hP rfl fun Q hQ => ?_
  rw [← hU.2.2.1 p] at H0 H4 H
  exact br_t (by decide) (br_t (by decide) (br_f (by decide) (br_f (by decide) (br_t (by decide) (xm_funs rfl hU.1 hU.2.1 hp rfl hP.2.2.2 rfl hf (by omega) (fun a b => hQ _ (H0 a b _ _ _ _ hP.2.2.2 hO)) (fun a b => hQ _ (H4 a b _ _ _ _ _ _ _ _ _ _ _ _ _ _ _ _)) (fun a b pk pv pp hP => hQ _ (H a b _ _ _ _ hP hO)))))))
theorem xq_101 {v : Int32} {q : Nat} (hU : xh U K V n) (hs : s < 1000000) (hl : P.length < 960) (hp : p ≤ 120) (hf : fc < 4)
    (H1 : gm_tk K n p = 0 → 0 ≤ V p → V p ≤ 3 → xQ post U (s + 1) (p + 1) P lj ol cc lc (fc + 1) (gm_up A cc fc (p + 2) [] none none (some (V p))))
    (H2 : ¬ (gm_tk K n p = 0 ∧ 0 ≤ V p ∧ V p ≤ 3) → xE post U (s + 1) p A.2.2.2.2.1 A.2.2.2.2.2.2.1) :
    xQ post U s p ((101, v, q) :: P) lj ol cc lc fc A := by
  intro pk pv pp oa hP hO
  refine xi_step hs rfl (by omega) hP rfl fun Q hQ => ?_
  have e : ∀ v, (p < n → v = U.2.2.2.2.2.2.2.2.2.2.2.2.2.2.2.2.2.2.2.2.2.1 p) → gm_tk K n p = 0 → v = V p := fun v hv h => (hv (gm_tk_lt h (by decide))).trans (hU.2.2.2.1 p (gm_tk_lt h (by decide)))
  have hk := hU.2.2.1 p
  exact br_t (by decide) (br_t (by decide) (br_f (by decide) (br_f (by decide) (br_f (by decide) (br_t (by decide) (xm_par rfl hU.1 hU.2.1 hp rfl hf (fun v hv a b c => by rw [e v hv (hk ▸ a)] at b c ⊢; exact hQ _ (H1 (hk ▸ a) b c _ _ _ _ hP.2.2.2 hO)) (fun v hv a => hQ _ (H2 (fun z => a ⟨hk.trans z.1, by rw [e v hv z.1]; exact z.2⟩) _ _ _ _ _ _ _ _ _ _ _ _ _ _ _ _))))))))
theorem xq_102 {v : Int32} {q : Nat} (hU : xh U K V n) (hs : s < 1000000) (hl : P.length + 2 < 960) (hp : p ≤ 120)
    (H1 : gm_tk K n p = 9 → xQ post U (s + 1) p P lj ol cc lc fc A) (H2 : ¬ gm_tk K n p = 9 → xQ post U (s + 1) p ((103, 0, 0) :: (102, 0, 0) :: P) lj ol cc lc fc A) :
    xQ post U s p ((102, v, q) :: P) lj ol cc lc fc A := by
  intro pk pv pp oa hP hO
  refine xi_step hs rfl (by omega) hP rfl fun Q hQ => ?_
  rw [← hU.2.2.1 p] at H1 H2
  exact br_t (by decide) (br_t (by decide) (br_f (by decide) (br_f (by decide) (br_f (by decide) (br_f (by decide) (br_t (by decide) (xm_stmts rfl hU.1 hU.2.1 hp rfl hP.2.2.2 hl (fun h => hQ _ (H1 h _ _ _ _ hP.2.2.2 hO)) (fun h pk pv pp hP => hQ _ (H2 h _ _ _ _ hP hO)))))))))
theorem xq_106 {w : Int32} {q : Nat} (hs : s < 1000000) (hl : P.length + 2 < 960)
    (H : xQ post U (s + 1) p ((108, 0, 0) :: (107, w, 0) :: P) lj ol cc lc fc A) : xQ post U s p ((106, w, q) :: P) lj ol cc lc fc A := by
  intro pk pv pp oa hP hO
  refine xi_step hs rfl (by omega) hP rfl fun Q hQ => ?_
  exact br_t (by decide) (br_t (by decide) (br_f (by decide) (br_f (by decide) (br_f (by decide) (br_f (by decide) (br_f (by decide) (br_f (by decide) (br_f (by decide) (br_f (by decide) (br_t (by decide) (xm_plan 107 w 0 rfl (by omega) hP.2.2.2 fun pk pv pp hP => xm_plan 108 0 0 rfl (by simp only [List.length_cons]; omega) hP fun pk pv pp hP => hQ _ (H _ _ _ _ hP hO))))))))))))
theorem xq_111 {l q : Nat} (hs : s < 1000000) (hl : P.length < 960) (hll : l < 240)
    (H : xQ post U (s + 1) p P lj ol cc lc fc (gm_up A cc fc p [] (some (l, cc)) none none)) : xQ post U s p ((111, nI l, q) :: P) lj ol cc lc fc A := by
  intro pk pv pp oa hP hO
  refine xi_step hs rfl (by omega) hP rfl fun Q hQ => ?_
  exact br_t (by decide) (br_t (by decide) (br_f (by decide) (br_f (by decide) (br_f (by decide) (br_f (by decide) (br_f (by decide) (br_f (by decide) (br_f (by decide) (br_f (by decide) (br_f (by decide) (br_f (by decide) (br_f (by decide) (br_f (by decide) (br_f (by decide) (br_t (by decide) (xm_putLabel rfl hll (hQ _ (H _ _ _ _ hP.2.2.2 hO))))))))))))))))))
theorem xq_104 {l q : Nat} (hU : xh U K V n) (hs : s < 1000000) (hl : P.length + 2 < 960) (hp : p ≤ 120) (hll : l < 240) (hc : cc < 360)
    (H1 : gm_tk K n p = 35 → xQ post U (s + 1) (p + 1) ((103, 0, 0) :: (111, nI (l + 1), 0) :: P) lj ol (cc + 1) lc fc (gm_up A cc fc (p + 1) [(58, nI (l + 1), 0)] (some (l, cc + 1)) none none))
    (H2 : ¬ gm_tk K n p = 35 → xQ post U (s + 1) p P lj ol cc lc fc (gm_up A cc fc p [] (some (l, cc)) none none)) : xQ post U s p ((104, nI l, q) :: P) lj ol cc lc fc A := by
  intro pk pv pp oa hP hO
  refine xi_step hs rfl (by omega) hP rfl fun Q hQ => ?_
  rw [← hU.2.2.1 p] at H1 H2
  refine br_t (by decide) (br_t (by decide) (br_f (by decide) (br_f (by decide) (br_f (by decide) (br_f (by decide) (br_f (by decide) (br_f (by decide) (br_t (by decide) (?_)))))))))
  by_cases h : gm_tk U.2.2.2.2.2.2.2.2.2.2.2.2.2.2.2.2.2.2.2.2.1 n p = 35
  · exact xm_els1 rfl hU.1 hU.2.1 hp rfl hP.2.2.2 rfl hll h rfl hc hl (fun pk pv pp hP => hQ _ (H1 h _ _ _ _ hP hO))
  · exact xm_els0 rfl hU.1 hU.2.1 hp rfl hll h (hQ _ (H2 h _ _ _ _ hP.2.2.2 hO))
theorem xq_105 {a b q : Nat} (hs : s < 1000000) (hl : P.length < 960) (hll : a + 1 < 240) (hc : cc < 360) (hol : ol.length < 120)
    (H : xQ post U (s + 1) p P lj ol (cc + 1) lc fc (gm_up A cc fc p [(58, nI a, 0)] (some (a + 1, cc + 1)) none none)) : xQ post U s p ((105, nI a, q) :: P) lj (b :: ol) cc lc fc A := by
  intro pk pv pp oa hP hO
  refine xi_step hs rfl (by omega) hP rfl fun Q hQ => ?_
  exact br_t (by decide) (br_t (by decide) (br_f (by decide) (br_f (by decide) (br_f (by decide) (br_f (by decide) (br_f (by decide) (br_f (by decide) (br_f (by decide) (br_t (by decide) (xm_endLoop rfl hll rfl hc rfl hol (hQ _ (H _ _ _ _ hP.2.2.2 hO.2))))))))))))
theorem xq_109 {v : Int32} {q : Nat} (hU : xh U K V n) (hs : s < 1000000) (hl : P.length + 2 < 960) (hp : p ≤ 120) (hq : q < 120)
    (H1 : gm_tk K n p = 5 → xQ post U (s + 1) (p + 1) P lj ol cc lc fc (gm_up A cc fc (p + 1) [] none (some (q, 0)) none))
    (H2 : ¬ gm_tk K n p = 5 → xQ post U (s + 1) p ((106, 1, 0) :: (110, 0, q) :: P) lj ol cc lc fc (gm_up A cc fc p [] none (some (q, 1)) none)) : xQ post U s p ((109, v, q) :: P) lj ol cc lc fc A := by
  intro pk pv pp oa hP hO
  refine xi_step hs rfl (by omega) hP rfl fun Q hQ => ?_
  rw [← hU.2.2.1 p] at H1 H2
  refine br_t (by decide) (br_t (by decide) (br_f (by decide) (br_f (by decide) (br_f (by decide) (br_f (by decide) (br_f (by decide) (br_f (by decide) (br_f (by decide) (br_f (by decide) (br_f (by decide) (br_f (by decide) (br_f (by decide) (br_t (by decide) (?_))))))))))))))
  refine xm_args rfl hU.1 hU.2.1 hp rfl hP.2.2.2 rfl hq hl (fun h => hQ _ (H1 h _ _ _ _ hP.2.2.2 hO)) (fun h pk pv pp hP => ?_)
  rw [gu_uu, show (0 : Int32) + 1 = nI 1 from by decide]
  exact hQ _ (H2 h _ _ _ _ hP hO)
theorem xq_110 {v : Int32} {q c : Nat} (hU : xh U K V n) (hs : s < 1000000) (hl : P.length + 2 < 960) (hp : p ≤ 120) (hq : q < 120) (hc : A.2.2.2.2.1 q = nI c)
    (H1 : gm_tk K n p = 11 → xQ post U (s + 1) (p + 1) ((106, 1, 0) :: (110, 0, q) :: P) lj ol cc lc fc (gm_up A cc fc (p + 1) [] none (some (q, c + 1)) none))
    (H2 : gm_tk K n p = 5 → xQ post U (s + 1) (p + 1) P lj ol cc lc fc A) (H3 : ¬ gm_tk K n p = 11 → ¬ gm_tk K n p = 5 → xE post U (s + 1) p A.2.2.2.2.1 A.2.2.2.2.2.2.1) :
    xQ post U s p ((110, v, q) :: P) lj ol cc lc fc A := by
  intro pk pv pp oa hP hO
  refine xi_step hs rfl (by omega) hP rfl fun Q hQ => ?_
  rw [← hU.2.2.1 p] at H1 H2 H3
  refine br_t (by decide) (br_t (by decide) (br_f (by decide) (br_f (by decide) (br_f (by decide) (br_f (by decide) (br_f (by decide) (br_f (by decide) (br_f (by decide) (br_f (by decide) (br_f (by decide) (br_f (by decide) (br_f (by decide) (br_f (by decide) (br_t (by decide) (?_)))))))))))))))
  refine xm_margs rfl hU.1 hU.2.1 hp rfl hP.2.2.2 rfl hq hl (fun h pk pv pp hP => ?_) (fun h => hQ _ (H2 h _ _ _ _ hP.2.2.2 hO)) (fun h h' => hQ _ (H3 h h' _ _ _ _ _ _ _ _ _ _ _ _ _ _ _ _))
  rw [hc, nI_1]
  exact hQ _ (H1 h _ _ _ _ hP hO)
end
end
section
/-! X, compile: the loop, statements and expressions -/
section
variable {post : Int32 → SX → Prop} {U : SX} {K V : Nat → Int32} {n s p cc lc fc : Nat} {P : List gm_M} {lj : Int32} {ol : List Nat} {A : gm_A}
theorem xq_st8 {v : Int32} {q : Nat} (hU : xh U K V n) (hs : s < 1000000) (hl : P.length + 7 < 960) (hp : p ≤ 120) (h : gm_tk K n p = 8)
    (H : xQ post U (s + 1) (p + 1) ((102, 0, 0) :: (9, 0, 0) :: P) lj ol cc lc fc A) : xQ post U s p ((103, v, q) :: P) lj ol cc lc fc A := by
  intro pk pv pp oa hP hO
  refine xi_step hs rfl (by omega) hP rfl fun Q hQ => ?_
  rw [← hU.2.2.1 p] at h
  exact br_t (by decide) (br_t (by decide) (br_f (by decide) (br_f (by decide) (br_f (by decide) (br_f (by decide) (br_f (by decide) (br_t (by decide) (xm_st8 rfl hU.1 hU.2.1 hp rfl hP.2.2.2 (by omega) h (fun pk pv pp hP => hQ _ (H _ _ _ _ hP hO))))))))))
theorem xq_st1 {v : Int32} {q : Nat} (hU : xh U K V n) (hs : s < 1000000) (hl : P.length + 7 < 960) (hp : p < n) (h : gm_tk K n p = 1)
    (H : xQ post U (s + 1) (p + 1) ((12, 0, 0) :: (106, 1, 0) :: (253, V p, p) :: (10, 0, 0) :: P) lj ol cc lc fc A) : xQ post U s p ((103, v, q) :: P) lj ol cc lc fc A := by
  intro pk pv pp oa hP hO
  refine xi_step hs rfl (by omega) hP rfl fun Q hQ => ?_
  have hn := hU.2.1
  have hp' : p ≤ 120 := by omega
  rw [← hU.2.2.1 p] at h
  rw [← hU.2.2.2.1 p hp] at H
  exact br_t (by decide) (br_t (by decide) (br_f (by decide) (br_f (by decide) (br_f (by decide) (br_f (by decide) (br_f (by decide) (br_t (by decide) (xm_st1 rfl hU.1 hU.2.1 hp' rfl hP.2.2.2 (by omega) (by omega) h (fun pk pv pp hP => hQ _ (H _ _ _ _ hP hO))))))))))
theorem xq_st3 {v : Int32} {q : Nat} (hU : xh U K V n) (hs : s < 1000000) (hl : P.length + 7 < 960) (hp : p < n) (h : gm_tk K n p = 3)
    (H : xQ post U (s + 1) (p + 1) ((6, 0, 0) :: (106, 1, 0) :: (7, 0, 0) :: (12, 0, 0) :: (106, 1, 0) :: (255, V p, p) :: (10, 0, 0) :: P) lj ol cc lc fc A) : xQ post U s p ((103, v, q) :: P) lj ol cc lc fc A := by
  intro pk pv pp oa hP hO
  refine xi_step hs rfl (by omega) hP rfl fun Q hQ => ?_
  have hn := hU.2.1
  have hp' : p ≤ 120 := by omega
  rw [← hU.2.2.1 p] at h
  rw [← hU.2.2.2.1 p hp] at H
  exact br_t (by decide) (br_t (by decide) (br_f (by decide) (br_f (by decide) (br_f (by decide) (br_f (by decide) (br_f (by decide) (br_t (by decide) (xm_st3 rfl hU.1 hU.2.1 hp' rfl hP.2.2.2 (by omega) (by omega) h (fun pk pv pp hP => hQ _ (H _ _ _ _ hP hO))))))))))
theorem xq_st2 {v : Int32} {q : Nat} (hU : xh U K V n) (hs : s < 1000000) (hl : P.length + 7 < 960) (hp : p < n) (h : gm_tk K n p = 2)
    (H : xQ post U (s + 1) (p + 1) ((4, 0, 0) :: (109, 0, p) :: (262, 0, p) :: (263, 0, p) :: (264, V p, 0) :: (256, 0, 0) :: (10, 0, 0) :: P) lj ol cc lc fc A) : xQ post U s p ((103, v, q) :: P) lj ol cc lc fc A := by
  intro pk pv pp oa hP hO
  refine xi_step hs rfl (by omega) hP rfl fun Q hQ => ?_
  have hn := hU.2.1
  have hp' : p ≤ 120 := by omega
  rw [← hU.2.2.1 p] at h
  rw [← hU.2.2.2.1 p hp] at H
  exact br_t (by decide) (br_t (by decide) (br_f (by decide) (br_f (by decide) (br_f (by decide) (br_f (by decide) (br_f (by decide) (br_t (by decide) (xm_st2 rfl hU.1 hU.2.1 hp' rfl hP.2.2.2 (by omega) (by omega) h (fun pk pv pp hP => hQ _ (H _ _ _ _ hP hO))))))))))
theorem xq_st34 {v : Int32} {q : Nat} (hU : xh U K V n) (hs : s < 1000000) (hl : P.length + 7 < 960) (hp : p ≤ 120) (h : gm_tk K n p = 34)
    (H : xQ post U (s + 1) (p + 1) ((4, 0, 0) :: (106, 1, 0) :: (5, 0, 0) :: (259, nI lc, 0) :: (103, 0, 0) :: (104, nI lc, 0) :: P) lj ol cc (lc + 2) fc A) : xQ post U s p ((103, v, q) :: P) lj ol cc lc fc A := by
  intro pk pv pp oa hP hO
  refine xi_step hs rfl (by omega) hP rfl fun Q hQ => ?_
  rw [← hU.2.2.1 p] at h
  exact br_t (by decide) (br_t (by decide) (br_f (by decide) (br_f (by decide) (br_f (by decide) (br_f (by decide) (br_f (by decide) (br_t (by decide) (xm_st34 rfl hU.1 hU.2.1 hp rfl hP.2.2.2 rfl (by omega) h (fun pk pv pp hP => hQ _ (H _ _ _ _ hP hO))))))))))
theorem xq_st36 {v : Int32} {q : Nat} (hU : xh U K V n) (hs : s < 1000000) (hl : P.length + 7 < 960) (hp : p ≤ 120) (h : gm_tk K n p = 36) (hol : ol.length < 120) (hlc : lc < 240) (hc : cc < 360)
    (H : xQ post U (s + 1) (p + 1) ((4, 0, 0) :: (106, 1, 0) :: (5, 0, 0) :: (259, nI (lc + 1), 0) :: (103, 0, 0) :: (105, nI lc, 0) :: P) lj (lc :: ol) (cc + 1) (lc + 2) fc (gm_up A cc fc (p + 2) [(63, 0, p)] (some (lc, cc)) none none)) : xQ post U s p ((103, v, q) :: P) lj ol cc lc fc A := by
  intro pk pv pp oa hP hO
  refine xi_step hs rfl (by omega) hP rfl fun Q hQ => ?_
  rw [← hU.2.2.1 p] at h
  exact br_t (by decide) (br_t (by decide) (br_f (by decide) (br_f (by decide) (br_f (by decide) (br_f (by decide) (br_f (by decide) (br_t (by decide) (xm_st36 rfl hU.1 hU.2.1 hp rfl hP.2.2.2 rfl hol hO rfl rfl hlc hc (by omega) h (fun oa hO pk pv pp hP => hQ _ (H _ _ _ _ hP hO))))))))))
theorem xq_st37a {v : Int32} {q d : Nat} (hU : xh U K V n) (hs : s < 1000000) (hl : P.length + 7 < 960) (hp : p ≤ 120) (hd : d = 37 ∨ d = 38) (h : gm_tk K n p = nI d)
    (H : xQ post U (s + 1) (p + 1) ((10, 0, 0) :: P) (gm_o true p lj) [] cc lc fc A) : xQ post U s p ((103, v, q) :: P) lj [] cc lc fc A := by
  intro pk pv pp oa hP hO
  refine xi_step hs rfl (by omega) hP rfl fun Q hQ => ?_
  rw [← hU.2.2.1 p] at h
  exact br_t (by decide) (br_t (by decide) (br_f (by decide) (br_f (by decide) (br_f (by decide) (br_f (by decide) (br_f (by decide) (br_t (by decide) (xm_st37a (ol := []) rfl hU.1 hU.2.1 hp rfl hP.2.2.2 rfl (by decide) trivial hd (by omega) rfl h (fun pk pv pp hP => hQ _ (H _ _ _ _ hP hO))))))))))
theorem xq_st37b {v : Int32} {q d e a : Nat} (hU : xh U K V n) (hs : s < 1000000) (hl : P.length + 7 < 960) (hp : p ≤ 120) (hd : d = 37 ∧ e = 1 ∨ d = 38 ∧ e = 0) (h : gm_tk K n p = nI d) (hol : ol.length < 120) (hc : cc < 360)
    (H : xQ post U (s + 1) (p + 1) ((10, 0, 0) :: P) lj (a :: ol) (cc + 1) lc fc (gm_up A cc fc (p + 1) [(58, nI (a + e), p)] none none none)) : xQ post U s p ((103, v, q) :: P) lj (a :: ol) cc lc fc A := by
  intro pk pv pp oa hP hO
  refine xi_step hs rfl (by omega) hP rfl fun Q hQ => ?_
  rw [← hU.2.2.1 p] at h
  exact br_t (by decide) (br_t (by decide) (br_f (by decide) (br_f (by decide) (br_f (by decide) (br_f (by decide) (br_f (by decide) (br_t (by decide) (xm_st37b rfl hU.1 hU.2.1 hp rfl hP.2.2.2 rfl hol hO rfl hc hd (by omega) h (fun pk pv pp hP => hQ _ (H _ _ _ _ hP hO))))))))))
theorem xq_st39 {v : Int32} {q d : Nat} (hU : xh U K V n) (hs : s < 1000000) (hl : P.length + 7 < 960) (hp : p ≤ 120) (hd : d = 39 ∨ d = 40) (h : gm_tk K n p = nI d)
    (H : xQ post U (s + 1) (p + 1) ((106, 1, 0) :: (200 + d, 0, p) :: (10, 0, 0) :: P) lj ol cc lc fc A) : xQ post U s p ((103, v, q) :: P) lj ol cc lc fc A := by
  intro pk pv pp oa hP hO
  refine xi_step hs rfl (by omega) hP rfl fun Q hQ => ?_
  rw [← hU.2.2.1 p] at h
  exact br_t (by decide) (br_t (by decide) (br_f (by decide) (br_f (by decide) (br_f (by decide) (br_f (by decide) (br_f (by decide) (br_t (by decide) (xm_st39 rfl hU.1 hU.2.1 hp rfl hP.2.2.2 hd (by omega) h (fun pk pv pp hP => hQ _ (H _ _ _ _ hP hO))))))))))
theorem xq_stE {v : Int32} {q : Nat} (hU : xh U K V n) (hs : s < 1000000) (hl : P.length + 7 < 960) (hp : p ≤ 120) (h8 : ¬ gm_tk K n p = 8) (h1 : ¬ gm_tk K n p = 1) (h3 : ¬ gm_tk K n p = 3) (h2 : ¬ gm_tk K n p = 2) (h34 : ¬ gm_tk K n p = 34)
    (h36 : ¬ gm_tk K n p = 36) (h37 : ¬ gm_tk K n p = 37) (h38 : ¬ gm_tk K n p = 38) (h39 : ¬ gm_tk K n p = 39) (h40 : ¬ gm_tk K n p = 40)
    (H : xE post U (s + 1) p A.2.2.2.2.1 A.2.2.2.2.2.2.1) : xQ post U s p ((103, v, q) :: P) lj ol cc lc fc A := by
  intro pk pv pp oa hP hO
  refine xi_step hs rfl (by omega) hP rfl fun Q hQ => ?_
  rw [← hU.2.2.1 p] at h8 h1 h3 h2 h34 h36 h37 h38 h39 h40
  exact br_t (by decide) (br_t (by decide) (br_f (by decide) (br_f (by decide) (br_f (by decide) (br_f (by decide) (br_f (by decide) (br_t (by decide) (xm_stE rfl hU.1 hU.2.1 hp h8 h1 h3 h2 h34 h36 h37 h38 h39 h40 (hQ _ (H _ _ _ _ _ _ _ _ _ _ _ _ _ _ _ _))))))))))
theorem xq_un {v : Int32} {q d e : Nat} (hU : xh U K V n) (hs : s < 1000000) (hl : P.length + 7 < 960) (hp : p < n) (hd : d = 28 ∧ e = 50 ∨ d = 32 ∧ e = 32 ∨ d = 33 ∧ e = 33) (h : gm_tk K n p = nI d)
    (H : xQ post U (s + 1) (p + 1) ((108, 0, 0) :: (200 + e, 0, p) :: P) lj ol cc lc fc A) : xQ post U s p ((108, v, q) :: P) lj ol cc lc fc A := by
  intro pk pv pp oa hP hO
  refine xi_step hs rfl (by omega) hP rfl fun Q hQ => ?_
  have hn := hU.2.1
  have hp' : p ≤ 120 := by omega
  rw [← hU.2.2.1 p] at h
  exact br_t (by decide) (br_t (by decide) (br_f (by decide) (br_f (by decide) (br_f (by decide) (br_f (by decide) (br_f (by decide) (br_f (by decide) (br_f (by decide) (br_f (by decide) (br_f (by decide) (br_f (by decide) (br_t (by decide) (xm_un rfl hU.1 hU.2.1 hp' rfl hP.2.2.2 (by omega) hd (by omega) h (fun pk pv pp hP => hQ _ (H _ _ _ _ hP hO)))))))))))))))
theorem xq_un0 {v : Int32} {q : Nat} (hU : xh U K V n) (hs : s < 1000000) (hl : P.length + 7 < 960) (hp : p < n) (hc : cc < 360) (h : gm_tk K n p = 0)
    (H : xQ post U (s + 1) (p + 1) P lj ol (cc + 1) lc fc (gm_up A cc fc (p + 1) [(51, V p, p)] none none none)) : xQ post U s p ((108, v, q) :: P) lj ol cc lc fc A := by
  intro pk pv pp oa hP hO
  refine xi_step hs rfl (by omega) hP rfl fun Q hQ => ?_
  have hn := hU.2.1
  have hp' : p ≤ 120 := by omega
  rw [← hU.2.2.1 p] at h
  rw [← hU.2.2.2.1 p hp] at H
  exact br_t (by decide) (br_t (by decide) (br_f (by decide) (br_f (by decide) (br_f (by decide) (br_f (by decide) (br_f (by decide) (br_f (by decide) (br_f (by decide) (br_f (by decide) (br_f (by decide) (br_f (by decide) (br_t (by decide) (xm_un0 rfl hU.1 hU.2.1 hp' rfl hP.2.2.2 rfl hc (by omega) h (hQ _ (H _ _ _ _ hP.2.2.2 hO)))))))))))))))
theorem xq_un1 {v : Int32} {q : Nat} (hU : xh U K V n) (hs : s < 1000000) (hl : P.length + 7 < 960) (hp : p < n) (hc : cc < 360) (h : gm_tk K n p = 1)
    (H : xQ post U (s + 1) (p + 1) P lj ol (cc + 1) lc fc (gm_up A cc fc (p + 1) [(52, V p, p)] none none none)) : xQ post U s p ((108, v, q) :: P) lj ol cc lc fc A := by
  intro pk pv pp oa hP hO
  refine xi_step hs rfl (by omega) hP rfl fun Q hQ => ?_
  have hn := hU.2.1
  have hp' : p ≤ 120 := by omega
  rw [← hU.2.2.1 p] at h
  rw [← hU.2.2.2.1 p hp] at H
  exact br_t (by decide) (br_t (by decide) (br_f (by decide) (br_f (by decide) (br_f (by decide) (br_f (by decide) (br_f (by decide) (br_f (by decide) (br_f (by decide) (br_f (by decide) (br_f (by decide) (br_f (by decide) (br_t (by decide) (xm_un1 rfl hU.1 hU.2.1 hp' rfl hP.2.2.2 rfl hc (by omega) h (hQ _ (H _ _ _ _ hP.2.2.2 hO)))))))))))))))
theorem xq_un2 {v : Int32} {q : Nat} (hU : xh U K V n) (hs : s < 1000000) (hl : P.length + 7 < 960) (hp : p < n) (h : gm_tk K n p = 2)
    (H : xQ post U (s + 1) (p + 1) ((4, 0, 0) :: (109, 0, p) :: (262, 0, p) :: (263, 0, p) :: (264, V p, 0) :: P) lj ol cc lc fc A) : xQ post U s p ((108, v, q) :: P) lj ol cc lc fc A := by
  intro pk pv pp oa hP hO
  refine xi_step hs rfl (by omega) hP rfl fun Q hQ => ?_
  have hn := hU.2.1
  have hp' : p ≤ 120 := by omega
  rw [← hU.2.2.1 p] at h
  rw [← hU.2.2.2.1 p hp] at H
  exact br_t (by decide) (br_t (by decide) (br_f (by decide) (br_f (by decide) (br_f (by decide) (br_f (by decide) (br_f (by decide) (br_f (by decide) (br_f (by decide) (br_f (by decide) (br_f (by decide) (br_f (by decide) (br_t (by decide) (xm_un2 rfl hU.1 hU.2.1 hp' rfl hP.2.2.2 (by omega) (by omega) h (fun pk pv pp hP => hQ _ (H _ _ _ _ hP hO)))))))))))))))
theorem xq_un3 {v : Int32} {q : Nat} (hU : xh U K V n) (hs : s < 1000000) (hl : P.length + 7 < 960) (hp : p < n) (h : gm_tk K n p = 3)
    (H : xQ post U (s + 1) (p + 1) ((6, 0, 0) :: (106, 1, 0) :: (7, 0, 0) :: (254, 0, p) :: P) lj ol cc lc fc A) : xQ post U s p ((108, v, q) :: P) lj ol cc lc fc A := by
  intro pk pv pp oa hP hO
  refine xi_step hs rfl (by omega) hP rfl fun Q hQ => ?_
  have hn := hU.2.1
  have hp' : p ≤ 120 := by omega
  rw [← hU.2.2.1 p] at h
  exact br_t (by decide) (br_t (by decide) (br_f (by decide) (br_f (by decide) (br_f (by decide) (br_f (by decide) (br_f (by decide) (br_f (by decide) (br_f (by decide) (br_f (by decide) (br_f (by decide) (br_f (by decide) (br_t (by decide) (xm_un3 rfl hU.1 hU.2.1 hp' rfl hP.2.2.2 (by omega) (by omega) h (fun pk pv pp hP => hQ _ (H _ _ _ _ hP hO)))))))))))))))
theorem xq_un4 {v : Int32} {q : Nat} (hU : xh U K V n) (hs : s < 1000000) (hl : P.length + 7 < 960) (hp : p < n) (h : gm_tk K n p = 4)
    (H : xQ post U (s + 1) (p + 1) ((106, 1, 0) :: (5, 0, 0) :: P) lj ol cc lc fc A) : xQ post U s p ((108, v, q) :: P) lj ol cc lc fc A := by
  intro pk pv pp oa hP hO
  refine xi_step hs rfl (by omega) hP rfl fun Q hQ => ?_
  have hn := hU.2.1
  have hp' : p ≤ 120 := by omega
  rw [← hU.2.2.1 p] at h
  exact br_t (by decide) (br_t (by decide) (br_f (by decide) (br_f (by decide) (br_f (by decide) (br_f (by decide) (br_f (by decide) (br_f (by decide) (br_f (by decide) (br_f (by decide) (br_f (by decide) (br_f (by decide) (br_t (by decide) (xm_un4 rfl hU.1 hU.2.1 hp' rfl hP.2.2.2 (by omega) (by omega) h (fun pk pv pp hP => hQ _ (H _ _ _ _ hP hO)))))))))))))))
theorem xq_unE {v : Int32} {q : Nat} (hU : xh U K V n) (hs : s < 1000000) (hl : P.length + 7 < 960) (hp : p ≤ 120) (h28 : ¬ gm_tk K n p = 28) (h32 : ¬ gm_tk K n p = 32) (h33 : ¬ gm_tk K n p = 33) (h0 : ¬ gm_tk K n p = 0)
    (h1 : ¬ gm_tk K n p = 1) (h2 : ¬ gm_tk K n p = 2) (h3 : ¬ gm_tk K n p = 3) (h4 : ¬ gm_tk K n p = 4)
    (H : xE post U (s + 1) p A.2.2.2.2.1 A.2.2.2.2.2.2.1) : xQ post U s p ((108, v, q) :: P) lj ol cc lc fc A := by
  intro pk pv pp oa hP hO
  refine xi_step hs rfl (by omega) hP rfl fun Q hQ => ?_
  rw [← hU.2.2.1 p] at h28 h32 h33 h0 h1 h2 h3 h4
  exact br_t (by decide) (br_t (by decide) (br_f (by decide) (br_f (by decide) (br_f (by decide) (br_f (by decide) (br_f (by decide) (br_f (by decide) (br_f (by decide) (br_f (by decide) (br_f (by decide) (br_f (by decide) (br_t (by decide) (xm_unE rfl hU.1 hU.2.1 hp h28 h32 h33 h0 h1 h2 h3 h4 (hQ _ (H _ _ _ _ _ _ _ _ _ _ _ _ _ _ _ _)))))))))))))))
theorem xq_op0 {q w : Nat} (hU : xh U K V n) (hs : s < 1000000) (hl : P.length + 7 < 960) (hp : p ≤ 120) (hw : w ≤ 11) (h : gm_str (gm_tk K n p) < w)
    (H : xQ post U (s + 1) p P lj ol cc lc fc A) : xQ post U s p ((107, nI w, q) :: P) lj ol cc lc fc A := by
  intro pk pv pp oa hP hO
  refine xi_step hs rfl (by omega) hP rfl fun Q hQ => ?_
  rw [← hU.2.2.1 p] at h
  exact br_t (by decide) (br_t (by decide) (br_f (by decide) (br_f (by decide) (br_f (by decide) (br_f (by decide) (br_f (by decide) (br_f (by decide) (br_f (by decide) (br_f (by decide) (br_f (by decide) (br_t (by decide) (xm_op0 rfl hU.1 hU.2.1 hp rfl hw hU.2.2.2.2 h (hQ _ (H _ _ _ _ hP.2.2.2 hO))))))))))))))
theorem xq_op1 {q w : Nat} (hU : xh U K V n) (hs : s < 1000000) (hl : P.length + 7 < 960) (hp : p ≤ 120) (hw : w ≤ 11) (h : ¬ gm_str (gm_tk K n p) < w) (hw1 : 1 ≤ w) (h13 : ¬ gm_tk K n p = 13) (h14 : ¬ gm_tk K n p = 14)
    (H : xQ post U (s + 1) (p + 1) ((106, nI (gm_str (gm_tk K n p) + 1), 0) :: (200 + (gm_tk K n p).toNatClampNeg, 0, p) :: (107, nI w, 0) :: P) lj ol cc lc fc A) : xQ post U s p ((107, nI w, q) :: P) lj ol cc lc fc A := by
  intro pk pv pp oa hP hO
  refine xi_step hs rfl (by omega) hP rfl fun Q hQ => ?_
  rw [← hU.2.2.1 p] at h h13 h14 H
  exact br_t (by decide) (br_t (by decide) (br_f (by decide) (br_f (by decide) (br_f (by decide) (br_f (by decide) (br_f (by decide) (br_f (by decide) (br_f (by decide) (br_f (by decide) (br_f (by decide) (br_t (by decide) (xm_op1 rfl hU.1 hU.2.1 hp rfl hP.2.2.2 rfl hw hU.2.2.2.2 h hw1 h13 h14 (by omega) (fun pk pv pp hP => hQ _ (H _ _ _ _ hP hO))))))))))))))
theorem xq_op2 {q w d e : Nat} (hU : xh U K V n) (hs : s < 1000000) (hl : P.length + 7 < 960) (hp : p ≤ 120) (hw : w ≤ e) (h : gm_tk K n p = nI d) (hd : d = 13 ∧ e = 1 ∨ d = 14 ∧ e = 2) (hc : cc + 1 < 360)
    (H : xQ post U (s + 1) (p + 1) ((106, nI (e + 1), 0) :: (257, 0, p) :: (111, nI lc, 0) :: (107, nI w, 0) :: P) lj ol (cc + 2) (lc + 2) fc (gm_up A cc fc (p + 1) [(57, 0, p), (62 - e, nI lc, p)] none none none)) : xQ post U s p ((107, nI w, q) :: P) lj ol cc lc fc A := by
  intro pk pv pp oa hP hO
  refine xi_step hs rfl (by omega) hP rfl fun Q hQ => ?_
  rw [← hU.2.2.1 p] at h
  exact br_t (by decide) (br_t (by decide) (br_f (by decide) (br_f (by decide) (br_f (by decide) (br_f (by decide) (br_f (by decide) (br_f (by decide) (br_f (by decide) (br_f (by decide) (br_f (by decide) (br_t (by decide) (xm_op2 rfl hU.1 hU.2.1 hp rfl hP.2.2.2 rfl hw h hd rfl hc rfl (by omega) (fun pk pv pp hP => hQ _ (H _ _ _ _ hP hO))))))))))))))
end
end
section
/-! X, compile: the loop against G -/
def gm_f1 (x : gm_I) : List gm_M :=
  if x.1 = 1 then [(100, 0, 0)] else if x.1 = 2 then [(251, 0, 0), (239, 0, 0)] else if x.1 = 3 then [(102, 0, 0), (9, 0, 0)] else if x.1 = 4 then [(103, 0, 0)] else if x.1 = 5 then [(x.2.1, 0, 0)]
  else if x.1 = 6 then [(259, nI x.2.1, 0), (103, 0, 0), (104, nI x.2.1, 0)] else if x.1 = 7 then [(104, nI x.2.1, 0)] else if x.1 = 8 then [(111, nI (x.2.1 + 1), 0)]
  else if x.1 = 9 then [(259, nI (x.2.1 + 1), 0), (103, 0, 0), (105, nI x.2.1, 0)] else if x.1 = 10 then [(105, nI x.2.1, 0)] else if x.1 = 11 ∨ x.1 = 19 ∨ x.1 = 20 then [(200 + x.2.1, x.2.2.2.2, x.2.2.1)]
  else if x.1 = 12 then [(106, nI x.2.1, 0)] else if x.1 = 13 then [(107, nI x.2.1, 0)] else if x.1 = 14 then [(108, 0, 0)] else if x.1 = 15 then [(257, 0, x.2.2.1), (111, nI x.2.1, 0)]
  else if x.1 = 16 then [(109, 0, x.2.1)] else if x.1 = 17 then [(110, 0, x.2.1)] else [(262, 0, x.2.1), (263, 0, x.2.1), (264, x.2.2.2.2, 0)]
def gm_fl : List gm_I → List gm_M
  | [] => []
  | x :: S => gm_f1 x ++ gm_fl S
def gm_ol : List gm_I → List Nat
  | [] => []
  | x :: S => if x.1 = 9 then x.2.1 :: gm_ol S else if x.1 = 10 then x.2.1 :: gm_ol S else gm_ol S
theorem gm_f1_len {K V : Nat → Int32} {n p : Nat} (x : gm_I) (h : gm_vl K V n p x) : (gm_f1 x).length ≤ gw_p x := by
  obtain ⟨t, a, b, e, v⟩ := x
  unfold gm_vl at h
  have h1 : t ≤ 20 := by
    dsimp only at h
    repeat' split at h
    all_goals omega
  have h2 : 1 ≤ t := by
    dsimp only at h
    repeat' split at h
    all_goals omega
  unfold gm_f1 gw_p
  dsimp only
  have : t = 1 ∨ t = 2 ∨ t = 3 ∨ t = 4 ∨ t = 5 ∨ t = 6 ∨ t = 7 ∨ t = 8 ∨ t = 9 ∨ t = 10 ∨ t = 11 ∨ t = 12 ∨ t = 13 ∨ t = 14 ∨ t = 15 ∨ t = 16 ∨ t = 17 ∨ t = 18 ∨ t = 19 ∨ t = 20 := by omega
  rcases this with h | h | h | h | h | h | h | h | h | h | h | h | h | h | h | h | h | h | h | h <;> subst h <;> simp
theorem gm_fl_len {K V : Nat → Int32} {n p : Nat} : ∀ {S : List gm_I}, gm_va K V n p S → (gm_fl S).length ≤ gm_sm gw_p S
  | [], _ => Nat.le_refl _
  | x :: S, h => by
    have h1 := gm_f1_len x h.1
    have h2 := gm_fl_len h.2
    simp only [gm_fl, gm_sm, List.length_append]
    omega
theorem gm_ol_opn : ∀ {S : List gm_I}, gm_nw S → gm_ol S = gm_opn S
  | [], _ => rfl
  | x :: S, h => by
    have h1 := gm_ol_opn h.2
    unfold gm_ol gm_opn
    rw [if_neg h.1, h1]
theorem gm_ol_len : ∀ {S : List gm_I}, (gm_ol S).length ≤ gm_sm gw_c S
  | [] => Nat.le_refl _
  | x :: S => by
    have h1 := gm_ol_len (S := S)
    unfold gm_ol
    simp only [gm_sm]
    split
    · rename_i h; simp only [List.length_cons, gw_c, h]; simp; omega
    · split
      · rename_i h; simp only [List.length_cons, gw_c, h]; simp; omega
      · omega
theorem gm_mo_stm {K V : Nat → Int32} {n : Nat} {E E' : Nat → Option Int32 → Prop} {C C' : gm_K Prop} {p : Nat} {S : List gm_I} {cc lc fc : Nat}
    (h : gm_stm K V n E C p S cc lc fc) (hE : ∀ e w, E e w → E' e w) (hC : ∀ p S lc fc o es lw aw fw, C p S lc fc o es lw aw fw → C' p S lc fc o es lw aw fw) : gm_stm K V n E' C' p S cc lc fc :=
  gm_mono (E := E) (C := C) (x := gi_S) h hE hC
theorem gm_mo_una {K V : Nat → Int32} {n : Nat} {E E' : Nat → Option Int32 → Prop} {C C' : gm_K Prop} {p : Nat} {S : List gm_I} {lc fc : Nat}
    (h : gm_una K V n E C p S lc fc) (hE : ∀ e w, E e w → E' e w) (hC : ∀ p S lc fc o es lw aw fw, C p S lc fc o es lw aw fw → C' p S lc fc o es lw aw fw) : gm_una K V n E' C' p S lc fc :=
  gm_mono (E := E) (C := C) (x := gi_N) (cc := 0) h hE hC
theorem gm_mo_bin {K : Nat → Int32} {n w : Nat} {C C' : gm_K Prop} {p : Nat} {S : List gm_I} {lc fc : Nat}
    (h : gm_bin K n C p w S lc fc) (hC : ∀ p S lc fc o es lw aw fw, C p S lc fc o es lw aw fw → C' p S lc fc o es lw aw fw) : gm_bin K n C' p w S lc fc :=
  gm_mono (V := K) (E := fun _ _ => True) (E' := fun _ _ => True) (C := C) (x := gi_R w) (cc := 0) h (fun _ _ _ => trivial) hC
section
variable {post : Int32 → SX → Prop} {U : SX} {K V : Nat → Int32} {n s p cc lc fc : Nat} {lj : Int32} {A : gm_A} {S : List gm_I}
theorem xg_stm {v : Int32} {q : Nat} (hU : xh U K V n) (hs : s + 3 ≤ 1000000) (hl : (gm_fl S).length + 9 < 960) (hp : p ≤ n) (ho : gm_ol S = gm_opn S) (hol : (gm_ol S).length < 120) (hlc : lc ≤ 2 * p) (hc : cc ≤ 3 * p)
    (H : gm_stm K V n (fun e w => ∀ s', s < s' → s' ≤ s + 3 → xE post U s' e A.2.2.2.2.1 (gu_f A.2.2.2.2.2.2.1 fc w))
      (fun p' S' lc' fc' b es lw aw fw => ∀ s', s < s' → s' ≤ s + 3 → xQ post U s' p' (gm_fl S') (gm_o b p lj) (gm_ol S') (cc + es.length) lc' fc' (gm_up A cc fc p' es lw aw fw)) p S cc lc fc) :
    xQ post U s p ((103, v, q) :: gm_fl S) lj (gm_ol S) cc lc fc A := by
  have hn := hU.2.1
  unfold gm_stm at H
  by_cases h8 : gm_tk K n p = 8
  · rw [if_pos h8] at H
    exact xq_st8 hU (by omega) (by omega) (by omega) h8 (H _ (by omega) (by omega))
  rw [if_neg h8] at H
  by_cases h1 : gm_tk K n p = 1
  · rw [if_pos h1] at H
    have hq := gm_tk_lt h1 (by decide)
    refine xq_st1 hU (by omega) (by omega) hq h1 (xq_tok hU (by omega) (by simp only [List.length_cons]; omega) (by omega) (by decide) (fun (h2 : gm_tk K n (p + 1) = 12) => ?_) (fun (h2 : ¬ gm_tk K n (p + 1) = 12) => ?_))
    · rw [if_pos h2] at H
      exact H _ (by omega) (by omega)
    · rw [if_neg h2] at H
      exact H _ (by omega) (by omega)
  rw [if_neg h1] at H
  by_cases h3 : gm_tk K n p = 3
  · rw [if_pos h3] at H
    have hq := gm_tk_lt h3 (by decide)
    refine xq_st3 hU (by omega) (by omega) hq h3 (xq_tok hU (by omega) (by simp only [List.length_cons]; omega) (by omega) (by decide) (fun (h2 : gm_tk K n (p + 1) = 6) => ?_) (fun (h2 : ¬ gm_tk K n (p + 1) = 6) => ?_))
    · rw [if_pos h2] at H
      exact H _ (by omega) (by omega)
    · rw [if_neg h2] at H
      exact H _ (by omega) (by omega)
  rw [if_neg h3] at H
  by_cases h2 : gm_tk K n p = 2
  · rw [if_pos h2] at H
    have hq := gm_tk_lt h2 (by decide)
    refine xq_st2 hU (by omega) (by omega) hq h2 (xq_tok hU (by omega) (by simp only [List.length_cons]; omega) (by omega) (by decide) (fun (h2 : gm_tk K n (p + 1) = 4) => ?_) (fun (h2 : ¬ gm_tk K n (p + 1) = 4) => ?_))
    · rw [if_pos h2] at H
      exact H _ (by omega) (by omega)
    · rw [if_neg h2] at H
      exact H _ (by omega) (by omega)
  rw [if_neg h2] at H
  by_cases h34 : gm_tk K n p = 34
  · rw [if_pos h34] at H
    have hq := gm_tk_lt h34 (by decide)
    refine xq_st34 hU (by omega) (by omega) (by omega) h34 (xq_tok hU (by omega) (by simp only [List.length_cons]; omega) (by omega) (by decide) (fun (h2 : gm_tk K n (p + 1) = 4) => ?_) (fun (h2 : ¬ gm_tk K n (p + 1) = 4) => ?_))
    · rw [if_pos h2] at H
      exact H _ (by omega) (by omega)
    · rw [if_neg h2] at H
      exact H _ (by omega) (by omega)
  rw [if_neg h34] at H
  by_cases h36 : gm_tk K n p = 36
  · rw [if_pos h36] at H
    have hq := gm_tk_lt h36 (by decide)
    refine xq_st36 hU (by omega) (by omega) (by omega) h36 hol (by omega) (by omega) (xq_tok hU (by omega) (by simp only [List.length_cons]; omega) (by omega) (by decide) (fun (h2 : gm_tk K n (p + 1) = 4) => ?_) (fun (h2 : ¬ gm_tk K n (p + 1) = 4) => ?_))
    · rw [if_pos h2] at H
      exact H _ (by omega) (by omega)
    · rw [if_neg h2] at H
      exact H _ (by omega) (by omega)
  rw [if_neg h36] at H
  by_cases h37 : gm_tk K n p = 37
  · rw [if_pos h37] at H
    have hq := gm_tk_lt h37 (by decide)
    rw [← ho] at H
    have hO : gm_ol (gi_X 10 :: S) = gm_ol S := rfl
    cases e : gm_ol S with
    | nil =>
      rw [e] at H
      have H := H (s + 1) (by omega) (by omega)
      rw [hO, e] at H
      exact xq_st37a (d := 37) hU (by omega) (by omega) (by omega) (Or.inl rfl) h37 H
    | cons a ol =>
      rw [e] at H hol
      have H := H (s + 1) (by omega) (by omega)
      rw [hO, e] at H
      exact xq_st37b (d := 37) (e := 1) hU (by omega) (by omega) (by omega) (Or.inl ⟨rfl, rfl⟩) h37 (by simp only [List.length_cons] at hol; omega) (by omega) H
  rw [if_neg h37] at H
  by_cases h38 : gm_tk K n p = 38
  · rw [if_pos h38] at H
    have hq := gm_tk_lt h38 (by decide)
    rw [← ho] at H
    have hO : gm_ol (gi_X 10 :: S) = gm_ol S := rfl
    cases e : gm_ol S with
    | nil =>
      rw [e] at H
      have H := H (s + 1) (by omega) (by omega)
      rw [hO, e] at H
      exact xq_st37a (d := 38) hU (by omega) (by omega) (by omega) (Or.inr rfl) h38 H
    | cons a ol =>
      rw [e] at H hol
      have H := H (s + 1) (by omega) (by omega)
      rw [hO, e] at H
      exact xq_st37b (d := 38) (e := 0) hU (by omega) (by omega) (by omega) (Or.inr ⟨rfl, rfl⟩) h38 (by simp only [List.length_cons] at hol; omega) (by omega) H
  rw [if_neg h38] at H
  by_cases h39 : gm_tk K n p = 39
  · rw [if_pos h39] at H
    exact xq_st39 (d := 39) hU (by omega) (by omega) (by omega) (Or.inl rfl) h39 (H _ (by omega) (by omega))
  rw [if_neg h39] at H
  by_cases h40 : gm_tk K n p = 40
  · rw [if_pos h40] at H
    exact xq_st39 (d := 40) hU (by omega) (by omega) (by omega) (Or.inr rfl) h40 (H _ (by omega) (by omega))
  rw [if_neg h40] at H
  exact xq_stE hU (by omega) (by omega) (by omega) h8 h1 h3 h2 h34 h36 h37 h38 h39 h40 (H _ (by omega) (by omega))
theorem xg_una {v : Int32} {q : Nat} (hU : xh U K V n) (hs : s + 3 ≤ 1000000) (hl : (gm_fl S).length + 9 < 960) (hp : p ≤ n) (hc : cc ≤ 3 * p)
    (H : gm_una K V n (fun e w => ∀ s', s < s' → s' ≤ s + 3 → xE post U s' e A.2.2.2.2.1 (gu_f A.2.2.2.2.2.2.1 fc w))
      (fun p' S' lc' fc' b es lw aw fw => ∀ s', s < s' → s' ≤ s + 3 → xQ post U s' p' (gm_fl S') (gm_o b p lj) (gm_ol S') (cc + es.length) lc' fc' (gm_up A cc fc p' es lw aw fw)) p S lc fc) :
    xQ post U s p ((108, v, q) :: gm_fl S) lj (gm_ol S) cc lc fc A := by
  have hn := hU.2.1
  unfold gm_una at H
  by_cases h28 : gm_tk K n p = 28
  · rw [if_pos h28] at H
    exact xq_un (d := 28) (e := 50) hU (by omega) (by omega) (gm_tk_lt h28 (by decide)) (Or.inl ⟨rfl, rfl⟩) h28 (H _ (by omega) (by omega))
  rw [if_neg h28] at H
  by_cases h32 : gm_tk K n p = 32
  · rw [if_pos h32] at H
    exact xq_un (d := 32) (e := 32) hU (by omega) (by omega) (gm_tk_lt h32 (by decide)) (Or.inr (Or.inl ⟨rfl, rfl⟩)) h32 (H _ (by omega) (by omega))
  rw [if_neg h32] at H
  by_cases h33 : gm_tk K n p = 33
  · rw [if_pos h33] at H
    exact xq_un (d := 33) (e := 33) hU (by omega) (by omega) (gm_tk_lt h33 (by decide)) (Or.inr (Or.inr ⟨rfl, rfl⟩)) h33 (H _ (by omega) (by omega))
  rw [if_neg h33] at H
  by_cases h0 : gm_tk K n p = 0
  · rw [if_pos h0] at H
    have hq := gm_tk_lt h0 (by decide)
    exact xq_un0 hU (by omega) (by omega) hq (by omega) h0 (H _ (by omega) (by omega))
  rw [if_neg h0] at H
  by_cases h1 : gm_tk K n p = 1
  · rw [if_pos h1] at H
    have hq := gm_tk_lt h1 (by decide)
    exact xq_un1 hU (by omega) (by omega) hq (by omega) h1 (H _ (by omega) (by omega))
  rw [if_neg h1] at H
  by_cases h2 : gm_tk K n p = 2
  · rw [if_pos h2] at H
    have hq := gm_tk_lt h2 (by decide)
    refine xq_un2 hU (by omega) (by omega) hq h2 (xq_tok hU (by omega) (by simp only [List.length_cons]; omega) (by omega) (by decide) (fun (h2 : gm_tk K n (p + 1) = 4) => ?_) (fun (h2 : ¬ gm_tk K n (p + 1) = 4) => ?_))
    · rw [if_pos h2] at H
      exact H _ (by omega) (by omega)
    · rw [if_neg h2] at H
      exact H _ (by omega) (by omega)
  rw [if_neg h2] at H
  by_cases h3 : gm_tk K n p = 3
  · rw [if_pos h3] at H
    have hq := gm_tk_lt h3 (by decide)
    refine xq_un3 hU (by omega) (by omega) hq h3 (xq_tok hU (by omega) (by simp only [List.length_cons]; omega) (by omega) (by decide) (fun (h2 : gm_tk K n (p + 1) = 6) => ?_) (fun (h2 : ¬ gm_tk K n (p + 1) = 6) => ?_))
    · rw [if_pos h2] at H
      exact H _ (by omega) (by omega)
    · rw [if_neg h2] at H
      exact H _ (by omega) (by omega)
  rw [if_neg h3] at H
  by_cases h4 : gm_tk K n p = 4
  · rw [if_pos h4] at H
    exact xq_un4 hU (by omega) (by omega) (gm_tk_lt h4 (by decide)) h4 (H _ (by omega) (by omega))
  rw [if_neg h4] at H
  exact xq_unE hU (by omega) (by omega) (by omega) h28 h32 h33 h0 h1 h2 h3 h4 (H _ (by omega) (by omega))
theorem xg_bin {q w : Nat} (hU : xh U K V n) (hs : s + 3 ≤ 1000000) (hl : (gm_fl S).length + 9 < 960) (hp : p ≤ n) (hc : cc ≤ 3 * p) (hw : 1 ≤ w) (hw' : w ≤ 11)
    (H : gm_bin K n (fun p' S' lc' fc' b es lw aw fw => ∀ s', s < s' → s' ≤ s + 3 → xQ post U s' p' (gm_fl S') (gm_o b p lj) (gm_ol S') (cc + es.length) lc' fc' (gm_up A cc fc p' es lw aw fw)) p w S lc fc) :
    xQ post U s p ((107, nI w, q) :: gm_fl S) lj (gm_ol S) cc lc fc A := by
  have hn := hU.2.1
  unfold gm_bin at H
  by_cases h0 : gm_str (gm_tk K n p) < w
  · rw [if_pos h0] at H
    exact xq_op0 hU (by omega) (by omega) (by omega) hw' h0 (H _ (by omega) (by omega))
  rw [if_neg h0] at H
  by_cases h13 : gm_tk K n p = 13
  · rw [if_pos h13] at H
    have hq := gm_tk_lt h13 (by decide)
    rw [h13, show gm_str 13 = 1 from by decide] at h0
    exact xq_op2 (d := 13) (e := 1) hU (by omega) (by omega) (by omega) (by omega) h13 (Or.inl ⟨rfl, rfl⟩) (by omega) (H _ (by omega) (by omega))
  rw [if_neg h13] at H
  by_cases h14 : gm_tk K n p = 14
  · rw [if_pos h14] at H
    have hq := gm_tk_lt h14 (by decide)
    rw [h14, show gm_str 14 = 2 from by decide] at h0
    exact xq_op2 (d := 14) (e := 2) hU (by omega) (by omega) (by omega) (by omega) h14 (Or.inr ⟨rfl, rfl⟩) (by omega) (H _ (by omega) (by omega))
  rw [if_neg h14] at H
  exact xq_op1 hU (by omega) (by omega) (by omega) hw' h0 hw h13 h14 (H _ (by omega) (by omega))
theorem xg_prg {v : Int32} {q : Nat} (hU : xh U K V n) (hs : s + 5 ≤ 1000000) (hl : (gm_fl S).length + 9 < 960) (hp : p ≤ n) (hf : fc ≤ 4)
    (H : gm_prg K V n (fun e w => ∀ s', s < s' → s' ≤ s + 5 → xE post U s' e A.2.2.2.2.1 (gu_f A.2.2.2.2.2.2.1 fc w))
      (fun p' S' lc' fc' b es lw aw fw => ∀ s', s < s' → s' ≤ s + 5 → xQ post U s' p' (gm_fl S') (gm_o b p lj) (gm_ol S') (cc + es.length) lc' fc' (gm_up A cc fc p' es lw aw fw)) p S lc fc) :
    xQ post U s p ((100, v, q) :: gm_fl S) lj (gm_ol S) cc lc fc A := by
  have hn := hU.2.1
  unfold gm_prg at H
  by_cases h0 : gm_tk K n p = -1 ∧ 0 < fc
  · rw [if_pos h0] at H
    exact xq_100 hU (by omega) (by omega) (by omega) hf (fun _ _ => H _ (by omega) (by omega)) (fun a _ => absurd h0 a) (fun a _ => absurd h0 a)
  rw [if_neg h0] at H
  refine xq_100 hU (by omega) (by omega) (by omega) hf (fun a b => absurd ⟨a, b⟩ h0) (fun _ h4 => ?_) (fun _ h4 => ?_)
  · rw [if_pos h4] at H
    exact H _ (by omega) (by omega)
  rw [if_neg (by omega)] at H
  refine xq_tok hU (by omega) (by simp only [List.length_cons]; omega) (by omega) (by decide) (fun (h1 : gm_tk K n p = 41) => ?_) (fun (h1 : ¬ gm_tk K n p = 41) => ?_)
  · rw [if_pos h1] at H
    have hq := gm_tk_lt h1 (by decide)
    refine xq_101 hU (by omega) (by simp only [List.length_cons]; omega) (by omega) h4 (fun a b c => ?_) (fun a => ?_)
    · rw [if_pos ⟨a, b, c⟩] at H
      have hq := gm_tk_lt a (by decide)
      refine xq_tok hU (by omega) (by simp only [List.length_cons]; omega) (by omega) (by decide) (fun (h1 : gm_tk K n (p + 2) = 8) => ?_) (fun (h1 : ¬ gm_tk K n (p + 2) = 8) => ?_)
      · rw [if_pos h1] at H
        exact H _ (by omega) (by omega)
      · rw [if_neg h1] at H
        exact H _ (by omega) (by omega)
    · rw [if_neg a] at H
      exact H _ (by omega) (by omega)
  · rw [if_neg h1] at H
    exact H _ (by omega) (by omega)
/-- one step of G is one to five turns of the loop -/
theorem xg_d {x : gm_I} (hU : xh U K V n) (hs : s + 5 ≤ 1000000) (ht : gm_tok K V n) (hI : gm_inv K V n p (x :: S) cc lc fc)
    (hA : x.1 = 17 → A.2.2.2.2.1 x.2.1 = nI x.2.2.1)
    (H : gm_d K V n (fun e w => ∀ s', s < s' → s' ≤ s + 5 → xE post U s' e A.2.2.2.2.1 (gu_f A.2.2.2.2.2.2.1 fc w))
      (fun p' S' lc' fc' b es lw aw fw => ∀ s', s < s' → s' ≤ s + 5 → xQ post U s' p' (gm_fl S') (gm_o b p lj) (gm_ol S') (cc + es.length) lc' fc' (gm_up A cc fc p' es lw aw fw)) p x S cc lc fc) :
    xQ post U s p (gm_fl (x :: S)) lj (gm_ol (x :: S)) cc lc fc A := by
  obtain ⟨hn, hli, hsh, hlb, hpl, hva, hfc, _⟩ := hI
  obtain ⟨l1, l2, l3, l4, l5⟩ := hli
  have hn' := hU.2.1
  have hfl := gm_fl_len hva
  have hfS := gm_fl_len hva.2
  have hol := gm_ol_len (S := S)
  have hv := hva.1
  obtain ⟨t, a, b, e, v⟩ := x
  unfold gm_d at H
  dsimp only at *
  have lS : gm_sm gw_p S + gw_p (t, a, b, e, v) ≤ 4 * p + 1 := by simp only [gm_sm] at l3; omega
  have lc' : gm_sm gw_c S ≤ p := by simp only [gm_sm] at l4; omega
  by_cases z : t = 1
  · subst z; rw [if_pos rfl] at H
    show xQ post U s p ((100, 0, 0) :: gm_fl S) lj (gm_ol S) cc lc fc A
    exact xg_prg hU hs (by omega) hn hfc H
  rw [if_neg z] at H
  by_cases z : t = 2
  · subst z; rw [if_pos rfl] at H
    show xQ post U s p ((251, 0, 0) :: (239, 0, 0) :: gm_fl S) lj (gm_ol S) cc lc fc A
    have l1' : cc + 2 ≤ 3 * p := by simp [gm_sm, gw_e] at l1; omega
    exact xq_emit (k := 51) (by omega) (by simp only [List.length_cons]; omega) (by omega) (by decide) (xq_emit (k := 39) (by omega) (by omega) (by omega) (by decide) (H _ (by omega) (by omega)))
  rw [if_neg z] at H
  by_cases z : t = 3
  · subst z; rw [if_pos rfl] at H
    show xQ post U s p ((102, 0, 0) :: (9, 0, 0) :: gm_fl S) lj (gm_ol S) cc lc fc A
    have l1' : cc ≤ 3 * p := by omega
    have lo : gm_sm gw_c S + 1 ≤ p := by simp [gm_sm, gw_c, gm_tb_c] at l4; omega
    by_cases h : gm_tk K n p = 9
    · rw [if_pos h] at H
      exact xq_102 hU (by omega) (by simp only [List.length_cons]; omega) (by omega) (fun _ => xq_tok hU (by omega) (by omega) (by omega) (by decide) (fun _ => H _ (by omega) (by omega)) (fun z => absurd h z)) (fun z => absurd h z)
    · rw [if_neg h] at H
      refine xq_102 hU (by omega) (by simp only [List.length_cons]; omega) (by omega) (fun z => absurd z h) (fun _ => ?_)
      refine xg_stm (S := gi_B :: S) hU (by omega) (by show (gm_fl S).length + 2 + 9 < 960; omega) hn (gm_ol_opn ⟨by decide, hsh.2.1 (by simp)⟩) (by show (gm_ol S).length < 120; omega) l2 l1' ?_
      exact gm_mo_stm H (fun e w a s' b c => a s' (by omega) (by omega)) (fun p S lc fc o es lw aw fw a s' b c => a s' (by omega) (by omega))
  rw [if_neg z] at H
  by_cases z : t = 4
  · subst z; rw [if_pos rfl] at H
    show xQ post U s p ((103, 0, 0) :: gm_fl S) lj (gm_ol S) cc lc fc A
    have l1' : cc ≤ 3 * p := by omega
    have lo : gm_sm gw_c S + 1 ≤ p := by simp [gm_sm, gw_c, gm_tb_c] at l4; omega
    refine xg_stm (S := S) hU (by omega) (by omega) hn (gm_ol_opn (hsh.2.1 (by simp))) (by omega) l2 l1' ?_
    exact gm_mo_stm H (fun e w a s' b c => a s' (by omega) (by omega)) (fun p S lc fc o es lw aw fw a s' b c => a s' (by omega) (by omega))
  rw [if_neg z] at H
  by_cases z : t = 5
  · subst z; rw [if_pos rfl] at H
    show xQ post U s p ((a, 0, 0) :: gm_fl S) lj (gm_ol S) cc lc fc A
    have hv' : a ≤ 41 := by simpa [gm_vl] using hv
    refine xq_tok hU (by omega) (by omega) (by omega) (by omega) (fun h => ?_) (fun h => ?_)
    · rw [if_pos h] at H; exact H _ (by omega) (by omega)
    · rw [if_neg h] at H; exact H _ (by omega) (by omega)
  rw [if_neg z] at H
  by_cases z : t = 6
  · subst z; rw [if_pos rfl] at H
    show xQ post U s p ((259, nI a, 0) :: (103, 0, 0) :: (104, nI a, 0) :: gm_fl S) lj (gm_ol S) cc lc fc A
    have l1' : cc + 2 ≤ 3 * p := by simp [gm_sm, gw_e] at l1; omega
    exact xq_emit (k := 59) (by omega) (by simp only [List.length_cons]; omega) (by omega) (by decide) (H _ (by omega) (by omega))
  rw [if_neg z] at H
  by_cases z : t = 7
  · subst z; rw [if_pos rfl] at H
    show xQ post U s p ((104, nI a, 0) :: gm_fl S) lj (gm_ol S) cc lc fc A
    have l1' : cc + 1 ≤ 3 * p := by simp [gm_sm, gw_e] at l1; omega
    have lb : a + 2 ≤ lc := by simp [gm_lb] at hlb; omega
    refine xq_104 hU (by omega) (by omega) (by omega) (by omega) (by omega) (fun h => ?_) (fun h => ?_)
    · rw [if_pos h] at H; exact H _ (by omega) (by omega)
    · rw [if_neg h] at H; exact H _ (by omega) (by omega)
  rw [if_neg z] at H
  by_cases z : t = 8
  · subst z; rw [if_pos rfl] at H
    show xQ post U s p ((111, nI (a + 1), 0) :: gm_fl S) lj (gm_ol S) cc lc fc A
    have lb : a + 2 ≤ lc := by simp [gm_lb] at hlb; omega
    exact xq_111 (by omega) (by omega) (by omega) (H _ (by omega) (by omega))
  rw [if_neg z] at H
  by_cases z : t = 9
  · subst z; rw [if_pos rfl] at H
    show xQ post U s p ((259, nI (a + 1), 0) :: (103, 0, 0) :: (105, nI a, 0) :: gm_fl S) lj (a :: gm_ol S) cc lc fc A
    have l1' : cc + 2 ≤ 3 * p := by simp [gm_sm, gw_e] at l1; omega
    exact xq_emit (k := 59) (by omega) (by simp only [List.length_cons]; omega) (by omega) (by decide) (H _ (by omega) (by omega))
  rw [if_neg z] at H
  by_cases z : t = 10
  · subst z; rw [if_pos rfl] at H
    show xQ post U s p ((105, nI a, 0) :: gm_fl S) lj (a :: gm_ol S) cc lc fc A
    have l1' : cc + 1 ≤ 3 * p := by simp [gm_sm, gw_e] at l1; omega
    have lb : a + 2 ≤ lc := by simp [gm_lb] at hlb; omega
    have lo : gm_sm gw_c S + 1 ≤ p := by simp [gm_sm, gw_c] at l4; omega
    exact xq_105 (by omega) (by omega) (by omega) (by omega) (by omega) (H _ (by omega) (by omega))
  rw [if_neg z] at H
  by_cases z : t = 11 ∨ t = 19 ∨ t = 20
  · rw [if_pos z] at H
    have l1' : cc + 1 ≤ 3 * p := by rcases z with z | z | z <;> subst z <;> simp [gm_sm, gw_e] at l1 <;> omega
    have la : a < 100 := by
      rcases z with z | z | z <;> subst z <;> simp [gm_vl, gm_ve] at hv <;> omega
    have ef : gm_fl ((t, a, b, e, v) :: S) = (200 + a, v, b) :: gm_fl S := by rcases z with z | z | z <;> subst z <;> rfl
    have eo : gm_ol ((t, a, b, e, v) :: S) = gm_ol S := by rcases z with z | z | z <;> subst z <;> rfl
    rw [ef, eo]
    exact xq_emit (by omega) (by omega) (by omega) la (H _ (by omega) (by omega))
  rw [if_neg z] at H
  by_cases z : t = 12
  · subst z; rw [if_pos rfl] at H
    show xQ post U s p ((106, nI a, 0) :: gm_fl S) lj (gm_ol S) cc lc fc A
    have l1' : cc ≤ 3 * p := by omega
    refine xq_106 (by omega) (by omega) ?_
    refine xg_una (S := gi_R a :: S) hU (by omega) (by show (gm_fl S).length + 1 + 9 < 960; omega) hn l1' ?_
    exact gm_mo_una H (fun e w a s' b c => a s' (by omega) (by omega)) (fun p S lc fc o es lw aw fw a s' b c => a s' (by omega) (by omega))
  rw [if_neg z] at H
  by_cases z : t = 13
  · subst z; rw [if_pos rfl] at H
    show xQ post U s p ((107, nI a, 0) :: gm_fl S) lj (gm_ol S) cc lc fc A
    have l1' : cc ≤ 3 * p := by omega
    have hv' : 1 ≤ a ∧ a ≤ 11 := by simpa [gm_vl] using hv
    refine xg_bin hU (by omega) (by omega) hn l1' hv'.1 hv'.2 ?_
    exact gm_mo_bin H (fun p S lc fc o es lw aw fw a s' b c => a s' (by omega) (by omega))
  rw [if_neg z] at H
  by_cases z : t = 14
  · subst z; rw [if_pos rfl] at H
    show xQ post U s p ((108, 0, 0) :: gm_fl S) lj (gm_ol S) cc lc fc A
    have l1' : cc ≤ 3 * p := by omega
    refine xg_una (S := S) hU (by omega) (by omega) hn l1' ?_
    exact gm_mo_una H (fun e w a s' b c => a s' (by omega) (by omega)) (fun p S lc fc o es lw aw fw a s' b c => a s' (by omega) (by omega))
  rw [if_neg z] at H
  by_cases z : t = 15
  · subst z; rw [if_pos rfl] at H
    show xQ post U s p ((257, 0, b) :: (111, nI a, 0) :: gm_fl S) lj (gm_ol S) cc lc fc A
    have l1' : cc + 1 ≤ 3 * p := by simp [gm_sm, gw_e] at l1; omega
    have lb : a + 2 ≤ lc := by simp [gm_lb] at hlb; omega
    exact xq_emit (k := 57) (by omega) (by simp only [List.length_cons]; omega) (by omega) (by decide) (xq_111 (by omega) (by omega) (by omega) (H _ (by omega) (by omega)))
  rw [if_neg z] at H
  by_cases z : t = 16
  · subst z; rw [if_pos rfl] at H
    show xQ post U s p ((109, 0, a) :: gm_fl S) lj (gm_ol S) cc lc fc A
    have hv' : a < n := by simpa [gm_vl] using hv
    refine xq_109 hU (by omega) (by omega) (by omega) (by omega) (fun h => ?_) (fun h => ?_)
    · rw [if_pos h] at H; exact H _ (by omega) (by omega)
    · rw [if_neg h] at H; exact H _ (by omega) (by omega)
  rw [if_neg z] at H
  by_cases z : t = 17
  · subst z; rw [if_pos rfl] at H
    show xQ post U s p ((110, 0, a) :: gm_fl S) lj (gm_ol S) cc lc fc A
    have hv' : a < n := by simp [gm_vl] at hv; exact hv.1
    refine xq_110 hU (by omega) (by omega) (by omega) (by omega) (hA rfl) (fun h => ?_) (fun h => ?_) (fun h h' => ?_)
    · rw [if_neg (by rw [h]; decide), if_pos h] at H; exact H _ (by omega) (by omega)
    · rw [if_pos h] at H; exact H _ (by omega) (by omega)
    · rw [if_neg h', if_neg h] at H; exact H _ (by omega) (by omega)
  rw [if_neg z] at H
  by_cases z : t = 18
  · subst z; rw [if_pos rfl] at H
    show xQ post U s p ((262, 0, a) :: (263, 0, a) :: (264, v, 0) :: gm_fl S) lj (gm_ol S) cc lc fc A
    have l1' : cc + 3 ≤ 3 * p := by simp [gm_sm, gw_e] at l1; omega
    exact xq_emit (k := 62) (by omega) (by simp only [List.length_cons]; omega) (by omega) (by decide) (xq_emit (k := 63) (by omega) (by simp only [List.length_cons]; omega) (by omega) (by decide) (xq_emit (k := 64) (by omega) (by omega) (by omega) (by decide) (H _ (by omega) (by omega))))
  rw [if_neg z] at H
  exfalso
  unfold gm_vl at hv
  dsimp only at hv
  repeat' split at hv
  all_goals omega
end
end
section
/-! G: argument counts, frames: what a step leaves alone -/
def gm_av (ac : Nat → Int32) : List gm_I → Prop
  | [] => True
  | x :: S => (x.1 = 17 → ac x.2.1 = nI x.2.2.1) ∧ gm_av ac S
theorem gm_av_up {ac : Nat → Int32} {a : Nat} {v : Int32} : ∀ {S : List gm_I} {b : Nat}, gm_pl b S → b ≤ a → gm_av ac S → gm_av (upd ac a v) S
  | [], _, _, _, _ => trivial
  | x :: S, b, h, hb, hv => by
    unfold gm_pl at h
    split at h
    · exact ⟨fun z => (pk_un (by omega)).trans (hv.1 z), gm_av_up h.2 (by omega) hv.2⟩
    · exact ⟨fun z => absurd z (by omega), gm_av_up h hb hv.2⟩
/-- what a step leaves alone: labels, places, and that what it writes is written for good -/
def gm_fr (ac : Nat → Int32) (p lc fc : Nat) (x : gm_I) (S : List gm_I) : gm_K Prop := fun p' S' lc' fc' _ _ lw aw fw =>
  gm_av (gu_l ac aw) S' ∧ lc ≤ lc' ∧ p ≤ p' ∧ (∀ l, l < lc → gm_np l (x :: S) → gm_np l S') ∧ (∀ y, lw = some y → y.1 < lc' ∧ gm_np y.1 S' ∧ (y.1 < lc → ¬ gm_np y.1 (x :: S)))
  ∧ (∀ q, q < p → gm_nq q (x :: S) → gm_nq q S') ∧ (∀ y, aw = some y → y.1 < p ∧ ¬ gm_nq y.1 (x :: S)) ∧ (fw = none → fc' = fc) ∧ (∀ v, fw = some v → fc' = fc + 1)
theorem gf_stm {K V : Nat → Int32} {n p : Nat} {x : gm_I} {S : List gm_I} {cc lc fc : Nat} {ac : Nat → Int32} (hx : ∀ l, gm_np l (x :: S) → gm_np l S) (hx' : ∀ l, gm_nq l (x :: S) → gm_nq l S) (h1 : gm_av ac S) (h2 : gm_lb lc S) :
    gm_stm K V n (fun _ _ => True) (gm_fr ac p lc fc x S) p S cc lc fc := by
  have hl : ∀ l, lc ≤ l → gm_np l S := fun l hl => gm_lb_np h2 hl
  unfold gm_stm
  repeat' split
  all_goals try trivial
  all_goals try (cases hO : gm_opn S)
  all_goals
    simp only [gm_brk, gm_fr, gu_l]
    refine ⟨?_, by omega, by omega, fun l hl hn => ?_, ?_, fun q hq hn => ?_, ?_, ?_, ?_⟩
  all_goals try (simp [gm_av, h1]; done)
  all_goals try (simp [gm_np, hx l hn]; omega)
  all_goals try (simp [gm_np, hx l hn]; done)
  all_goals try (simp [gm_nq, hx' q hn]; omega)
  all_goals try (simp [gm_nq, hx' q hn]; done)
  all_goals try (simp; done)
  all_goals
    intro y hy
    simp only [Option.some.injEq] at hy
    subst hy
    exact ⟨by simp, by simp [gm_np, hl lc (Nat.le_refl _)], fun z => absurd z (by simp)⟩
theorem gf_una {K V : Nat → Int32} {n p : Nat} {x : gm_I} {S : List gm_I} {lc fc : Nat} {ac : Nat → Int32} (hx : ∀ l, gm_np l (x :: S) → gm_np l S) (hx' : ∀ l, gm_nq l (x :: S) → gm_nq l S) (h1 : gm_av ac S) :
    gm_una K V n (fun _ _ => True) (gm_fr ac p lc fc x S) p S lc fc := by
  unfold gm_una
  repeat' split
  all_goals try trivial
  all_goals
    simp only [gm_fr, gu_l]
    refine ⟨?_, by omega, by omega, fun l hl hn => ?_, ?_, fun q hq hn => ?_, ?_, ?_, ?_⟩
  all_goals try (simp [gm_av, h1]; done)
  all_goals try (simp [gm_np, hx l hn]; omega)
  all_goals try (simp [gm_np, hx l hn]; done)
  all_goals try (simp [gm_nq, hx' q hn]; omega)
  all_goals try (simp [gm_nq, hx' q hn]; done)
  all_goals try (simp; done)
theorem gf_bin {K : Nat → Int32} {n p w : Nat} {x : gm_I} {S : List gm_I} {lc fc : Nat} {ac : Nat → Int32} (hx : ∀ l, gm_np l (x :: S) → gm_np l S) (hx' : ∀ l, gm_nq l (x :: S) → gm_nq l S) (h1 : gm_av ac S) :
    gm_bin K n (gm_fr ac p lc fc x S) p w S lc fc := by
  unfold gm_bin
  repeat' split
  all_goals
    simp only [gm_fr, gu_l]
    refine ⟨?_, by omega, by omega, fun l hl hn => ?_, ?_, fun q hq hn => ?_, ?_, ?_, ?_⟩
  all_goals try (simp [gm_av, h1]; done)
  all_goals try (simp [gm_np, hx l hn]; omega)
  all_goals try (simp [gm_np, hx l hn]; done)
  all_goals try (simp [gm_nq, hx' q hn]; omega)
  all_goals try (simp [gm_nq, hx' q hn]; done)
  all_goals try (simp; done)
theorem gf_prg {K V : Nat → Int32} {n p : Nat} {x : gm_I} {S : List gm_I} {lc fc : Nat} {ac : Nat → Int32} (h0 : S = []) :
    gm_prg K V n (fun _ _ => True) (gm_fr ac p lc fc x S) p S lc fc := by
  subst h0
  unfold gm_prg
  repeat' split
  all_goals try trivial
  all_goals
    simp only [gm_fr, gu_l]
    refine ⟨?_, by omega, by omega, fun l hl hn => ?_, ?_, fun q hq hn => ?_, ?_, ?_, ?_⟩
  all_goals simp [gm_av, gm_np, gm_nq]
theorem gf_d {K V : Nat → Int32} {n p : Nat} {x : gm_I} {S : List gm_I} {cc lc fc : Nat} {ac : Nat → Int32} (hsh : gm_sh (x :: S)) (hlb : gm_lb lc (x :: S)) (hpl : gm_pl p (x :: S)) (hav : gm_av ac (x :: S)) :
    gm_d K V n (fun _ _ => True) (gm_fr ac p lc fc x S) p x S cc lc fc := by
  have hx : ∀ l, gm_np l (x :: S) → gm_np l S := fun l h => h.2.2
  have hx' : ∀ l, gm_nq l (x :: S) → gm_nq l S := fun l h => h.2
  have hA := hav.2
  obtain ⟨t, a, b, e, v⟩ := x
  unfold gm_d
  dsimp only at *
  by_cases z : t = 1
  · subst z; rw [if_pos rfl]
    exact gf_prg (hsh.1 rfl)
  rw [if_neg z]
  by_cases z : t = 2
  · subst z; rw [if_pos rfl]
    simp only [gm_fr, gu_l]
    refine ⟨?_, by omega, by omega, fun l hl hn => ?_, ?_, fun q hq hn => ?_, ?_, ?_, ?_⟩
    all_goals first | (simp [gm_av, hA]; done) | (simp_all [gm_np]; done) | (simp_all [gm_nq]; done) | (simp [gm_np] at *; omega) | skip
  rw [if_neg z]
  by_cases z : t = 3
  · subst z; rw [if_pos rfl]
    split
    · simp only [gm_fr, gu_l]
      refine ⟨hA, by omega, by omega, fun l hl hn => hx l hn, by simp, fun q hq hn => hx' q hn, by simp, by simp, by simp⟩
    · have hl3 : gm_lb lc S := by simpa [gm_lb] using hlb
      have H := gf_stm (K := K) (V := V) (n := n) (p := p) (x := (3, a, b, e, v)) (S := gi_B :: S) (cc := cc) (lc := lc) (fc := fc) (ac := ac) (fun l h => h.2.2) (fun l h => h.2) ⟨by simp, hA⟩ (by simpa [gm_lb] using hl3)
      refine gm_mono_stm H ?_
      intro p' S' lc' fc' o es lw aw fw H
      refine ⟨H.1, H.2.1, H.2.2.1, fun l hl hn => H.2.2.2.1 l hl ⟨by simp, by simp, ⟨by simp, by simp, hx l hn⟩⟩, fun y hy => ⟨(H.2.2.2.2.1 y hy).1, (H.2.2.2.2.1 y hy).2.1, fun z hz => (H.2.2.2.2.1 y hy).2.2 z ⟨by simp, by simp, ⟨by simp, by simp, hx _ hz⟩⟩⟩, fun q hq hn => H.2.2.2.2.2.1 q hq ⟨by simp, by simp, hx' q hn⟩, fun y hy => ⟨(H.2.2.2.2.2.2.1 y hy).1, fun hz => (H.2.2.2.2.2.2.1 y hy).2 ⟨by simp, by simp, hx' _ hz⟩⟩, H.2.2.2.2.2.2.2⟩
  rw [if_neg z]
  by_cases z : t = 4
  · subst z; rw [if_pos rfl]
    have hl3 : gm_lb lc S := by simpa [gm_lb] using hlb
    exact gf_stm hx hx' hA hl3
  rw [if_neg z]
  by_cases z : t = 5
  · subst z; rw [if_pos rfl]
    split
    · simp only [gm_fr, gu_l]
      exact ⟨hA, by omega, by omega, fun l hl hn => hx l hn, by simp, fun q hq hn => hx' q hn, by simp, by simp, by simp⟩
    · trivial
  rw [if_neg z]
  by_cases z : t = 6
  · subst z; rw [if_pos rfl]
    simp only [gm_fr, gu_l]
    exact ⟨⟨by simp, by simp, hA⟩, by omega, by omega, fun l hl hn => ⟨by simp, by simp, by simpa [gm_np] using hn⟩, by simp, fun q hq hn => ⟨by simp, by simp, hx' q hn⟩, by simp, by simp, by simp⟩
  rw [if_neg z]
  by_cases z : t = 7
  · subst z; rw [if_pos rfl]
    have h2 : a + 2 ≤ lc ∧ gm_lb a S := by simpa [gm_lb] using hlb
    split
    · simp only [gm_fr, gu_l]
      refine ⟨⟨by simp, by simp, hA⟩, by omega, by omega, fun l hl hn => ⟨by simp, by simp, by simp [gm_np] at hn ⊢; exact hn.2⟩, fun y hy => ?_, fun q hq hn => ⟨by simp, by simp, hx' q hn⟩, by simp, by simp, by simp⟩
      cases hy
      exact ⟨by dsimp only; omega, ⟨by simp, by simp, by simp [gm_np]; exact gm_lb_np h2.2 (Nat.le_refl _)⟩, fun _ hz => by simp [gm_np] at hz⟩
    · simp only [gm_fr, gu_l]
      refine ⟨hA, by omega, by omega, fun l hl hn => hx l hn, fun y hy => ?_, fun q hq hn => hx' q hn, by simp, by simp, by simp⟩
      cases hy
      exact ⟨by dsimp only; omega, gm_lb_np h2.2 (Nat.le_refl _), fun _ hz => by simp [gm_np] at hz⟩
  rw [if_neg z]
  by_cases z : t = 8
  · subst z; rw [if_pos rfl]
    have h2 : a + 2 ≤ lc ∧ gm_lb a S := by simpa [gm_lb] using hlb
    simp only [gm_fr, gu_l]
    refine ⟨hA, by omega, by omega, fun l hl hn => hx l hn, fun y hy => ?_, fun q hq hn => hx' q hn, by simp, by simp, by simp⟩
    cases hy
    exact ⟨by dsimp only; omega, gm_lb_np h2.2 (by dsimp only; omega), fun _ hz => by simp [gm_np] at hz⟩
  rw [if_neg z]
  by_cases z : t = 9
  · subst z; rw [if_pos rfl]
    simp only [gm_fr, gu_l]
    exact ⟨⟨by simp, by simp, hA⟩, by omega, by omega, fun l hl hn => ⟨by simp, by simp, by simpa [gm_np] using hn⟩, by simp, fun q hq hn => ⟨by simp, by simp, hx' q hn⟩, by simp, by simp, by simp⟩
  rw [if_neg z]
  by_cases z : t = 10
  · subst z; rw [if_pos rfl]
    have h2 : a + 2 ≤ lc ∧ gm_lb a S := by simpa [gm_lb] using hlb
    simp only [gm_fr, gu_l]
    refine ⟨hA, by omega, by omega, fun l hl hn => hx l hn, fun y hy => ?_, fun q hq hn => hx' q hn, by simp, by simp, by simp⟩
    cases hy
    exact ⟨by dsimp only; omega, gm_lb_np h2.2 (by dsimp only; omega), fun _ hz => by simp [gm_np] at hz⟩
  rw [if_neg z]
  by_cases z : t = 11 ∨ t = 19 ∨ t = 20
  · rw [if_pos z]
    simp only [gm_fr, gu_l]
    exact ⟨hA, by omega, by omega, fun l hl hn => hx l hn, by simp, fun q hq hn => hx' q hn, by simp, by simp, by simp⟩
  rw [if_neg z]
  by_cases z : t = 12
  · subst z; rw [if_pos rfl]
    have H := gf_una (K := K) (V := V) (n := n) (p := p) (x := gi_R a) (S := gi_R a :: S) (lc := lc) (fc := fc) (ac := ac) (fun l h => h.2.2) (fun l h => h.2) ⟨by simp, hA⟩
    refine gm_mono_una H ?_
    intro p' S' lc' fc' o es lw aw fw H
    refine ⟨H.1, H.2.1, H.2.2.1, fun l hl hn => H.2.2.2.1 l hl ⟨by simp, by simp, ⟨by simp, by simp, hx l hn⟩⟩, fun y hy => ⟨(H.2.2.2.2.1 y hy).1, (H.2.2.2.2.1 y hy).2.1, fun z hz => (H.2.2.2.2.1 y hy).2.2 z ⟨by simp, by simp, ⟨by simp, by simp, hx _ hz⟩⟩⟩, fun q hq hn => H.2.2.2.2.2.1 q hq ⟨by simp, by simp, hx' q hn⟩, fun y hy => ⟨(H.2.2.2.2.2.2.1 y hy).1, fun hz => (H.2.2.2.2.2.2.1 y hy).2 ⟨by simp, by simp, hx' _ hz⟩⟩, H.2.2.2.2.2.2.2⟩
  rw [if_neg z]
  by_cases z : t = 13
  · subst z; rw [if_pos rfl]
    exact gf_bin hx hx' hA
  rw [if_neg z]
  by_cases z : t = 14
  · subst z; rw [if_pos rfl]
    exact gf_una hx hx' hA
  rw [if_neg z]
  by_cases z : t = 15
  · subst z; rw [if_pos rfl]
    have h2 : a + 2 ≤ lc ∧ gm_lb a S := by simpa [gm_lb] using hlb
    simp only [gm_fr, gu_l]
    refine ⟨hA, by omega, by omega, fun l hl hn => hx l hn, fun y hy => ?_, fun q hq hn => hx' q hn, by simp, by simp, by simp⟩
    cases hy
    exact ⟨by dsimp only; omega, gm_lb_np h2.2 (by dsimp only; omega), fun _ hz => by simp [gm_np] at hz⟩
  rw [if_neg z]
  by_cases z : t = 16
  · subst z; rw [if_pos rfl]
    have h2 : a < p ∧ gm_pl a S := by simpa [gm_pl] using hpl
    split
    · simp only [gm_fr, gu_l]
      refine ⟨gm_av_up h2.2 (Nat.le_refl _) hA, by omega, by omega, fun l hl hn => hx l hn, by simp, fun q hq hn => hx' q hn, fun y hy => ?_, by simp, by simp⟩
      cases hy
      exact ⟨h2.1, fun hz => by simp [gm_nq] at hz⟩
    · simp only [gm_fr, gu_l]
      refine ⟨⟨by simp, fun _ => pk_us, gm_av_up h2.2 (Nat.le_refl _) hA⟩, by omega, by omega, fun l hl hn => ⟨by simp, by simp, ⟨by simp, by simp, hx l hn⟩⟩, by simp, fun q hq hn => ⟨by simp, by simpa [gm_nq] using hn⟩, fun y hy => ?_, by simp, by simp⟩
      cases hy
      exact ⟨h2.1, fun hz => by simp [gm_nq] at hz⟩
  rw [if_neg z]
  by_cases z : t = 17
  · subst z; rw [if_pos rfl]
    have h2 : a < p ∧ gm_pl a S := by simpa [gm_pl] using hpl
    repeat' split
    · simp only [gm_fr, gu_l]
      exact ⟨hA, by omega, by omega, fun l hl hn => hx l hn, by simp, fun q hq hn => hx' q hn, by simp, by simp, by simp⟩
    · simp only [gm_fr, gu_l]
      refine ⟨⟨by simp, fun _ => pk_us, gm_av_up h2.2 (Nat.le_refl _) hA⟩, by omega, by omega, fun l hl hn => ⟨by simp, by simp, ⟨by simp, by simp, hx l hn⟩⟩, by simp, fun q hq hn => ⟨by simp, by simpa [gm_nq] using hn⟩, fun y hy => ?_, by simp, by simp⟩
      cases hy
      exact ⟨h2.1, fun hz => by simp [gm_nq] at hz⟩
    · trivial
  rw [if_neg z]
  by_cases z : t = 18
  · subst z; rw [if_pos rfl]
    simp only [gm_fr, gu_l]
    exact ⟨hA, by omega, by omega, fun l hl hn => hx l hn, by simp, fun q hq hn => hx' q hn, by simp, by simp, by simp⟩
  rw [if_neg z]
  trivial
end
section
/-! a run of G to its end leaves a certificate -/
def gm_ag (F : gm_A) (p : Nat) (S : List gm_I) (cc lc fc : Nat) (A : gm_A) : Prop :=
  (∀ k, k < cc → F.1 k = A.1 k ∧ F.2.1 k = A.2.1 k ∧ F.2.2.1 k = A.2.2.1 k) ∧ (∀ l, l < lc → gm_np l S → F.2.2.2.1 l = A.2.2.2.1 l) ∧ (∀ q, q < p → gm_nq q S → F.2.2.2.2.1 q = A.2.2.2.2.1 q)
  ∧ (∀ f, f < fc → F.2.2.2.2.2.1 f = A.2.2.2.2.2.1 f ∧ F.2.2.2.2.2.2.1 f = A.2.2.2.2.2.2.1 f ∧ F.2.2.2.2.2.2.2 f = A.2.2.2.2.2.2.2 f)
theorem gm_out {K V : Nat → Int32} {n p : Nat} {x : gm_I} {S : List gm_I} {cc lc fc : Nat} {P : Prop} (h : gm_d K V n (fun _ _ => False) (fun _ _ _ _ _ _ _ _ _ => P) p x S cc lc fc) : P := by
  rw [gm_eq] at h
  revert h
  generalize gm_v K V n p x S cc lc fc = r
  intro h
  match r, h with
  | Sum.inl (e, w), h => exact h.elim
  | Sum.inr (p, S, lc, fc, o, es, lw, aw, fw), h => exact h
theorem gm_ag_step {F A : gm_A} {p p' cc lc lc' fc fc' : Nat} {x : gm_I} {S S' : List gm_I} {b : Bool} {es : List gm_M} {lw aw : Option (Nat × Nat)} {fw : Option Int32}
    (hf : gm_fr A.2.2.2.2.1 p lc fc x S p' S' lc' fc' b es lw aw fw) (ha : gm_ag F p' S' (cc + es.length) lc' fc' (gm_up A cc fc p' es lw aw fw)) :
    gm_ag F p (x :: S) cc lc fc A ∧ gm_up F cc fc p' es lw none fw = F := by
  obtain ⟨_, f1, f2, f3, f4, f5, f6, f7, f8⟩ := hf
  obtain ⟨a1, a2, a3, a4⟩ := ha
  have hfc : fc ≤ fc' := by
    cases fw with
    | none => exact Nat.le_of_eq (f7 rfl).symm
    | some v => have := f8 v rfl; omega
  refine ⟨⟨fun k hk => ?_, fun l hl hn => ?_, fun q hq hn => ?_, fun f hf => ?_⟩, ?_⟩
  · have h := a1 k (by omega)
    simp only [gm_up, gu_lo _ es _ _ _ hk] at h
    exact h
  · have h := a2 l (by omega) (f3 l hl hn)
    cases lw with
    | none => exact h
    | some y =>
      have hy := f4 y rfl
      have : l ≠ y.1 := fun z => hy.2.2 (z ▸ hl) (z ▸ hn)
      simp only [gm_up, gu_l, pk_un this] at h
      exact h
  · have h := a3 q (by omega) (f5 q hq hn)
    cases aw with
    | none => exact h
    | some y =>
      have hy := f6 y rfl
      have : q ≠ y.1 := fun z => hy.2 (z ▸ hn)
      simp only [gm_up, gu_l, pk_un this] at h
      exact h
  · have h := a4 f (by omega)
    cases fw with
    | none => exact h
    | some v =>
      simp only [gm_up, gu_s, gu_f, pk_un (show f ≠ fc by omega)] at h
      exact h
  · have e1 : gu_k (fun x => nI x.1) F.1 cc es = F.1 := gu_fix _ es F.1 A.1 cc fun j _ h2 => (a1 j h2).1
    have e2 : gu_k (fun x => x.2.1) F.2.1 cc es = F.2.1 := gu_fix _ es F.2.1 A.2.1 cc fun j _ h2 => (a1 j h2).2.1
    have e3 : gu_k (fun x => nI x.2.2) F.2.2.1 cc es = F.2.2.1 := gu_fix _ es F.2.2.1 A.2.2.1 cc fun j _ h2 => (a1 j h2).2.2
    have e4 : gu_l F.2.2.2.1 lw = F.2.2.2.1 := by
      cases lw with
      | none => rfl
      | some y =>
        have hy := f4 y rfl
        have h := a2 y.1 hy.1 hy.2.1
        simp only [gm_up, gu_l, pk_us] at h
        exact gu_fix1 h
    have e5 : gu_s F.2.2.2.2.2.1 fc (nI cc) fw = F.2.2.2.2.2.1 := by
      cases fw with
      | none => rfl
      | some v =>
        have h := (a4 fc (by have := f8 v rfl; omega)).1
        simp only [gm_up, gu_s, pk_us] at h
        exact gu_fix1 h
    have e6 : gu_f F.2.2.2.2.2.2.1 fc fw = F.2.2.2.2.2.2.1 := by
      cases fw with
      | none => rfl
      | some v =>
        have h := (a4 fc (by have := f8 v rfl; omega)).2.1
        simp only [gm_up, gu_f, pk_us] at h
        exact gu_fix1 h
    have e7 : gu_s F.2.2.2.2.2.2.2 fc (nI p') fw = F.2.2.2.2.2.2.2 := by
      cases fw with
      | none => rfl
      | some v =>
        have h := (a4 fc (by have := f8 v rfl; omega)).2.2
        simp only [gm_up, gu_s, pk_us] at h
        exact gu_fix1 h
    unfold gm_up
    rw [e1, e2, e3, e4, e5, e6, e7]
    rfl
theorem gm_o_neg {b : Bool} {p : Nat} {o : Int32} (hp : p < 2 ^ 31) (h : gm_o b p o = -1) : b = false ∧ o = -1 := by
  unfold gm_o at h
  cases b with
  | false => simpa using h
  | true =>
    exfalso
    rw [if_pos rfl] at h
    split at h
    · have := nI_pos' (n := p) hp
      rw [h] at this
      exact absurd this (by decide)
    · rename_i z
      rw [h] at z
      exact z (by decide)
theorem gm_okT {K V : Nat → Int32} {n : Nat} {F : gm_A} {NF : Nat} (ht : gm_tok K V n) (hn : n ≤ 120) : ∀ (m p : Nat) (S : List gm_I) (cc lc fc : Nat) (o : Int32) (A : gm_A), gm_inv K V n p S cc lc fc → gm_av A.2.2.2.2.1 S →
    gm_run K V n (fun _ _ _ => False) (fun _ _ _ fc' o' A' => A' = F ∧ fc' = NF ∧ o' = -1) m p S cc lc fc o A → gm_ok K V n F NF m p S cc lc fc ∧ gm_ag F p S cc lc fc A ∧ o = -1 := by
  intro m
  induction m with
  | zero => intro p S cc lc fc o A _ _ h; exact h.elim
  | succ m ih =>
    intro p S cc lc fc o A hI hA h
    cases S with
    | nil =>
      obtain ⟨rfl, h2, h3⟩ := h
      exact ⟨⟨hI, h2⟩, ⟨fun _ _ => ⟨rfl, rfl, rfl⟩, fun _ _ _ => rfl, fun _ _ _ => rfl, fun _ _ => ⟨rfl, rfl, rfl⟩⟩, h3⟩
    | cons x S =>
      have hp : p < 2 ^ 31 := by have := hI.1; omega
      have h1 := gm_inv_d ht hI
      have h2 := gf_d (K := K) (V := V) (n := n) (cc := cc) (fc := fc) hI.2.2.1 hI.2.2.2.1 hI.2.2.2.2.1 hA
      have h3 := gm_and (E2 := fun _ _ => False) (C2 := fun p' S' lc' fc' b es lw aw fw => gm_fr A.2.2.2.2.1 p lc fc x S p' S' lc' fc' b es lw aw fw ∧ gm_ok K V n F NF m p' S' (cc + es.length) lc' fc' ∧ gm_ag F p' S' (cc + es.length) lc' fc' (gm_up A cc fc p' es lw aw fw) ∧ gm_o b p o = -1)
        h (gm_and (E2 := fun _ _ => True) (C2 := fun p' S' lc' fc' b es lw aw fw => gm_inv K V n p' S' (cc + es.length) lc' fc' ∧ gm_fr A.2.2.2.2.1 p lc fc x S p' S' lc' fc' b es lw aw fw) h1 h2 (fun _ _ _ _ => trivial) (fun p S lc fc b es lw aw fw a c => ⟨a.1, c⟩))
        (fun _ _ a _ => a) (fun p' S' lc' fc' b es lw aw fw a c => ⟨c.2, ih _ _ _ _ _ _ _ c.1 c.2.1 a⟩)
      have h4 : gm_ag F p (x :: S) cc lc fc A ∧ o = -1 := gm_out (gm_mono h3 (fun _ _ a => a) (fun p' S' lc' fc' b es lw aw fw a => ⟨(gm_ag_step a.1 a.2.2.1).1, (gm_o_neg hp a.2.2.2).2⟩))
      refine ⟨⟨hI, ⟨fun z hz => ?_, fun z hz => ?_⟩, gm_mono h3 (fun _ _ a => a) (fun p' S' lc' fc' b es lw aw fw a => ⟨(gm_o_neg hp a.2.2.2).1, (gm_ag_step a.1 a.2.2.1).2, a.2.1⟩)⟩, h4⟩
      · obtain ⟨t, a, b, e, v⟩ := x
        dsimp only at z
        subst z
        unfold gm_d at h3
        simp only [hz] at h3
        have h5 : gm_pl a S := (by simpa [gm_pl] using hI.2.2.2.2.1 : a < p ∧ gm_pl a S).2
        have h5' : a < p := (by simpa [gm_pl] using hI.2.2.2.2.1 : a < p ∧ gm_pl a S).1
        have h6 := h3.2.2.1.2.2.1 a (by omega) (gm_pl_nq h5 (Nat.le_refl _))
        simp only [gm_up, gu_l, pk_us] at h6
        exact h6
      · obtain ⟨t, a, b, e, v⟩ := x
        dsimp only at z
        subst z
        unfold gm_d at h3
        simp only [hz] at h3
        have h5 : gm_pl a S := (by simpa [gm_pl] using hI.2.2.2.2.1 : a < p ∧ gm_pl a S).2
        have h5' : a < p := (by simpa [gm_pl] using hI.2.2.2.2.1 : a < p ∧ gm_pl a S).1
        have h6 := h3.2.2.1.2.2.1 a (by omega) (gm_pl_nq h5 (Nat.le_refl _))
        simp only [gm_up, gu_l] at h6
        exact h6.trans (hA.1 rfl)
end
section
/-! the functions of a certificate -/
def gm_fq (lc fc : Nat) (S : List gm_I) : gm_K Prop := fun _ S' lc' fc' _ es _ _ fw => (fw = none → fc' = fc) ∧ ∀ v, fw = some v → fc' = fc + 1 ∧ S' = gi_B :: gi_F :: gi_P :: S ∧ es = [] ∧ lc' = lc ∧ 0 ≤ v ∧ v ≤ 3
theorem gq_stm {K V : Nat → Int32} {n p : Nat} {S R : List gm_I} {cc lc fc : Nat} : gm_stm K V n (fun _ _ => True) (gm_fq lc fc R) p S cc lc fc := by
  unfold gm_stm
  repeat' split
  all_goals try trivial
  all_goals try (cases hO : gm_opn S)
  all_goals simp [gm_brk, gm_fq]
theorem gq_una {K V : Nat → Int32} {n p : Nat} {S R : List gm_I} {lc fc : Nat} : gm_una K V n (fun _ _ => True) (gm_fq lc fc R) p S lc fc := by
  unfold gm_una
  repeat' split
  all_goals try trivial
  all_goals simp [gm_fq]
theorem gq_bin {K : Nat → Int32} {n p w : Nat} {S R : List gm_I} {lc fc : Nat} : gm_bin K n (gm_fq lc fc R) p w S lc fc := by
  unfold gm_bin
  repeat' split
  all_goals simp [gm_fq]
theorem gq_prg {K V : Nat → Int32} {n p : Nat} {S : List gm_I} {lc fc : Nat} : gm_prg K V n (fun _ _ => True) (gm_fq lc fc S) p S lc fc := by
  unfold gm_prg
  repeat' split
  all_goals try trivial
  · simp [gm_fq]
  · rename_i h _
    simp [gm_fq]
    exact h.2
theorem gq_d {K V : Nat → Int32} {n p : Nat} {x : gm_I} {S : List gm_I} {cc lc fc : Nat} : gm_d K V n (fun _ _ => True) (gm_fq lc fc S) p x S cc lc fc := by
  obtain ⟨t, a, b, e, v⟩ := x
  unfold gm_d
  dsimp only at *
  by_cases z : t = 1
  · subst z; rw [if_pos rfl]
    exact gq_prg
  rw [if_neg z]
  by_cases z : t = 2
  · subst z; rw [if_pos rfl]
    repeat' split
    all_goals first | trivial | simp [gm_fq]
  rw [if_neg z]
  by_cases z : t = 3
  · subst z; rw [if_pos rfl]
    split
    · simp [gm_fq]
    · exact gq_stm
  rw [if_neg z]
  by_cases z : t = 4
  · subst z; rw [if_pos rfl]
    exact gq_stm
  rw [if_neg z]
  by_cases z : t = 5
  · subst z; rw [if_pos rfl]
    repeat' split
    all_goals first | trivial | simp [gm_fq]
  rw [if_neg z]
  by_cases z : t = 6
  · subst z; rw [if_pos rfl]
    repeat' split
    all_goals first | trivial | simp [gm_fq]
  rw [if_neg z]
  by_cases z : t = 7
  · subst z; rw [if_pos rfl]
    repeat' split
    all_goals first | trivial | simp [gm_fq]
  rw [if_neg z]
  by_cases z : t = 8
  · subst z; rw [if_pos rfl]
    repeat' split
    all_goals first | trivial | simp [gm_fq]
  rw [if_neg z]
  by_cases z : t = 9
  · subst z; rw [if_pos rfl]
    repeat' split
    all_goals first | trivial | simp [gm_fq]
  rw [if_neg z]
  by_cases z : t = 10
  · subst z; rw [if_pos rfl]
    repeat' split
    all_goals first | trivial | simp [gm_fq]
  rw [if_neg z]
  by_cases z : t = 11 ∨ t = 19 ∨ t = 20
  · rw [if_pos z]; simp [gm_fq]
  rw [if_neg z]
  by_cases z : t = 12
  · subst z; rw [if_pos rfl]
    exact gq_una
  rw [if_neg z]
  by_cases z : t = 13
  · subst z; rw [if_pos rfl]
    exact gq_bin
  rw [if_neg z]
  by_cases z : t = 14
  · subst z; rw [if_pos rfl]
    exact gq_una
  rw [if_neg z]
  by_cases z : t = 15
  · subst z; rw [if_pos rfl]
    repeat' split
    all_goals first | trivial | simp [gm_fq]
  rw [if_neg z]
  by_cases z : t = 16
  · subst z; rw [if_pos rfl]
    repeat' split
    all_goals first | trivial | simp [gm_fq]
  rw [if_neg z]
  by_cases z : t = 17
  · subst z; rw [if_pos rfl]
    repeat' split
    all_goals first | trivial | simp [gm_fq]
  rw [if_neg z]
  by_cases z : t = 18
  · subst z; rw [if_pos rfl]
    repeat' split
    all_goals first | trivial | simp [gm_fq]
  rw [if_neg z]
  trivial
theorem gm_ok_inv {K V : Nat → Int32} {n : Nat} {F : gm_A} {NF m p : Nat} {S : List gm_I} {cc lc fc : Nat} (h : gm_ok K V n F NF m p S cc lc fc) : gm_inv K V n p S cc lc fc := by
  cases m with
  | zero => exact h.elim
  | succ m => cases S with
    | nil => exact h.1
    | cons x S => exact h.1
theorem gm_fun {K V : Nat → Int32} {n : Nat} {F : gm_A} {NF f : Nat} (hf : f < NF) : ∀ (m p : Nat) (S : List gm_I) (cc lc fc : Nat), gm_ok K V n F NF m p S cc lc fc → fc ≤ f →
    ∃ m' p' cc' lc' v, m' < m ∧ gm_ok K V n F NF m' p' [gi_B, gi_F, gi_P] cc' lc' (f + 1) ∧ F.2.2.2.2.2.2.2 f = nI p' ∧ F.2.2.2.2.2.1 f = nI cc' ∧ F.2.2.2.2.2.2.1 f = v ∧ 0 ≤ v ∧ v ≤ 3 := by
  intro m
  induction m with
  | zero => intro p S cc lc fc h; exact h.elim
  | succ m ih =>
    intro p S cc lc fc h hfc
    cases S with
    | nil => have := h.2; omega
    | cons x S =>
      obtain ⟨hI, _, h⟩ := h
      refine gm_out (gm_and h (gq_d (S := S)) (fun _ _ a _ => a) (fun p' S' lc' fc' b es lw aw fw a c => ?_))
      obtain ⟨_, hu, hok⟩ := a
      obtain ⟨c1, c2⟩ := c
      by_cases hle : fc' ≤ f
      · obtain ⟨m', p1, cc1, lc1, v, h1, h2⟩ := ih _ _ _ _ _ hok hle
        exact ⟨m', p1, cc1, lc1, v, by omega, h2⟩
      · cases fw with
        | none => have := c1 rfl; omega
        | some v =>
          obtain ⟨d1, d2, d3, d4, d5, d6⟩ := c2 v rfl
          have e : fc = f := by omega
          have hS : S = [] := by
            have := gm_ok_inv hok
            rw [d2] at this
            have h3 := this.2.2.1.2.2.2.2.1 rfl
            exact h3
          subst e hS d2 d3 d4 d1
          refine ⟨m, p', cc, lc', v, by omega, hok, ?_, ?_, ?_, d5, d6⟩
          · have := congrArg (fun z : gm_A => z.2.2.2.2.2.2.2 fc) hu
            simp only [gm_up, gu_s, pk_us] at this
            exact this.symm
          · have := congrArg (fun z : gm_A => z.2.2.2.2.2.1 fc) hu
            simp only [gm_up, gu_s, pk_us] at this
            exact this.symm
          · have := congrArg (fun z : gm_A => z.2.2.2.2.2.2.1 fc) hu
            simp only [gm_up, gu_f, pk_us] at this
            exact this.symm
/-! where an error is told -/
theorem ge_stm {K V : Nat → Int32} {n p : Nat} {S : List gm_I} {cc lc fc : Nat} : gm_stm K V n (fun e _ => e ≤ p + 2) (fun _ _ _ _ _ _ _ _ _ => True) p S cc lc fc := by
  unfold gm_stm
  repeat' split
  all_goals first | trivial | omega | (cases gm_opn S <;> trivial)
theorem ge_una {K V : Nat → Int32} {n p : Nat} {S : List gm_I} {lc fc : Nat} : gm_una K V n (fun e _ => e ≤ p + 2) (fun _ _ _ _ _ _ _ _ _ => True) p S lc fc := by
  unfold gm_una
  repeat' split
  all_goals first | trivial | omega
theorem ge_prg {K V : Nat → Int32} {n p : Nat} {S : List gm_I} {lc fc : Nat} : gm_prg K V n (fun e _ => e ≤ p + 2) (fun _ _ _ _ _ _ _ _ _ => True) p S lc fc := by
  unfold gm_prg
  repeat' split
  all_goals first | trivial | omega
theorem ge_bin {K : Nat → Int32} {n p w : Nat} {S : List gm_I} {lc fc : Nat} : gm_bin K n (fun _ _ _ _ _ _ _ _ _ => True) p w S lc fc := by
  unfold gm_bin
  repeat' split
  all_goals trivial
theorem ge_d {K V : Nat → Int32} {n p : Nat} {x : gm_I} {S : List gm_I} {cc lc fc : Nat} : gm_d K V n (fun e _ => e ≤ p + 2) (fun _ _ _ _ _ _ _ _ _ => True) p x S cc lc fc := by
  obtain ⟨t, a, b, e, v⟩ := x
  unfold gm_d
  dsimp only at *
  by_cases z : t = 1
  · subst z; rw [if_pos rfl]
    exact ge_prg
  rw [if_neg z]
  by_cases z : t = 2
  · subst z; rw [if_pos rfl]
    repeat' split
    all_goals first | trivial | omega
  rw [if_neg z]
  by_cases z : t = 3
  · subst z; rw [if_pos rfl]
    split
    · trivial
    · exact ge_stm
  rw [if_neg z]
  by_cases z : t = 4
  · subst z; rw [if_pos rfl]
    exact ge_stm
  rw [if_neg z]
  by_cases z : t = 5
  · subst z; rw [if_pos rfl]
    repeat' split
    all_goals first | trivial | omega
  rw [if_neg z]
  by_cases z : t = 6
  · subst z; rw [if_pos rfl]
    repeat' split
    all_goals first | trivial | omega
  rw [if_neg z]
  by_cases z : t = 7
  · subst z; rw [if_pos rfl]
    repeat' split
    all_goals first | trivial | omega
  rw [if_neg z]
  by_cases z : t = 8
  · subst z; rw [if_pos rfl]
    repeat' split
    all_goals first | trivial | omega
  rw [if_neg z]
  by_cases z : t = 9
  · subst z; rw [if_pos rfl]
    repeat' split
    all_goals first | trivial | omega
  rw [if_neg z]
  by_cases z : t = 10
  · subst z; rw [if_pos rfl]
    repeat' split
    all_goals first | trivial | omega
  rw [if_neg z]
  by_cases z : t = 11 ∨ t = 19 ∨ t = 20
  · rw [if_pos z]; trivial
  rw [if_neg z]
  by_cases z : t = 12
  · subst z; rw [if_pos rfl]
    exact ge_una
  rw [if_neg z]
  by_cases z : t = 13
  · subst z; rw [if_pos rfl]
    exact ge_bin
  rw [if_neg z]
  by_cases z : t = 14
  · subst z; rw [if_pos rfl]
    exact ge_una
  rw [if_neg z]
  by_cases z : t = 15
  · subst z; rw [if_pos rfl]
    repeat' split
    all_goals first | trivial | omega
  rw [if_neg z]
  by_cases z : t = 16
  · subst z; rw [if_pos rfl]
    repeat' split
    all_goals first | trivial | omega
  rw [if_neg z]
  by_cases z : t = 17
  · subst z; rw [if_pos rfl]
    repeat' split
    all_goals first | trivial | omega
  rw [if_neg z]
  by_cases z : t = 18
  · subst z; rw [if_pos rfl]
    repeat' split
    all_goals first | trivial | omega
  rw [if_neg z]
  omega
end
section
/-! X, compile: the whole loop, then judge -/
theorem xe_end {post : Int32 → SX → Prop} {f_tokenCount f_planCount f_next f_wrongToken f_looseJump f_latestPlace f_openLoopCount f_codeCount f_labelCount f_functionCount f_registerCount f_activeCalls f_stackCount f_nextCode f_running f_ending f_endingPlace f_resultValue f_ticksUsed f_printedCount : Int32} {a_tokenKind a_tokenValue a_planKind a_planValue a_planPlace a_argumentCount a_openLoop a_codeKind a_codeValue a_codePlace a_labelTarget a_functionStart a_functionParameters a_register a_frame a_returnTo a_stack a_element a_outputValue : Nat → Int32} {s : Nat} (hs : s ≤ 1000000) (h : f_planCount ≤ 0 ∨ 0 ≤ f_wrongToken) (H : wX_compile_73 post f_tokenCount f_planCount f_next f_wrongToken f_looseJump f_latestPlace f_openLoopCount f_codeCount f_labelCount f_functionCount f_registerCount f_activeCalls f_stackCount f_nextCode f_running f_ending f_endingPlace f_resultValue f_ticksUsed f_printedCount a_tokenKind a_tokenValue a_planKind a_planValue a_planPlace a_argumentCount a_openLoop a_codeKind a_codeValue a_codePlace a_labelTarget a_functionStart a_functionParameters a_register a_frame a_returnTo a_stack a_element a_outputValue) : xL post s (f_tokenCount, f_planCount, f_next, f_wrongToken, f_looseJump, f_latestPlace, f_openLoopCount, f_codeCount, f_labelCount, f_functionCount, f_registerCount, f_activeCalls, f_stackCount, f_nextCode, f_running, f_ending, f_endingPlace, f_resultValue, f_ticksUsed, f_printedCount, a_tokenKind, a_tokenValue, a_planKind, a_planValue, a_planPlace, a_argumentCount, a_openLoop, a_codeKind, a_codeValue, a_codePlace, a_labelTarget, a_functionStart, a_functionParameters, a_register, a_frame, a_returnTo, a_stack, a_element, a_outputValue) := by
  intro m hm
  obtain ⟨m, rfl⟩ : ∃ m', m = m' + 1 := ⟨m - 1, by omega⟩
  refine br_c (fun _ => H) (fun _ => ?_)
  refine br_c (fun _ => H) (fun z => ?_)
  rcases h with h | h
  · exact absurd h z
  · exact br_t h H
theorem xc_run {post : Int32 → SX → Prop} {U : SX} {K V : Nat → Int32} {n : Nat} (hU : xh U K V n) (ht : gm_tok K V n)
    {E : Nat → (Nat → Int32) → (Nat → Int32) → Prop} {D : Nat → Nat → Nat → Nat → Int32 → gm_A → Prop}
    (hE : ∀ e ac fp, E e ac fp → ∀ s, s ≤ 1000000 → xE post U s e ac fp) (hD : ∀ p cc lc fc o A, D p cc lc fc o A → ∀ s, s ≤ 1000000 → xQ post U s p [] o [] cc lc fc A) :
    ∀ (m s p : Nat) (S : List gm_I) (cc lc fc : Nat) (o : Int32) (A : gm_A), s + 5 * m ≤ 1000000 → gm_inv K V n p S cc lc fc → gm_av A.2.2.2.2.1 S → gm_run K V n E D m p S cc lc fc o A →
      xQ post U s p (gm_fl S) o (gm_ol S) cc lc fc A := by
  intro m
  induction m with
  | zero => intro s p S cc lc fc o A _ _ _ h; exact h.elim
  | succ m ih =>
    intro s p S cc lc fc o A hs hI hA h
    cases S with
    | nil => exact hD _ _ _ _ _ _ h s (by omega)
    | cons x S =>
      have h1 := gm_inv_d ht hI
      have h2 := gf_d (K := K) (V := V) (n := n) (cc := cc) (fc := fc) hI.2.2.1 hI.2.2.2.1 hI.2.2.2.2.1 hA
      refine xg_d hU (by omega) ht hI hA.1 ?_
      refine gm_and h (gm_and (E2 := fun _ _ => True) (C2 := fun p' S' lc' fc' b es lw aw fw => gm_inv K V n p' S' (cc + es.length) lc' fc' ∧ gm_av (gu_l A.2.2.2.2.1 aw) S') h1 h2 (fun _ _ _ _ => trivial) (fun p S lc fc b es lw aw fw a c => ⟨a.1, c.1⟩)) ?_ ?_
      · intro e w a _ s' h3 h4
        exact hE _ _ _ a s' (by omega)
      · intro p' S' lc' fc' b es lw aw fw a c s' h3 h4
        exact ih s' p' S' _ _ _ _ _ (by omega) c.1 c.2 a
theorem gm_inv0 (K V : Nat → Int32) (n : Nat) : gm_inv K V n 0 [gi_P] 0 0 0 := by
  simp [gm_inv, gm_lin, gm_sh, gm_nw, gm_s2, gm_sl, gm_hd_n, gm_hd_c, gm_lb, gm_pl, gm_va, gm_vl, gm_sm, gw_e, gw_p, gw_c, gw_a, gw_b, gm_tb]
/-- G comes to its end within its measure -/
theorem gm_fin {K V : Nat → Int32} {n : Nat} (ht : gm_tok K V n) (hn : n ≤ 120) : ∀ (m p : Nat) (S : List gm_I) (cc lc fc : Nat) (o : Int32) (A : gm_A), gm_inv K V n p S cc lc fc → gm_sm gw_m S + 3 * (n - p) < m → (o = -1 ∨ 0 ≤ o) →
    (∃ e ac fp, e ≤ n + 2 ∧ ∀ E D, E e ac fp → gm_run K V n E D m p S cc lc fc o A) ∨ (∃ p' cc' lc' fc' o' A', (o' = -1 ∨ 0 ≤ o') ∧ fc' ≤ 4 ∧ ∀ E D, D p' cc' lc' fc' o' A' → gm_run K V n E D m p S cc lc fc o A) := by
  intro m
  induction m with
  | zero => intro p S cc lc fc o A _ h; omega
  | succ m ih =>
    intro p S cc lc fc o A hI hm ho
    cases S with
    | nil => exact Or.inr ⟨p, cc, lc, fc, o, A, ho, hI.2.2.2.2.2.2.1, fun E D h => h⟩
    | cons x S =>
      have h1 := gm_and (E2 := fun e _ => e ≤ p + 2) (ge_d (cc := cc) (lc := lc) (fc := fc)) (gm_inv_d ht hI) (fun _ _ a _ => a) (fun _ _ _ _ _ _ _ _ _ _ c => c)
      have hp := hI.1
      have hO : ∀ b, (gm_o b p o = -1 ∨ 0 ≤ gm_o b p o) := by
        intro b
        unfold gm_o
        repeat' split
        · exact Or.inr (nI_pos' (by omega))
        · exact ho
        · exact ho
      simp only [gm_run, gm_eq K V n _ _ p x S cc lc fc] at h1 ⊢
      revert h1
      generalize gm_v K V n p x S cc lc fc = r
      intro h1
      match r, h1 with
      | Sum.inl (e, w), h1 => exact Or.inl ⟨e, _, _, by have : e ≤ p + 2 := h1; omega, fun E D h => h⟩
      | Sum.inr (p', S', lc', fc', b, es, lw, aw, fw), h1 =>
        exact ih p' S' _ _ _ _ _ h1.1 (by have := h1.2.2.1; omega) (hO b)
theorem xm_start {post : SX → Prop} {f_tokenCount f_planCount f_next f_wrongToken f_looseJump f_latestPlace f_openLoopCount f_codeCount f_labelCount f_functionCount f_registerCount f_activeCalls f_stackCount f_nextCode f_running f_ending f_endingPlace f_resultValue f_ticksUsed f_printedCount : Int32} {a_tokenKind a_tokenValue a_planKind a_planValue a_planPlace a_argumentCount a_openLoop a_codeKind a_codeValue a_codePlace a_labelTarget a_functionStart a_functionParameters a_register a_frame a_returnTo a_stack a_element a_outputValue : Nat → Int32} (H : ∀ pk pv pp, xp_Pd pk pv pp [(100, 0, 0)] → post (f_tokenCount, nI 1, nI 0, -1, -1, f_latestPlace, nI 0, nI 0, nI 0, nI 0, f_registerCount, f_activeCalls, f_stackCount, f_nextCode, f_running, f_ending, f_endingPlace, f_resultValue, f_ticksUsed, f_printedCount, a_tokenKind, a_tokenValue, pk, pv, pp, a_argumentCount, a_openLoop, a_codeKind, a_codeValue, a_codePlace, a_labelTarget, a_functionStart, a_functionParameters, a_register, a_frame, a_returnTo, a_stack, a_element, a_outputValue)) : wpX_startParse post (f_tokenCount, f_planCount, f_next, f_wrongToken, f_looseJump, f_latestPlace, f_openLoopCount, f_codeCount, f_labelCount, f_functionCount, f_registerCount, f_activeCalls, f_stackCount, f_nextCode, f_running, f_ending, f_endingPlace, f_resultValue, f_ticksUsed, f_printedCount, a_tokenKind, a_tokenValue, a_planKind, a_planValue, a_planPlace, a_argumentCount, a_openLoop, a_codeKind, a_codeValue, a_codePlace, a_labelTarget, a_functionStart, a_functionParameters, a_register, a_frame, a_returnTo, a_stack, a_element, a_outputValue) := by
  unfold wpX_startParse
  exact xm_plan (P := []) 100 0 0 rfl (by decide) trivial H
end
section
/-! Y: the todo stack as a list; the small methods -/
def yp_Td (td : Nat → Int32) : List Nat → Prop
  | [] => True
  | e :: T => td T.length = nI e ∧ yp_Td td T
theorem yp_Td_up {td : Nat → Int32} {k : Nat} {a : Int32} : ∀ {T : List Nat}, yp_Td td T → T.length ≤ k → yp_Td (upd td k a) T
  | [], _, _ => trivial
  | x :: l, h, hk => by
    have h1 : l.length + 1 ≤ k := hk
    have h2 : l.length ≠ k := by omega
    exact ⟨(pk_un h2).trans h.1, yp_Td_up h.2 (by omega)⟩
theorem yp_or (a b : Nat) : nI a ||| nI b = nI (a ||| b) := by
  apply Int32.toBitVec_inj.mp
  apply BitVec.eq_of_toNat_eq
  rw [Int32.toBitVec_or, BitVec.toNat_or]
  show a % 2 ^ 32 ||| b % 2 ^ 32 = (a ||| b) % 2 ^ 32
  exact (Nat.or_mod_two_pow).symm
theorem yp_or2 {a b i : Nat} (h : a < 2 ^ i) : a ||| b * 2 ^ i = a + b * 2 ^ i := by
  rw [Nat.or_comm, ← Nat.shiftLeft_eq, ← Nat.shiftLeft_add_eq_or_of_lt h, Nat.add_comm]
theorem yp_enc {a b h : Nat} (ha : a < 32) (hb : b < 1024) (hh : h < 1024) :
    (nI a ||| (nI b <<< ((5 : Int32) &&& 31))) ||| (nI h <<< ((15 : Int32) &&& 31)) = nI (a + 32 * b + 32768 * h) := by
  rw [pk_shlN ((5 : Int32) &&& 31) 5 (by decide) (by omega), pk_shlN ((15 : Int32) &&& 31) 15 (by decide) (by omega), yp_or, yp_or]
  rw [yp_or2 (i := 5) (by omega), yp_or2 (i := 15) (by omega)]
  exact congrArg nI (by omega)
theorem yp_dec {a b h : Nat} (ha : a < 32) (hb : b < 1024) (hh : h < 1024) :
    nI (a + 32 * b + 32768 * h) &&& 31 = nI a ∧ (nI (a + 32 * b + 32768 * h) >>> ((5 : Int32) &&& 31)) &&& 1023 = nI b ∧ nI (a + 32 * b + 32768 * h) >>> ((15 : Int32) &&& 31) = nI h := by
  refine ⟨?_, ?_, ?_⟩
  · rw [pk_andN (by omega) 5 (by decide)]
    exact congrArg nI (by omega)
  · rw [pk_shrN (by omega) _ 5 (by decide), pk_andN (by omega) 10 (by decide)]
    exact congrArg nI (by omega)
  · rw [pk_shrN (by omega) _ 15 (by decide)]
    exact congrArg nI (by omega)
theorem ym_then {post : SY → Prop} {f_count f_place f_length f_functions f_loaded f_loops f_outside f_tt f_vt f_pos f_bad f_checking f_live f_pending f_carry f_active f_ticks f_status f_result f_endedAt f_used f_printed : Int32} {a_kind a_value a_code a_number a_given a_begins a_params a_todo a_val a_vars a_output a_memory : Nat → Int32} {T : List Nat} {h : Nat} (a b : Nat) (ha : a < 32) (hb : b < 1024) (hv : f_vt = nI h) (hh : h < 1024) (ht : f_tt = nI T.length) (hT : T.length < 1300) (hd : yp_Td a_todo T)
    (H : ∀ td, yp_Td td ((a + 32 * b + 32768 * h) :: T) → post (f_count, f_place, f_length, f_functions, f_loaded, f_loops, f_outside, nI ((a + 32 * b + 32768 * h) :: T).length, f_vt, f_pos, f_bad, f_checking, f_live, f_pending, f_carry, f_active, f_ticks, f_status, f_result, f_endedAt, f_used, f_printed, a_kind, a_value, a_code, a_number, a_given, a_begins, a_params, td, a_val, a_vars, a_output, a_memory)) : wpY_then post (f_count, f_place, f_length, f_functions, f_loaded, f_loops, f_outside, f_tt, f_vt, f_pos, f_bad, f_checking, f_live, f_pending, f_carry, f_active, f_ticks, f_status, f_result, f_endedAt, f_used, f_printed, a_kind, a_value, a_code, a_number, a_given, a_begins, a_params, a_todo, a_val, a_vars, a_output, a_memory) (nI a) (nI b) := by
  subst hv ht
  have h3 : (nI T.length).toNatClampNeg = T.length := nI_clamp (by omega)
  refine nm_r (nI_1 _) ⟨vp_in_nI hT (by decide), nm_r (by rw [h3, yp_enc ha hb hh]) ?_⟩
  exact H _ ⟨pk_us, yp_Td_up hd (Nat.le_refl _)⟩
theorem ym_tok {post : Int32 → Prop} {f_count f_place f_length f_functions f_loaded f_loops f_outside f_tt f_vt f_pos f_bad f_checking f_live f_pending f_carry f_active f_ticks f_status f_result f_endedAt f_used f_printed : Int32} {a_kind a_value a_code a_number a_given a_begins a_params a_todo a_val a_vars a_output a_memory : Nat → Int32} {n p : Nat} (hx : f_pos = nI p) (hn : f_length = nI n) (hn' : n ≤ 120) (hp : p ≤ 120) (H : post (gm_tk a_code n p)) : wpY_tok post (f_count, f_place, f_length, f_functions, f_loaded, f_loops, f_outside, f_tt, f_vt, f_pos, f_bad, f_checking, f_live, f_pending, f_carry, f_active, f_ticks, f_status, f_result, f_endedAt, f_used, f_printed, a_kind, a_value, a_code, a_number, a_given, a_begins, a_params, a_todo, a_val, a_vars, a_output, a_memory) := by
  subst hx hn
  refine pk_le n p (fun h => ?_) (fun h => ?_)
  · rwa [show gm_tk a_code n p = -1 from if_neg (by omega)] at H
  · rw [show gm_tk a_code n p = a_code p from if_pos h] at H
    refine ⟨vp_in_nI (by omega) (by decide), ?_⟩
    rw [nI_clamp (by omega)]
    exact H
theorem ym_take {post : Int32 → SY → Prop} {f_count f_place f_length f_functions f_loaded f_loops f_outside f_tt f_vt f_pos f_bad f_checking f_live f_pending f_carry f_active f_ticks f_status f_result f_endedAt f_used f_printed : Int32} {a_kind a_value a_code a_number a_given a_begins a_params a_todo a_val a_vars a_output a_memory : Nat → Int32} {n p : Nat} (k : Int32) (hx : f_pos = nI p) (hn : f_length = nI n) (hn' : n ≤ 120) (hp : p ≤ 120) (hb : f_bad = 0)
    (H1 : gm_tk a_code n p = k → post 1 (f_count, f_place, f_length, f_functions, f_loaded, f_loops, f_outside, f_tt, f_vt, nI (p + 1), f_bad, f_checking, f_live, f_pending, f_carry, f_active, f_ticks, f_status, f_result, f_endedAt, f_used, f_printed, a_kind, a_value, a_code, a_number, a_given, a_begins, a_params, a_todo, a_val, a_vars, a_output, a_memory)) (H2 : ¬ gm_tk a_code n p = k → post 0 (f_count, f_place, f_length, f_functions, f_loaded, f_loops, f_outside, f_tt, f_vt, f_pos, 1, f_checking, f_live, f_pending, f_carry, f_active, f_ticks, f_status, f_result, f_endedAt, f_used, f_printed, a_kind, a_value, a_code, a_number, a_given, a_begins, a_params, a_todo, a_val, a_vars, a_output, a_memory)) : wpY_take post (f_count, f_place, f_length, f_functions, f_loaded, f_loops, f_outside, f_tt, f_vt, f_pos, f_bad, f_checking, f_live, f_pending, f_carry, f_active, f_ticks, f_status, f_result, f_endedAt, f_used, f_printed, a_kind, a_value, a_code, a_number, a_given, a_begins, a_params, a_todo, a_val, a_vars, a_output, a_memory) k := by
  refine br_t hb (ym_tok hx hn hn' hp (br_c (fun h => ?_) (fun h => H2 h)))
  subst hx
  exact nm_r (nI_1 _) (H1 h)
end
section
/-! Y, not live: statement, a theorem a token -/
abbrev yp_n (a b h : Nat) : Nat := a + 32 * b + 32768 * h
theorem ym_st8 {post : SY → Prop} {f_count f_place f_length f_functions f_loaded f_loops f_outside f_tt f_vt f_pos f_bad f_checking f_live f_pending f_carry f_active f_ticks f_status f_result f_endedAt f_used f_printed : Int32} {a_kind a_value a_code a_number a_given a_begins a_params a_todo a_val a_vars a_output a_memory : Nat → Int32} {n p h : Nat} {T : List Nat} (hx : f_pos = nI p) (hn : f_length = nI n) (hn' : n ≤ 120) (hp : p ≤ 120) (hb : f_bad = 0) (hv : f_vt = nI h) (hh : h < 1024) (ht : f_tt = nI T.length) (hd : yp_Td a_todo T) (hl : T.length + 8 < 1300) (h1 : gm_tk a_code n p = 8) (H : ∀ td, yp_Td td (yp_n 2 0 h :: T) → post (f_count, f_place, f_length, f_functions, f_loaded, f_loops, f_outside, nI (yp_n 2 0 h :: T).length, f_vt, nI (p + 1), f_bad, f_checking, f_live, f_pending, f_carry, f_active, f_ticks, f_status, f_result, f_endedAt, f_used, f_printed, a_kind, a_value, a_code, a_number, a_given, a_begins, a_params, td, a_val, a_vars, a_output, a_memory)) : wpY_statement post (f_count, f_place, f_length, f_functions, f_loaded, f_loops, f_outside, f_tt, f_vt, f_pos, f_bad, f_checking, f_live, f_pending, f_carry, f_active, f_ticks, f_status, f_result, f_endedAt, f_used, f_printed, a_kind, a_value, a_code, a_number, a_given, a_begins, a_params, a_todo, a_val, a_vars, a_output, a_memory) := by
  unfold wpY_statement
  refine ym_tok hx hn hn' hp ?_
  rw [h1]
  refine nm_r ((congrArg (· + 1) hx).trans (nI_1 _)) (br_f (by decide) (br_f (by decide) (br_f (by decide) (br_f (by decide) (br_f (by decide) (br_f (by decide) (br_f (by decide) (br_f (by decide) (br_f (by decide) (br_t (by decide) (?_)))))))))))
  exact ym_then 2 0 (by decide) (by decide) hv hh ht (by omega) hd H
theorem ym_st1 {post : SY → Prop} {f_count f_place f_length f_functions f_loaded f_loops f_outside f_tt f_vt f_pos f_bad f_checking f_live f_pending f_carry f_active f_ticks f_status f_result f_endedAt f_used f_printed : Int32} {a_kind a_value a_code a_number a_given a_begins a_params a_todo a_val a_vars a_output a_memory : Nat → Int32} {n p h : Nat} {T : List Nat} (hx : f_pos = nI p) (hn : f_length = nI n) (hn' : n ≤ 120) (hp : p ≤ 120) (hb : f_bad = 0) (hv : f_vt = nI h) (hh : h < 1024) (ht : f_tt = nI T.length) (hd : yp_Td a_todo T) {u : Nat} (hl : T.length + 8 < 1300) (h1 : gm_tk a_code n p = 1) (hp' : p < n) (hu : a_number p = nI u) (hu' : u ≤ 5)
    (H1 : gm_tk a_code n (p + 1) = 12 → ∀ td, yp_Td td (yp_n 16 0 h :: yp_n 13 u h :: yp_n 4 10 h :: T) → post (f_count, f_place, f_length, f_functions, f_loaded, f_loops, f_outside, nI (yp_n 16 0 h :: yp_n 13 u h :: yp_n 4 10 h :: T).length, f_vt, nI (p + 2), f_bad, f_checking, f_live, f_pending, f_carry, f_active, f_ticks, f_status, f_result, f_endedAt, f_used, f_printed, a_kind, a_value, a_code, a_number, a_given, a_begins, a_params, td, a_val, a_vars, a_output, a_memory)) (H2 : ¬ gm_tk a_code n (p + 1) = 12 → ∀ tt td, post (f_count, f_place, f_length, f_functions, f_loaded, f_loops, f_outside, tt, f_vt, nI (p + 1), 1, f_checking, f_live, f_pending, f_carry, f_active, f_ticks, f_status, f_result, f_endedAt, f_used, f_printed, a_kind, a_value, a_code, a_number, a_given, a_begins, a_params, td, a_val, a_vars, a_output, a_memory)) : wpY_statement post (f_count, f_place, f_length, f_functions, f_loaded, f_loops, f_outside, f_tt, f_vt, f_pos, f_bad, f_checking, f_live, f_pending, f_carry, f_active, f_ticks, f_status, f_result, f_endedAt, f_used, f_printed, a_kind, a_value, a_code, a_number, a_given, a_begins, a_params, a_todo, a_val, a_vars, a_output, a_memory) := by
  unfold wpY_statement
  refine ym_tok hx hn hn' hp ?_
  rw [h1]
  refine nm_r ((congrArg (· + 1) hx).trans (nI_1 _)) (br_f (by decide) (br_f (by decide) (br_t (by decide) (?_))))
  refine ym_then 4 10 (by decide) (by decide) hv hh ht (by omega) hd fun td hd => ?_
  have e : f_pos.toNatClampNeg = p := by rw [hx, nI_clamp (by omega)]
  refine ⟨by rw [hx]; exact vp_in_nI (by omega) (by decide), ?_⟩
  rw [e, hu]
  refine ym_then 13 u (by decide) (by omega) hv hh rfl (by simp only [List.length_cons]; omega) hd fun td hd => ?_
  refine ym_then 16 0 (by decide) (by decide) hv hh rfl (by simp only [List.length_cons]; omega) hd fun td hd => ?_
  exact ym_take 12 rfl hn hn' (by omega) hb (fun z => H1 z _ hd) (fun z => H2 z _ _)
theorem ym_st2 {post : SY → Prop} {f_count f_place f_length f_functions f_loaded f_loops f_outside f_tt f_vt f_pos f_bad f_checking f_live f_pending f_carry f_active f_ticks f_status f_result f_endedAt f_used f_printed : Int32} {a_kind a_value a_code a_number a_given a_begins a_params a_todo a_val a_vars a_output a_memory : Nat → Int32} {n p h : Nat} {T : List Nat} (hx : f_pos = nI p) (hn : f_length = nI n) (hn' : n ≤ 120) (hp : p ≤ 120) (hb : f_bad = 0) (hv : f_vt = nI h) (hh : h < 1024) (ht : f_tt = nI T.length) (hd : yp_Td a_todo T) (hl : T.length + 8 < 1300) (h1 : gm_tk a_code n p = 2) (hp' : p < n)
    (H1 : gm_tk a_code n (p + 1) = 4 → ∀ td, yp_Td td (yp_n 23 p h :: yp_n 25 p h :: yp_n 15 0 h :: yp_n 4 10 h :: T) → post (f_count, f_place, f_length, f_functions, f_loaded, f_loops, f_outside, nI (yp_n 23 p h :: yp_n 25 p h :: yp_n 15 0 h :: yp_n 4 10 h :: T).length, f_vt, nI (p + 2), f_bad, f_checking, f_live, f_pending, f_carry, f_active, f_ticks, f_status, f_result, f_endedAt, f_used, f_printed, a_kind, a_value, a_code, a_number, a_given, a_begins, a_params, td, a_val, a_vars, a_output, a_memory)) (H2 : ¬ gm_tk a_code n (p + 1) = 4 → ∀ tt td, post (f_count, f_place, f_length, f_functions, f_loaded, f_loops, f_outside, tt, f_vt, nI (p + 1), 1, f_checking, f_live, f_pending, f_carry, f_active, f_ticks, f_status, f_result, f_endedAt, f_used, f_printed, a_kind, a_value, a_code, a_number, a_given, a_begins, a_params, td, a_val, a_vars, a_output, a_memory)) : wpY_statement post (f_count, f_place, f_length, f_functions, f_loaded, f_loops, f_outside, f_tt, f_vt, f_pos, f_bad, f_checking, f_live, f_pending, f_carry, f_active, f_ticks, f_status, f_result, f_endedAt, f_used, f_printed, a_kind, a_value, a_code, a_number, a_given, a_begins, a_params, a_todo, a_val, a_vars, a_output, a_memory) := by
  unfold wpY_statement
  refine ym_tok hx hn hn' hp ?_
  rw [h1]
  refine nm_r ((congrArg (· + 1) hx).trans (nI_1 _)) (br_f (by decide) (br_f (by decide) (br_f (by decide) (br_t (by decide) (?_)))))
  refine ym_then 4 10 (by decide) (by decide) hv hh ht (by omega) hd fun td hd => ?_
  refine ym_then 15 0 (by decide) (by decide) hv hh rfl (by simp only [List.length_cons]; omega) hd fun td hd => ?_
  subst hx
  unfold wpY_call
  refine ym_then 25 p (by decide) (by omega) hv hh rfl (by simp only [List.length_cons]; omega) hd fun td hd => ?_
  refine ym_then 23 p (by decide) (by omega) hv hh rfl (by simp only [List.length_cons]; omega) hd fun td hd => ?_
  exact ym_take 4 rfl hn hn' (by omega) hb (fun z => H1 z _ hd) (fun z => H2 z _ _)
theorem ym_st3 {post : SY → Prop} {f_count f_place f_length f_functions f_loaded f_loops f_outside f_tt f_vt f_pos f_bad f_checking f_live f_pending f_carry f_active f_ticks f_status f_result f_endedAt f_used f_printed : Int32} {a_kind a_value a_code a_number a_given a_begins a_params a_todo a_val a_vars a_output a_memory : Nat → Int32} {n p h : Nat} {T : List Nat} (hx : f_pos = nI p) (hn : f_length = nI n) (hn' : n ≤ 120) (hp : p ≤ 120) (hb : f_bad = 0) (hv : f_vt = nI h) (hh : h < 1024) (ht : f_tt = nI T.length) (hd : yp_Td a_todo T) (hl : T.length + 8 < 1300) (h1 : gm_tk a_code n p = 3) (hp' : p < n)
    (H1 : gm_tk a_code n (p + 1) = 6 → ∀ td, yp_Td td (yp_n 16 0 h :: yp_n 4 7 h :: yp_n 4 12 h :: yp_n 16 0 h :: yp_n 14 p h :: yp_n 4 10 h :: T) → post (f_count, f_place, f_length, f_functions, f_loaded, f_loops, f_outside, nI (yp_n 16 0 h :: yp_n 4 7 h :: yp_n 4 12 h :: yp_n 16 0 h :: yp_n 14 p h :: yp_n 4 10 h :: T).length, f_vt, nI (p + 2), f_bad, f_checking, f_live, f_pending, f_carry, f_active, f_ticks, f_status, f_result, f_endedAt, f_used, f_printed, a_kind, a_value, a_code, a_number, a_given, a_begins, a_params, td, a_val, a_vars, a_output, a_memory)) (H2 : ¬ gm_tk a_code n (p + 1) = 6 → ∀ tt td, post (f_count, f_place, f_length, f_functions, f_loaded, f_loops, f_outside, tt, f_vt, nI (p + 1), 1, f_checking, f_live, f_pending, f_carry, f_active, f_ticks, f_status, f_result, f_endedAt, f_used, f_printed, a_kind, a_value, a_code, a_number, a_given, a_begins, a_params, td, a_val, a_vars, a_output, a_memory)) : wpY_statement post (f_count, f_place, f_length, f_functions, f_loaded, f_loops, f_outside, f_tt, f_vt, f_pos, f_bad, f_checking, f_live, f_pending, f_carry, f_active, f_ticks, f_status, f_result, f_endedAt, f_used, f_printed, a_kind, a_value, a_code, a_number, a_given, a_begins, a_params, a_todo, a_val, a_vars, a_output, a_memory) := by
  unfold wpY_statement
  refine ym_tok hx hn hn' hp ?_
  rw [h1]
  refine nm_r ((congrArg (· + 1) hx).trans (nI_1 _)) (br_f (by decide) (br_f (by decide) (br_f (by decide) (br_f (by decide) (br_t (by decide) (?_))))))
  refine ym_then 4 10 (by decide) (by decide) hv hh ht (by omega) hd fun td hd => ?_
  subst hx
  refine ym_then 14 p (by decide) (by omega) hv hh rfl (by simp only [List.length_cons]; omega) hd fun td hd => ?_
  refine ym_then 16 0 (by decide) (by decide) hv hh rfl (by simp only [List.length_cons]; omega) hd fun td hd => ?_
  refine ym_then 4 12 (by decide) (by decide) hv hh rfl (by simp only [List.length_cons]; omega) hd fun td hd => ?_
  refine ym_then 4 7 (by decide) (by decide) hv hh rfl (by simp only [List.length_cons]; omega) hd fun td hd => ?_
  refine ym_then 16 0 (by decide) (by decide) hv hh rfl (by simp only [List.length_cons]; omega) hd fun td hd => ?_
  exact ym_take 6 rfl hn hn' (by omega) hb (fun z => H1 z _ hd) (fun z => H2 z _ _)
theorem ym_st34 {post : SY → Prop} {f_count f_place f_length f_functions f_loaded f_loops f_outside f_tt f_vt f_pos f_bad f_checking f_live f_pending f_carry f_active f_ticks f_status f_result f_endedAt f_used f_printed : Int32} {a_kind a_value a_code a_number a_given a_begins a_params a_todo a_val a_vars a_output a_memory : Nat → Int32} {n p h : Nat} {T : List Nat} (hx : f_pos = nI p) (hn : f_length = nI n) (hn' : n ≤ 120) (hp : p ≤ 120) (hb : f_bad = 0) (hv : f_vt = nI h) (hh : h < 1024) (ht : f_tt = nI T.length) (hd : yp_Td a_todo T) (hl : T.length + 8 < 1300) (h1 : gm_tk a_code n p = 34) (hp' : p < n)
    (H1 : gm_tk a_code n (p + 1) = 4 → ∀ td, yp_Td td (yp_n 16 0 h :: yp_n 4 5 h :: yp_n 6 0 h :: T) → post (f_count, f_place, f_length, f_functions, f_loaded, f_loops, f_outside, nI (yp_n 16 0 h :: yp_n 4 5 h :: yp_n 6 0 h :: T).length, f_vt, nI (p + 2), f_bad, f_checking, f_live, f_pending, f_carry, f_active, f_ticks, f_status, f_result, f_endedAt, f_used, f_printed, a_kind, a_value, a_code, a_number, a_given, a_begins, a_params, td, a_val, a_vars, a_output, a_memory)) (H2 : ¬ gm_tk a_code n (p + 1) = 4 → ∀ tt td, post (f_count, f_place, f_length, f_functions, f_loaded, f_loops, f_outside, tt, f_vt, nI (p + 1), 1, f_checking, f_live, f_pending, f_carry, f_active, f_ticks, f_status, f_result, f_endedAt, f_used, f_printed, a_kind, a_value, a_code, a_number, a_given, a_begins, a_params, td, a_val, a_vars, a_output, a_memory)) : wpY_statement post (f_count, f_place, f_length, f_functions, f_loaded, f_loops, f_outside, f_tt, f_vt, f_pos, f_bad, f_checking, f_live, f_pending, f_carry, f_active, f_ticks, f_status, f_result, f_endedAt, f_used, f_printed, a_kind, a_value, a_code, a_number, a_given, a_begins, a_params, a_todo, a_val, a_vars, a_output, a_memory) := by
  unfold wpY_statement
  refine ym_tok hx hn hn' hp ?_
  rw [h1]
  refine nm_r ((congrArg (· + 1) hx).trans (nI_1 _)) (br_f (by decide) (br_f (by decide) (br_f (by decide) (br_f (by decide) (br_f (by decide) (br_f (by decide) (br_f (by decide) (br_f (by decide) (br_f (by decide) (br_f (by decide) (br_f (by decide) (br_f (by decide) (br_f (by decide) (br_f (by decide) (br_f (by decide) (br_f (by decide) (br_f (by decide) (br_f (by decide) (br_f (by decide) (br_f (by decide) (br_f (by decide) (br_f (by decide) (br_f (by decide) (br_f (by decide) (br_f (by decide) (br_f (by decide) (br_f (by decide) (br_f (by decide) (br_f (by decide) (br_f (by decide) (br_f (by decide) (br_f (by decide) (br_f (by decide) (br_f (by decide) (br_f (by decide) (br_t (by decide) (?_)))))))))))))))))))))))))))))))))))))
  refine ym_then 6 0 (by decide) (by decide) hv hh ht (by omega) hd fun td hd => ?_
  refine ym_then 4 5 (by decide) (by decide) hv hh rfl (by simp only [List.length_cons]; omega) hd fun td hd => ?_
  refine ym_then 16 0 (by decide) (by decide) hv hh rfl (by simp only [List.length_cons]; omega) hd fun td hd => ?_
  exact ym_take 4 rfl hn hn' (by omega) hb (fun z => H1 z _ hd) (fun z => H2 z _ _)
theorem ym_loop18 {post : SY → Prop} {f_count f_place f_length f_functions f_loaded f_loops f_outside f_tt f_vt f_pos f_bad f_checking f_live f_pending f_carry f_active f_ticks f_status f_result f_endedAt f_used f_printed : Int32} {a_kind a_value a_code a_number a_given a_begins a_params a_todo a_val a_vars a_output a_memory : Nat → Int32} {h q : Nat} {x : Int32} {T : List Nat} (hq : x = nI q) (hq' : q < 1024) (hv : f_vt = nI h) (hh : h < 1024) (ht : f_tt = nI T.length) (hd : yp_Td a_todo T) (hl : T.length + 4 < 1300)
    (H : ∀ td, yp_Td td (yp_n 16 0 h :: yp_n 4 5 h :: yp_n 8 q h :: T) → post (f_count, f_place, f_length, f_functions, f_loaded, f_loops, f_outside, nI (yp_n 16 0 h :: yp_n 4 5 h :: yp_n 8 q h :: T).length, f_vt, nI q, f_bad, f_checking, f_live, f_pending, f_carry, f_active, f_ticks, f_status, f_result, f_endedAt, f_used, f_printed, a_kind, a_value, a_code, a_number, a_given, a_begins, a_params, td, a_val, a_vars, a_output, a_memory)) : wY_loop_18 post x f_count f_place f_length f_functions f_loaded f_loops f_outside f_tt f_vt f_pos f_bad f_checking f_live f_pending f_carry f_active f_ticks f_status f_result f_endedAt f_used f_printed a_kind a_value a_code a_number a_given a_begins a_params a_todo a_val a_vars a_output a_memory := by
  subst hq
  unfold wY_loop_18
  refine ym_then 8 q (by decide) hq' hv hh ht (by omega) hd fun td hd => ?_
  refine ym_then 4 5 (by decide) (by decide) hv hh rfl (by simp only [List.length_cons]; omega) hd fun td hd => ?_
  exact ym_then 16 0 (by decide) (by decide) hv hh rfl (by simp only [List.length_cons]; omega) hd H
theorem ym_st36 {post : SY → Prop} {f_count f_place f_length f_functions f_loaded f_loops f_outside f_tt f_vt f_pos f_bad f_checking f_live f_pending f_carry f_active f_ticks f_status f_result f_endedAt f_used f_printed : Int32} {a_kind a_value a_code a_number a_given a_begins a_params a_todo a_val a_vars a_output a_memory : Nat → Int32} {n p h : Nat} {T : List Nat} (hx : f_pos = nI p) (hn : f_length = nI n) (hn' : n ≤ 120) (hp : p ≤ 120) (hb : f_bad = 0) (hv : f_vt = nI h) (hh : h < 1024) (ht : f_tt = nI T.length) (hd : yp_Td a_todo T) (hl : T.length + 8 < 1300) (hli : f_live = 0) (h1 : gm_tk a_code n p = 36) (hp' : p < n)
    (H1 : gm_tk a_code n (p + 1) = 4 → ∀ td, yp_Td td (yp_n 16 0 h :: yp_n 4 5 h :: yp_n 8 (p + 2) h :: T) → post (f_count, f_place, f_length, f_functions, f_loaded, f_loops, f_outside, nI (yp_n 16 0 h :: yp_n 4 5 h :: yp_n 8 (p + 2) h :: T).length, f_vt, nI (p + 2), f_bad, f_checking, f_live, f_pending, f_carry, f_active, f_ticks, f_status, f_result, f_endedAt, f_used, f_printed, a_kind, a_value, a_code, a_number, a_given, a_begins, a_params, td, a_val, a_vars, a_output, a_memory)) (H2 : ¬ gm_tk a_code n (p + 1) = 4 → post (f_count, f_place, f_length, f_functions, f_loaded, f_loops, f_outside, f_tt, f_vt, nI (p + 1), 1, f_checking, f_live, f_pending, f_carry, f_active, f_ticks, f_status, f_result, f_endedAt, f_used, f_printed, a_kind, a_value, a_code, a_number, a_given, a_begins, a_params, a_todo, a_val, a_vars, a_output, a_memory)) : wpY_statement post (f_count, f_place, f_length, f_functions, f_loaded, f_loops, f_outside, f_tt, f_vt, f_pos, f_bad, f_checking, f_live, f_pending, f_carry, f_active, f_ticks, f_status, f_result, f_endedAt, f_used, f_printed, a_kind, a_value, a_code, a_number, a_given, a_begins, a_params, a_todo, a_val, a_vars, a_output, a_memory) := by
  unfold wpY_statement
  refine ym_tok hx hn hn' hp ?_
  rw [h1]
  refine nm_r ((congrArg (· + 1) hx).trans (nI_1 _)) (br_f (by decide) (br_f (by decide) (br_f (by decide) (br_f (by decide) (br_f (by decide) (br_f (by decide) (br_f (by decide) (br_f (by decide) (br_f (by decide) (br_f (by decide) (br_f (by decide) (br_f (by decide) (br_f (by decide) (br_f (by decide) (br_f (by decide) (br_f (by decide) (br_f (by decide) (br_f (by decide) (br_f (by decide) (br_f (by decide) (br_f (by decide) (br_f (by decide) (br_f (by decide) (br_f (by decide) (br_f (by decide) (br_f (by decide) (br_f (by decide) (br_f (by decide) (br_f (by decide) (br_f (by decide) (br_f (by decide) (br_f (by decide) (br_f (by decide) (br_f (by decide) (br_f (by decide) (br_f (by decide) (br_f (by decide) (br_t (by decide) (?_)))))))))))))))))))))))))))))))))))))))
  refine ym_take 4 rfl hn hn' (by omega) hb (fun z => ?_) (fun z => ?_)
  · refine br_f (by decide) ?_
    unfold wpY_loop
    exact br_t hli (ym_loop18 rfl (by omega) hv hh ht hd (by omega) (H1 z))
  · exact br_t rfl (H2 z)
theorem ym_st37 {post : SY → Prop} {f_count f_place f_length f_functions f_loaded f_loops f_outside f_tt f_vt f_pos f_bad f_checking f_live f_pending f_carry f_active f_ticks f_status f_result f_endedAt f_used f_printed : Int32} {a_kind a_value a_code a_number a_given a_begins a_params a_todo a_val a_vars a_output a_memory : Nat → Int32} {n p h : Nat} {T : List Nat} (hx : f_pos = nI p) (hn : f_length = nI n) (hn' : n ≤ 120) (hp : p ≤ 120) (hb : f_bad = 0) (hv : f_vt = nI h) (hh : h < 1024) (ht : f_tt = nI T.length) (hd : yp_Td a_todo T) {d : Nat} (hdd : d = 37 ∨ d = 38) (hl : T.length + 8 < 1300) (hli : f_live = 0) (h1 : gm_tk a_code n p = nI d) (hp' : p < n)
    {ou : Int32} (hou : (if f_checking = 0 then f_outside else if f_loops = 0 then (if f_outside < 0 then nI p else f_outside) else f_outside) = ou)
    (H : ∀ td, yp_Td td (yp_n 4 10 h :: T) → post (f_count, f_place, f_length, f_functions, f_loaded, f_loops, ou, nI (yp_n 4 10 h :: T).length, f_vt, nI (p + 1), f_bad, f_checking, f_live, f_pending, f_carry, f_active, f_ticks, f_status, f_result, f_endedAt, f_used, f_printed, a_kind, a_value, a_code, a_number, a_given, a_begins, a_params, td, a_val, a_vars, a_output, a_memory)) : wpY_statement post (f_count, f_place, f_length, f_functions, f_loaded, f_loops, f_outside, f_tt, f_vt, f_pos, f_bad, f_checking, f_live, f_pending, f_carry, f_active, f_ticks, f_status, f_result, f_endedAt, f_used, f_printed, a_kind, a_value, a_code, a_number, a_given, a_begins, a_params, a_todo, a_val, a_vars, a_output, a_memory) := by
  subst hou
  unfold wpY_statement
  refine ym_tok hx hn hn' hp ?_
  rw [h1]
  have key : ∀ y, wY_statement_351 post y f_pos f_count f_place f_length f_functions f_loaded f_loops f_outside f_tt f_vt (nI (p + 1)) f_bad f_checking f_live f_pending f_carry f_active f_ticks f_status f_result f_endedAt f_used f_printed a_kind a_value a_code a_number a_given a_begins a_params a_todo a_val a_vars a_output a_memory := by
    intro y
    refine br_c (fun a => ?_) (fun a => br_c (fun b => br_c (fun c => ?_) (fun c => ?_)) (fun b => ?_))
    · rw [if_pos a] at H
      exact br_t hli (ym_then 4 10 (by decide) (by decide) hv hh ht (by omega) hd H)
    · rw [if_neg a, if_pos b, if_neg (Int32.not_lt.mpr c)] at H
      exact br_t hli (ym_then 4 10 (by decide) (by decide) hv hh ht (by omega) hd H)
    · rw [if_neg a, if_pos b, if_pos (Int32.not_le.mp c), ← hx] at H
      exact br_t hli (ym_then 4 10 (by decide) (by decide) hv hh ht (by omega) hd H)
    · rw [if_neg a, if_neg b] at H
      exact br_t hli (ym_then 4 10 (by decide) (by decide) hv hh ht (by omega) hd H)
  rcases hdd with rfl | rfl
  · exact nm_r ((congrArg (· + 1) hx).trans (nI_1 _)) (br_f (by decide) (br_f (by decide) (br_f (by decide) (br_f (by decide) (br_f (by decide) (br_f (by decide) (br_f (by decide) (br_f (by decide) (br_f (by decide) (br_f (by decide) (br_f (by decide) (br_f (by decide) (br_f (by decide) (br_f (by decide) (br_f (by decide) (br_f (by decide) (br_f (by decide) (br_f (by decide) (br_f (by decide) (br_f (by decide) (br_f (by decide) (br_f (by decide) (br_f (by decide) (br_f (by decide) (br_f (by decide) (br_f (by decide) (br_f (by decide) (br_f (by decide) (br_f (by decide) (br_f (by decide) (br_f (by decide) (br_f (by decide) (br_f (by decide) (br_f (by decide) (br_f (by decide) (br_f (by decide) (br_f (by decide) (br_f (by decide) (br_t (by decide) (key _))))))))))))))))))))))))))))))))))))))))
  · exact nm_r ((congrArg (· + 1) hx).trans (nI_1 _)) (br_f (by decide) (br_f (by decide) (br_f (by decide) (br_f (by decide) (br_f (by decide) (br_f (by decide) (br_f (by decide) (br_f (by decide) (br_f (by decide) (br_f (by decide) (br_f (by decide) (br_f (by decide) (br_f (by decide) (br_f (by decide) (br_f (by decide) (br_f (by decide) (br_f (by decide) (br_f (by decide) (br_f (by decide) (br_f (by decide) (br_f (by decide) (br_f (by decide) (br_f (by decide) (br_f (by decide) (br_f (by decide) (br_f (by decide) (br_f (by decide) (br_f (by decide) (br_f (by decide) (br_f (by decide) (br_f (by decide) (br_f (by decide) (br_f (by decide) (br_f (by decide) (br_f (by decide) (br_f (by decide) (br_f (by decide) (br_f (by decide) (br_f (by decide) (br_t (by decide) (key _)))))))))))))))))))))))))))))))))))))))))
theorem ym_st39 {post : SY → Prop} {f_count f_place f_length f_functions f_loaded f_loops f_outside f_tt f_vt f_pos f_bad f_checking f_live f_pending f_carry f_active f_ticks f_status f_result f_endedAt f_used f_printed : Int32} {a_kind a_value a_code a_number a_given a_begins a_params a_todo a_val a_vars a_output a_memory : Nat → Int32} {n p h : Nat} {T : List Nat} (hx : f_pos = nI p) (hn : f_length = nI n) (hn' : n ≤ 120) (hp : p ≤ 120) (hb : f_bad = 0) (hv : f_vt = nI h) (hh : h < 1024) (ht : f_tt = nI T.length) (hd : yp_Td a_todo T) {d e : Nat} (hdd : d = 39 ∧ e = 11 ∨ d = 40 ∧ e = 12) (hl : T.length + 8 < 1300) (h1 : gm_tk a_code n p = nI d) (hp' : p < n)
    (H : ∀ td, yp_Td td (yp_n 16 0 h :: yp_n e 0 h :: yp_n 4 10 h :: T) → post (f_count, f_place, f_length, f_functions, f_loaded, f_loops, f_outside, nI (yp_n 16 0 h :: yp_n e 0 h :: yp_n 4 10 h :: T).length, f_vt, nI (p + 1), f_bad, f_checking, f_live, f_pending, f_carry, f_active, f_ticks, f_status, f_result, f_endedAt, f_used, f_printed, a_kind, a_value, a_code, a_number, a_given, a_begins, a_params, td, a_val, a_vars, a_output, a_memory)) : wpY_statement post (f_count, f_place, f_length, f_functions, f_loaded, f_loops, f_outside, f_tt, f_vt, f_pos, f_bad, f_checking, f_live, f_pending, f_carry, f_active, f_ticks, f_status, f_result, f_endedAt, f_used, f_printed, a_kind, a_value, a_code, a_number, a_given, a_begins, a_params, a_todo, a_val, a_vars, a_output, a_memory) := by
  unfold wpY_statement
  refine ym_tok hx hn hn' hp ?_
  rw [h1]
  rcases hdd with ⟨rfl, rfl⟩ | ⟨rfl, rfl⟩
  · refine nm_r ((congrArg (· + 1) hx).trans (nI_1 _)) (br_f (by decide) (br_f (by decide) (br_f (by decide) (br_f (by decide) (br_f (by decide) (br_f (by decide) (br_f (by decide) (br_f (by decide) (br_f (by decide) (br_f (by decide) (br_f (by decide) (br_f (by decide) (br_f (by decide) (br_f (by decide) (br_f (by decide) (br_f (by decide) (br_f (by decide) (br_f (by decide) (br_f (by decide) (br_f (by decide) (br_f (by decide) (br_f (by decide) (br_f (by decide) (br_f (by decide) (br_f (by decide) (br_f (by decide) (br_f (by decide) (br_f (by decide) (br_f (by decide) (br_f (by decide) (br_f (by decide) (br_f (by decide) (br_f (by decide) (br_f (by decide) (br_f (by decide) (br_f (by decide) (br_f (by decide) (br_f (by decide) (br_f (by decide) (br_f (by decide) (br_t (by decide) (?_))))))))))))))))))))))))))))))))))))))))))
    refine ym_then 4 10 (by decide) (by decide) hv hh ht (by omega) hd fun td hd => ?_
    refine br_t (by decide) ?_
    refine ym_then 11 0 (by decide) (by decide) hv hh rfl (by simp only [List.length_cons]; omega) hd fun td hd => ?_
    exact ym_then 16 0 (by decide) (by decide) hv hh rfl (by simp only [List.length_cons]; omega) hd H
  · refine nm_r ((congrArg (· + 1) hx).trans (nI_1 _)) (br_f (by decide) (br_f (by decide) (br_f (by decide) (br_f (by decide) (br_f (by decide) (br_f (by decide) (br_f (by decide) (br_f (by decide) (br_f (by decide) (br_f (by decide) (br_f (by decide) (br_f (by decide) (br_f (by decide) (br_f (by decide) (br_f (by decide) (br_f (by decide) (br_f (by decide) (br_f (by decide) (br_f (by decide) (br_f (by decide) (br_f (by decide) (br_f (by decide) (br_f (by decide) (br_f (by decide) (br_f (by decide) (br_f (by decide) (br_f (by decide) (br_f (by decide) (br_f (by decide) (br_f (by decide) (br_f (by decide) (br_f (by decide) (br_f (by decide) (br_f (by decide) (br_f (by decide) (br_f (by decide) (br_f (by decide) (br_f (by decide) (br_f (by decide) (br_f (by decide) (br_f (by decide) (br_t (by decide) (?_)))))))))))))))))))))))))))))))))))))))))))
    refine ym_then 4 10 (by decide) (by decide) hv hh ht (by omega) hd fun td hd => ?_
    refine br_f (by decide) ?_
    refine ym_then 12 0 (by decide) (by decide) hv hh rfl (by simp only [List.length_cons]; omega) hd fun td hd => ?_
    exact ym_then 16 0 (by decide) (by decide) hv hh rfl (by simp only [List.length_cons]; omega) hd H
theorem ym_stE {post : SY → Prop} {f_count f_place f_length f_functions f_loaded f_loops f_outside f_tt f_vt f_pos f_bad f_checking f_live f_pending f_carry f_active f_ticks f_status f_result f_endedAt f_used f_printed : Int32} {a_kind a_value a_code a_number a_given a_begins a_params a_todo a_val a_vars a_output a_memory : Nat → Int32} {n p : Nat} (hx : f_pos = nI p) (hn : f_length = nI n) (hn' : n ≤ 120) (hp : p ≤ 120) (h8 : ¬ gm_tk a_code n p = 8) (h1 : ¬ gm_tk a_code n p = 1) (h3 : ¬ gm_tk a_code n p = 3) (h2 : ¬ gm_tk a_code n p = 2) (h34 : ¬ gm_tk a_code n p = 34)
    (h36 : ¬ gm_tk a_code n p = 36) (h37 : ¬ gm_tk a_code n p = 37) (h38 : ¬ gm_tk a_code n p = 38) (h39 : ¬ gm_tk a_code n p = 39) (h40 : ¬ gm_tk a_code n p = 40)
    (H : post (f_count, f_place, f_length, f_functions, f_loaded, f_loops, f_outside, f_tt, f_vt, f_pos, 1, f_checking, f_live, f_pending, f_carry, f_active, f_ticks, f_status, f_result, f_endedAt, f_used, f_printed, a_kind, a_value, a_code, a_number, a_given, a_begins, a_params, a_todo, a_val, a_vars, a_output, a_memory)) : wpY_statement post (f_count, f_place, f_length, f_functions, f_loaded, f_loops, f_outside, f_tt, f_vt, f_pos, f_bad, f_checking, f_live, f_pending, f_carry, f_active, f_ticks, f_status, f_result, f_endedAt, f_used, f_printed, a_kind, a_value, a_code, a_number, a_given, a_begins, a_params, a_todo, a_val, a_vars, a_output, a_memory) := by
  unfold wpY_statement
  refine ym_tok hx hn hn' hp ?_
  refine nm_e ?_
  exact br_c (fun _ => H) (fun _ => br_c (fun _ => H) (fun _ => br_f h1 (br_f h2 (br_f h3 (br_c (fun _ => H) (fun _ => br_c (fun _ => H) (fun _ => br_c (fun _ => H) (fun _ => br_c (fun _ => H) (fun _ => br_f h8 (br_c (fun _ => H) (fun _ => br_c (fun _ => H) (fun _ => br_c (fun _ => H) (fun _ => br_c (fun _ => H) (fun _ => br_c (fun _ => H) (fun _ => br_c (fun _ => H) (fun _ => br_c (fun _ => H) (fun _ => br_c (fun _ => H) (fun _ => br_c (fun _ => H) (fun _ => br_c (fun _ => H) (fun _ => br_c (fun _ => H) (fun _ => br_c (fun _ => H) (fun _ => br_c (fun _ => H) (fun _ => br_c (fun _ => H) (fun _ => br_c (fun _ => H) (fun _ => br_c (fun _ => H) (fun _ => br_c (fun _ => H) (fun _ => br_c (fun _ => H) (fun _ => br_c (fun _ => H) (fun _ => br_c (fun _ => H) (fun _ => br_c (fun _ => H) (fun _ => br_c (fun _ => H) (fun _ => br_c (fun _ => H) (fun _ => br_c (fun _ => H) (fun _ => br_c (fun _ => H) (fun _ => br_f h34 (br_c (fun _ => H) (fun _ => br_f h36 (br_f h37 (br_f h38 (br_f h39 (br_f h40 (trivial))))))))))))))))))))))))))))))))))))))))))
end
section
/-! Y, not live: unary, the rest of an expression, functions, arguments -/
theorem ym_un {post : SY → Prop} {f_count f_place f_length f_functions f_loaded f_loops f_outside f_tt f_vt f_pos f_bad f_checking f_live f_pending f_carry f_active f_ticks f_status f_result f_endedAt f_used f_printed : Int32} {a_kind a_value a_code a_number a_given a_begins a_params a_todo a_val a_vars a_output a_memory : Nat → Int32} {n p h : Nat} {T : List Nat} (hx : f_pos = nI p) (hn : f_length = nI n) (hn' : n ≤ 120) (hp : p ≤ 120) (hb : f_bad = 0) (hv : f_vt = nI h) (hh : h < 1024) (ht : f_tt = nI T.length) (hd : yp_Td a_todo T) {d : Nat} (hdd : d = 28 ∨ d = 32 ∨ d = 33) (hl : T.length + 8 < 1300) (h1 : gm_tk a_code n p = nI d) (H : ∀ td, yp_Td td (yp_n 18 0 h :: yp_n 19 d h :: T) → post (f_count, f_place, f_length, f_functions, f_loaded, f_loops, f_outside, nI (yp_n 18 0 h :: yp_n 19 d h :: T).length, f_vt, nI (p + 1), f_bad, f_checking, f_live, f_pending, f_carry, f_active, f_ticks, f_status, f_result, f_endedAt, f_used, f_printed, a_kind, a_value, a_code, a_number, a_given, a_begins, a_params, td, a_val, a_vars, a_output, a_memory)) : wpY_unary post (f_count, f_place, f_length, f_functions, f_loaded, f_loops, f_outside, f_tt, f_vt, f_pos, f_bad, f_checking, f_live, f_pending, f_carry, f_active, f_ticks, f_status, f_result, f_endedAt, f_used, f_printed, a_kind, a_value, a_code, a_number, a_given, a_begins, a_params, a_todo, a_val, a_vars, a_output, a_memory) := by
  unfold wpY_unary
  refine ym_tok hx hn hn' hp ?_
  rw [h1]
  have key : wY_unary_96 post (nI d) f_count f_place f_length f_functions f_loaded f_loops f_outside f_tt f_vt (nI (p + 1)) f_bad f_checking f_live f_pending f_carry f_active f_ticks f_status f_result f_endedAt f_used f_printed a_kind a_value a_code a_number a_given a_begins a_params a_todo a_val a_vars a_output a_memory := by
    unfold wY_unary_96
    refine ym_then 19 d (by decide) (by omega) hv hh ht (by omega) hd fun td hd => ?_
    exact ym_then 18 0 (by decide) (by decide) hv hh rfl (by simp only [List.length_cons]; omega) hd H
  rcases hdd with rfl | rfl | rfl
  · exact nm_r ((congrArg (· + 1) hx).trans (nI_1 _)) (br_f (by decide) (br_f (by decide) (br_f (by decide) (br_f (by decide) (br_f (by decide) (br_t (by decide) key))))))
  · exact nm_r ((congrArg (· + 1) hx).trans (nI_1 _)) (br_f (by decide) (br_f (by decide) (br_f (by decide) (br_f (by decide) (br_f (by decide) (br_f (by decide) (br_t (by decide) key)))))))
  · exact nm_r ((congrArg (· + 1) hx).trans (nI_1 _)) (br_f (by decide) (br_f (by decide) (br_f (by decide) (br_f (by decide) (br_f (by decide) (br_f (by decide) (br_f (by decide) (br_t (by decide) key))))))))
theorem ym_un01 {post : SY → Prop} {f_count f_place f_length f_functions f_loaded f_loops f_outside f_tt f_vt f_pos f_bad f_checking f_live f_pending f_carry f_active f_ticks f_status f_result f_endedAt f_used f_printed : Int32} {a_kind a_value a_code a_number a_given a_begins a_params a_todo a_val a_vars a_output a_memory : Nat → Int32} {n p : Nat} (hx : f_pos = nI p) (hn : f_length = nI n) (hn' : n ≤ 120) (hp : p ≤ 120) (hli : f_live = 0) {d : Nat} (hdd : d = 0 ∨ d = 1) (h1 : gm_tk a_code n p = nI d) (H : post (f_count, f_place, f_length, f_functions, f_loaded, f_loops, f_outside, f_tt, f_vt, nI (p + 1), f_bad, f_checking, f_live, f_pending, f_carry, f_active, f_ticks, f_status, f_result, f_endedAt, f_used, f_printed, a_kind, a_value, a_code, a_number, a_given, a_begins, a_params, a_todo, a_val, a_vars, a_output, a_memory)) : wpY_unary post (f_count, f_place, f_length, f_functions, f_loaded, f_loops, f_outside, f_tt, f_vt, f_pos, f_bad, f_checking, f_live, f_pending, f_carry, f_active, f_ticks, f_status, f_result, f_endedAt, f_used, f_printed, a_kind, a_value, a_code, a_number, a_given, a_begins, a_params, a_todo, a_val, a_vars, a_output, a_memory) := by
  unfold wpY_unary
  refine ym_tok hx hn hn' hp ?_
  rw [h1]
  rcases hdd with rfl | rfl
  · exact nm_r ((congrArg (· + 1) hx).trans (nI_1 _)) (br_t (by decide) (br_t hli H))
  · exact nm_r ((congrArg (· + 1) hx).trans (nI_1 _)) (br_f (by decide) (br_t (by decide) (br_t hli H)))
theorem ym_un2 {post : SY → Prop} {f_count f_place f_length f_functions f_loaded f_loops f_outside f_tt f_vt f_pos f_bad f_checking f_live f_pending f_carry f_active f_ticks f_status f_result f_endedAt f_used f_printed : Int32} {a_kind a_value a_code a_number a_given a_begins a_params a_todo a_val a_vars a_output a_memory : Nat → Int32} {n p h : Nat} {T : List Nat} (hx : f_pos = nI p) (hn : f_length = nI n) (hn' : n ≤ 120) (hp : p ≤ 120) (hb : f_bad = 0) (hv : f_vt = nI h) (hh : h < 1024) (ht : f_tt = nI T.length) (hd : yp_Td a_todo T) (hl : T.length + 8 < 1300) (h1 : gm_tk a_code n p = 2) (hp' : p < n)
    (H1 : gm_tk a_code n (p + 1) = 4 → ∀ td, yp_Td td (yp_n 23 p h :: yp_n 25 p h :: T) → post (f_count, f_place, f_length, f_functions, f_loaded, f_loops, f_outside, nI (yp_n 23 p h :: yp_n 25 p h :: T).length, f_vt, nI (p + 2), f_bad, f_checking, f_live, f_pending, f_carry, f_active, f_ticks, f_status, f_result, f_endedAt, f_used, f_printed, a_kind, a_value, a_code, a_number, a_given, a_begins, a_params, td, a_val, a_vars, a_output, a_memory)) (H2 : ¬ gm_tk a_code n (p + 1) = 4 → ∀ tt td, post (f_count, f_place, f_length, f_functions, f_loaded, f_loops, f_outside, tt, f_vt, nI (p + 1), 1, f_checking, f_live, f_pending, f_carry, f_active, f_ticks, f_status, f_result, f_endedAt, f_used, f_printed, a_kind, a_value, a_code, a_number, a_given, a_begins, a_params, td, a_val, a_vars, a_output, a_memory)) : wpY_unary post (f_count, f_place, f_length, f_functions, f_loaded, f_loops, f_outside, f_tt, f_vt, f_pos, f_bad, f_checking, f_live, f_pending, f_carry, f_active, f_ticks, f_status, f_result, f_endedAt, f_used, f_printed, a_kind, a_value, a_code, a_number, a_given, a_begins, a_params, a_todo, a_val, a_vars, a_output, a_memory) := by
  unfold wpY_unary
  refine ym_tok hx hn hn' hp ?_
  rw [h1]
  refine nm_r ((congrArg (· + 1) hx).trans (nI_1 _)) (br_f (by decide) (br_f (by decide) (br_t (by decide) (?_))))
  subst hx
  unfold wpY_call
  refine ym_then 25 p (by decide) (by omega) hv hh ht (by omega) hd fun td hd => ?_
  refine ym_then 23 p (by decide) (by omega) hv hh rfl (by simp only [List.length_cons]; omega) hd fun td hd => ?_
  exact ym_take 4 rfl hn hn' (by omega) hb (fun z => H1 z _ hd) (fun z => H2 z _ _)
theorem ym_un3 {post : SY → Prop} {f_count f_place f_length f_functions f_loaded f_loops f_outside f_tt f_vt f_pos f_bad f_checking f_live f_pending f_carry f_active f_ticks f_status f_result f_endedAt f_used f_printed : Int32} {a_kind a_value a_code a_number a_given a_begins a_params a_todo a_val a_vars a_output a_memory : Nat → Int32} {n p h : Nat} {T : List Nat} (hx : f_pos = nI p) (hn : f_length = nI n) (hn' : n ≤ 120) (hp : p ≤ 120) (hb : f_bad = 0) (hv : f_vt = nI h) (hh : h < 1024) (ht : f_tt = nI T.length) (hd : yp_Td a_todo T) (hl : T.length + 8 < 1300) (h1 : gm_tk a_code n p = 3) (hp' : p < n)
    (H1 : gm_tk a_code n (p + 1) = 6 → ∀ td, yp_Td td (yp_n 16 0 h :: yp_n 4 7 h :: yp_n 22 p h :: T) → post (f_count, f_place, f_length, f_functions, f_loaded, f_loops, f_outside, nI (yp_n 16 0 h :: yp_n 4 7 h :: yp_n 22 p h :: T).length, f_vt, nI (p + 2), f_bad, f_checking, f_live, f_pending, f_carry, f_active, f_ticks, f_status, f_result, f_endedAt, f_used, f_printed, a_kind, a_value, a_code, a_number, a_given, a_begins, a_params, td, a_val, a_vars, a_output, a_memory)) (H2 : ¬ gm_tk a_code n (p + 1) = 6 → ∀ tt td, post (f_count, f_place, f_length, f_functions, f_loaded, f_loops, f_outside, tt, f_vt, nI (p + 1), 1, f_checking, f_live, f_pending, f_carry, f_active, f_ticks, f_status, f_result, f_endedAt, f_used, f_printed, a_kind, a_value, a_code, a_number, a_given, a_begins, a_params, td, a_val, a_vars, a_output, a_memory)) : wpY_unary post (f_count, f_place, f_length, f_functions, f_loaded, f_loops, f_outside, f_tt, f_vt, f_pos, f_bad, f_checking, f_live, f_pending, f_carry, f_active, f_ticks, f_status, f_result, f_endedAt, f_used, f_printed, a_kind, a_value, a_code, a_number, a_given, a_begins, a_params, a_todo, a_val, a_vars, a_output, a_memory) := by
  unfold wpY_unary
  refine ym_tok hx hn hn' hp ?_
  rw [h1]
  refine nm_r ((congrArg (· + 1) hx).trans (nI_1 _)) (br_f (by decide) (br_f (by decide) (br_f (by decide) (br_t (by decide) (?_)))))
  subst hx
  refine ym_then 22 p (by decide) (by omega) hv hh ht (by omega) hd fun td hd => ?_
  refine ym_then 4 7 (by decide) (by decide) hv hh rfl (by simp only [List.length_cons]; omega) hd fun td hd => ?_
  refine ym_then 16 0 (by decide) (by decide) hv hh rfl (by simp only [List.length_cons]; omega) hd fun td hd => ?_
  exact ym_take 6 rfl hn hn' (by omega) hb (fun z => H1 z _ hd) (fun z => H2 z _ _)
theorem ym_un4 {post : SY → Prop} {f_count f_place f_length f_functions f_loaded f_loops f_outside f_tt f_vt f_pos f_bad f_checking f_live f_pending f_carry f_active f_ticks f_status f_result f_endedAt f_used f_printed : Int32} {a_kind a_value a_code a_number a_given a_begins a_params a_todo a_val a_vars a_output a_memory : Nat → Int32} {n p h : Nat} {T : List Nat} (hx : f_pos = nI p) (hn : f_length = nI n) (hn' : n ≤ 120) (hp : p ≤ 120) (hb : f_bad = 0) (hv : f_vt = nI h) (hh : h < 1024) (ht : f_tt = nI T.length) (hd : yp_Td a_todo T) (hl : T.length + 8 < 1300) (h1 : gm_tk a_code n p = 4) (H : ∀ td, yp_Td td (yp_n 16 0 h :: yp_n 4 5 h :: T) → post (f_count, f_place, f_length, f_functions, f_loaded, f_loops, f_outside, nI (yp_n 16 0 h :: yp_n 4 5 h :: T).length, f_vt, nI (p + 1), f_bad, f_checking, f_live, f_pending, f_carry, f_active, f_ticks, f_status, f_result, f_endedAt, f_used, f_printed, a_kind, a_value, a_code, a_number, a_given, a_begins, a_params, td, a_val, a_vars, a_output, a_memory)) : wpY_unary post (f_count, f_place, f_length, f_functions, f_loaded, f_loops, f_outside, f_tt, f_vt, f_pos, f_bad, f_checking, f_live, f_pending, f_carry, f_active, f_ticks, f_status, f_result, f_endedAt, f_used, f_printed, a_kind, a_value, a_code, a_number, a_given, a_begins, a_params, a_todo, a_val, a_vars, a_output, a_memory) := by
  unfold wpY_unary
  refine ym_tok hx hn hn' hp ?_
  rw [h1]
  refine nm_r ((congrArg (· + 1) hx).trans (nI_1 _)) (br_f (by decide) (br_f (by decide) (br_f (by decide) (br_f (by decide) (br_t (by decide) (?_))))))
  refine ym_then 4 5 (by decide) (by decide) hv hh ht (by omega) hd fun td hd => ?_
  exact ym_then 16 0 (by decide) (by decide) hv hh rfl (by simp only [List.length_cons]; omega) hd H
theorem ym_unE {post : SY → Prop} {f_count f_place f_length f_functions f_loaded f_loops f_outside f_tt f_vt f_pos f_bad f_checking f_live f_pending f_carry f_active f_ticks f_status f_result f_endedAt f_used f_printed : Int32} {a_kind a_value a_code a_number a_given a_begins a_params a_todo a_val a_vars a_output a_memory : Nat → Int32} {n p : Nat} (hx : f_pos = nI p) (hn : f_length = nI n) (hn' : n ≤ 120) (hp : p ≤ 120) (h28 : ¬ gm_tk a_code n p = 28) (h32 : ¬ gm_tk a_code n p = 32) (h33 : ¬ gm_tk a_code n p = 33) (h0 : ¬ gm_tk a_code n p = 0)
    (h1 : ¬ gm_tk a_code n p = 1) (h2 : ¬ gm_tk a_code n p = 2) (h3 : ¬ gm_tk a_code n p = 3) (h4 : ¬ gm_tk a_code n p = 4) (H : post (f_count, f_place, f_length, f_functions, f_loaded, f_loops, f_outside, f_tt, f_vt, f_pos, 1, f_checking, f_live, f_pending, f_carry, f_active, f_ticks, f_status, f_result, f_endedAt, f_used, f_printed, a_kind, a_value, a_code, a_number, a_given, a_begins, a_params, a_todo, a_val, a_vars, a_output, a_memory)) : wpY_unary post (f_count, f_place, f_length, f_functions, f_loaded, f_loops, f_outside, f_tt, f_vt, f_pos, f_bad, f_checking, f_live, f_pending, f_carry, f_active, f_ticks, f_status, f_result, f_endedAt, f_used, f_printed, a_kind, a_value, a_code, a_number, a_given, a_begins, a_params, a_todo, a_val, a_vars, a_output, a_memory) := by
  unfold wpY_unary
  refine ym_tok hx hn hn' hp ?_
  exact nm_e (br_f h0 (br_f h1 (br_f h2 (br_f h3 (br_f h4 (br_f h28 (br_f h32 (br_f h33 H))))))))
theorem ym_str {post : Int32 → Prop} {t : Int32} (h : t = -1 ∨ ∃ k, k ≤ 41 ∧ t = nI k) (H : post (nI (gm_str t))) : wpY_strength post t := by
  rcases h with rfl | ⟨k, hk, rfl⟩
  · exact br_t (by decide) H
  · have e : (nI k).toNatClampNeg = k := nI_clamp (by omega)
    unfold gm_str at H
    rw [e] at H
    refine pk_lt k 13 (fun h => ?_) (fun h => pk_le k 31 (fun h' => pk_le 18 k (fun h2 => pk_le 20 k (fun h3 => pk_le 24 k (fun h4 => pk_le 27 k (fun h5 => pk_le 29 k (fun h6 => ?_) (fun h6 => ?_)) (fun h5 => ?_)) (fun h4 => ?_)) (fun h3 => ?_)) (fun h2 => ?_)) (fun h' => ?_))
    · rw [if_pos h] at H; exact H
    · rw [if_neg (by omega), if_neg (by omega), if_neg (by omega), if_neg (by omega), if_neg (by omega), if_neg (by omega), if_neg (by omega)] at H; exact H
    · rw [if_neg (by omega), if_neg (by omega), if_neg (by omega), if_neg (by omega), if_neg (by omega), if_neg (by omega), if_pos (by omega)] at H; exact H
    · rw [if_neg (by omega), if_neg (by omega), if_neg (by omega), if_neg (by omega), if_neg (by omega), if_pos (by omega)] at H; exact H
    · rw [if_neg (by omega), if_neg (by omega), if_neg (by omega), if_neg (by omega), if_pos (by omega)] at H; exact H
    · rw [if_neg (by omega), if_neg (by omega), if_neg (by omega), if_pos (by omega)] at H; exact H
    · rw [if_neg (by omega), if_neg (by omega), if_pos (by omega)] at H
      rw [show nI k - 12 = nI (k - 12) from pk_sub (b := 12) (by omega)]
      exact H
    · rw [if_neg (by omega), if_pos (by omega)] at H; exact H
theorem ym_131 {post : SY → Prop} {f_count f_place f_length f_functions f_loaded f_loops f_outside f_tt f_vt f_pos f_bad f_checking f_live f_pending f_carry f_active f_ticks f_status f_result f_endedAt f_used f_printed : Int32} {a_kind a_value a_code a_number a_given a_begins a_params a_todo a_val a_vars a_output a_memory : Nat → Int32} {h q : Nat} {x : Int32} {T : List Nat} (hq : x = nI q) (hq' : q + 1 < 1024) (hv : f_vt = nI h) (hh : h < 1024) (ht : f_tt = nI T.length) (hd : yp_Td a_todo T) (hl : T.length + 4 < 1300)
    (H : ∀ td, yp_Td td (yp_n 18 0 h :: yp_n 17 (q + 1) h :: T) → post (f_count, f_place, f_length, f_functions, f_loaded, f_loops, f_outside, nI (yp_n 18 0 h :: yp_n 17 (q + 1) h :: T).length, f_vt, f_pos, f_bad, f_checking, f_live, f_pending, f_carry, f_active, f_ticks, f_status, f_result, f_endedAt, f_used, f_printed, a_kind, a_value, a_code, a_number, a_given, a_begins, a_params, td, a_val, a_vars, a_output, a_memory)) : wY_expressionPart_131 post x f_count f_place f_length f_functions f_loaded f_loops f_outside f_tt f_vt f_pos f_bad f_checking f_live f_pending f_carry f_active f_ticks f_status f_result f_endedAt f_used f_printed a_kind a_value a_code a_number a_given a_begins a_params a_todo a_val a_vars a_output a_memory := by
  subst hq
  unfold wY_expressionPart_131
  rw [nI_1 q]
  refine ym_then 17 (q + 1) (by decide) hq' hv hh ht (by omega) hd fun td hd => ?_
  exact ym_then 18 0 (by decide) (by decide) hv hh rfl (by simp only [List.length_cons]; omega) hd H
theorem ym_bin0 {post : SY → Prop} {f_count f_place f_length f_functions f_loaded f_loops f_outside f_tt f_vt f_pos f_bad f_checking f_live f_pending f_carry f_active f_ticks f_status f_result f_endedAt f_used f_printed : Int32} {a_kind a_value a_code a_number a_given a_begins a_params a_todo a_val a_vars a_output a_memory : Nat → Int32} {n p w : Nat} {x : Int32} (hx : f_pos = nI p) (hn : f_length = nI n) (hn' : n ≤ 120) (hp : p ≤ 120) (hw : x = nI w) (hw' : w ≤ 11) (hr : ∀ q, q < n → ∃ k, k ≤ 41 ∧ a_code q = nI k) (h : gm_str (gm_tk a_code n p) < w) (H : post (f_count, f_place, f_length, f_functions, f_loaded, f_loops, f_outside, f_tt, f_vt, f_pos, f_bad, f_checking, f_live, f_pending, f_carry, f_active, f_ticks, f_status, f_result, f_endedAt, f_used, f_printed, a_kind, a_value, a_code, a_number, a_given, a_begins, a_params, a_todo, a_val, a_vars, a_output, a_memory)) : wpY_expressionPart post (f_count, f_place, f_length, f_functions, f_loaded, f_loops, f_outside, f_tt, f_vt, f_pos, f_bad, f_checking, f_live, f_pending, f_carry, f_active, f_ticks, f_status, f_result, f_endedAt, f_used, f_printed, a_kind, a_value, a_code, a_number, a_given, a_begins, a_params, a_todo, a_val, a_vars, a_output, a_memory) 17 x := by
  subst hw
  refine br_f (by decide) (br_f (by decide) (br_f (by decide) (br_f (by decide) (br_t (by decide) ?_))))
  refine ym_tok hx hn hn' hp ?_
  refine ym_str (gm_tk_r hr) ?_
  exact br_f (nI_ge h (by omega)) H
theorem ym_bin1 {post : SY → Prop} {f_count f_place f_length f_functions f_loaded f_loops f_outside f_tt f_vt f_pos f_bad f_checking f_live f_pending f_carry f_active f_ticks f_status f_result f_endedAt f_used f_printed : Int32} {a_kind a_value a_code a_number a_given a_begins a_params a_todo a_val a_vars a_output a_memory : Nat → Int32} {n p h : Nat} {T : List Nat} (hx : f_pos = nI p) (hn : f_length = nI n) (hn' : n ≤ 120) (hp : p ≤ 120) (hb : f_bad = 0) (hv : f_vt = nI h) (hh : h < 1024) (ht : f_tt = nI T.length) (hd : yp_Td a_todo T) {w : Nat} {x : Int32} (hw : x = nI w) (hw' : w ≤ 11) (hr : ∀ q, q < n → ∃ k, k ≤ 41 ∧ a_code q = nI k) (h1 : ¬ gm_str (gm_tk a_code n p) < w) (h2 : 2 < gm_str (gm_tk a_code n p)) (hp' : p < n) (hl : T.length + 8 < 1300)
    (H : ∀ td, yp_Td td (yp_n 18 0 h :: yp_n 17 (gm_str (gm_tk a_code n p) + 1) h :: yp_n 20 p h :: yp_n 17 w h :: T) → post (f_count, f_place, f_length, f_functions, f_loaded, f_loops, f_outside, nI (yp_n 18 0 h :: yp_n 17 (gm_str (gm_tk a_code n p) + 1) h :: yp_n 20 p h :: yp_n 17 w h :: T).length, f_vt, nI (p + 1), f_bad, f_checking, f_live, f_pending, f_carry, f_active, f_ticks, f_status, f_result, f_endedAt, f_used, f_printed, a_kind, a_value, a_code, a_number, a_given, a_begins, a_params, td, a_val, a_vars, a_output, a_memory)) : wpY_expressionPart post (f_count, f_place, f_length, f_functions, f_loaded, f_loops, f_outside, f_tt, f_vt, f_pos, f_bad, f_checking, f_live, f_pending, f_carry, f_active, f_ticks, f_status, f_result, f_endedAt, f_used, f_printed, a_kind, a_value, a_code, a_number, a_given, a_begins, a_params, a_todo, a_val, a_vars, a_output, a_memory) 17 x := by
  subst hw
  have hs := gm_str_le (gm_tk a_code n p)
  refine br_f (by decide) (br_f (by decide) (br_f (by decide) (br_f (by decide) (br_t (by decide) ?_))))
  refine ym_tok hx hn hn' hp ?_
  refine ym_str (gm_tk_r hr) ?_
  refine br_t (nI_le (by omega) (by omega)) (nm_r ((congrArg (· + 1) hx).trans (nI_1 _)) ?_)
  refine ym_then 17 w (by decide) (by omega) hv hh ht (by omega) hd fun td hd => ?_
  refine br_f (nI_ge (a := 2) h2 (by omega)) ?_
  subst hx
  refine ym_then 20 p (by decide) (by omega) hv hh rfl (by simp only [List.length_cons]; omega) hd fun td hd => ?_
  exact ym_131 rfl (by omega) hv hh rfl hd (by simp only [List.length_cons]; omega) H
theorem ym_bin2 {post : SY → Prop} {f_count f_place f_length f_functions f_loaded f_loops f_outside f_tt f_vt f_pos f_bad f_checking f_live f_pending f_carry f_active f_ticks f_status f_result f_endedAt f_used f_printed : Int32} {a_kind a_value a_code a_number a_given a_begins a_params a_todo a_val a_vars a_output a_memory : Nat → Int32} {n p h : Nat} {T : List Nat} (hx : f_pos = nI p) (hn : f_length = nI n) (hn' : n ≤ 120) (hp : p ≤ 120) (hb : f_bad = 0) (hv : f_vt = nI h) (hh : h < 1024) (ht : f_tt = nI T.length) (hd : yp_Td a_todo T) {w : Nat} {x : Int32} (hw : x = nI w) (hw' : w ≤ 11) (hli : f_live = 0) (hr : ∀ q, q < n → ∃ k, k ≤ 41 ∧ a_code q = nI k) (h1 : ¬ gm_str (gm_tk a_code n p) < w) (h2 : gm_str (gm_tk a_code n p) ≤ 2) (hp' : p < n) (hl : T.length + 8 < 1300)
    (H : ∀ td, yp_Td td (yp_n 18 0 h :: yp_n 17 (gm_str (gm_tk a_code n p) + 1) h :: yp_n 21 0 h :: yp_n 17 w h :: T) → post (f_count, f_place, f_length, f_functions, f_loaded, f_loops, f_outside, nI (yp_n 18 0 h :: yp_n 17 (gm_str (gm_tk a_code n p) + 1) h :: yp_n 21 0 h :: yp_n 17 w h :: T).length, f_vt, nI (p + 1), f_bad, f_checking, f_live, f_pending, f_carry, f_active, f_ticks, f_status, f_result, f_endedAt, f_used, f_printed, a_kind, a_value, a_code, a_number, a_given, a_begins, a_params, td, a_val, a_vars, a_output, a_memory)) : wpY_expressionPart post (f_count, f_place, f_length, f_functions, f_loaded, f_loops, f_outside, f_tt, f_vt, f_pos, f_bad, f_checking, f_live, f_pending, f_carry, f_active, f_ticks, f_status, f_result, f_endedAt, f_used, f_printed, a_kind, a_value, a_code, a_number, a_given, a_begins, a_params, a_todo, a_val, a_vars, a_output, a_memory) 17 x := by
  subst hw
  refine br_f (by decide) (br_f (by decide) (br_f (by decide) (br_f (by decide) (br_t (by decide) ?_))))
  refine ym_tok hx hn hn' hp ?_
  refine ym_str (gm_tk_r hr) ?_
  refine br_t (nI_le (by omega) (by omega)) (nm_r ((congrArg (· + 1) hx).trans (nI_1 _)) ?_)
  refine ym_then 17 w (by decide) (by omega) hv hh ht (by omega) hd fun td hd => ?_
  refine br_t (nI_le (b := 2) h2 (by decide)) ?_
  unfold wpY_decide
  refine br_t hli ?_
  unfold wY_decide_78
  refine ym_then 21 0 (by decide) (by decide) hv hh rfl (by simp only [List.length_cons]; omega) hd fun td hd => ?_
  exact ym_131 rfl (by omega) hv hh rfl hd (by simp only [List.length_cons]; omega) H
theorem yp_b8 {v : Nat} (hv : v < 128) : (nI v).toInt8.toInt32 = nI v := by
  have h : ∀ v : Fin 128, (nI v.val).toInt8.toInt32 = nI v.val := by decide +kernel
  exact h ⟨v, hv⟩
theorem ym_nb {v : Nat} (hv : v < 128) : vp_nar .byte (nI v).toInt8.toInt32 = nI v := by
  rw [pk_vb]
  exact yp_b8 hv
theorem ym_args0 {post : SY → Prop} {f_count f_place f_length f_functions f_loaded f_loops f_outside f_tt f_vt f_pos f_bad f_checking f_live f_pending f_carry f_active f_ticks f_status f_result f_endedAt f_used f_printed : Int32} {a_kind a_value a_code a_number a_given a_begins a_params a_todo a_val a_vars a_output a_memory : Nat → Int32} {n p h : Nat} {T : List Nat} (hx : f_pos = nI p) (hn : f_length = nI n) (hn' : n ≤ 120) (hp : p ≤ 120) (hb : f_bad = 0) (hv : f_vt = nI h) (hh : h < 1024) (ht : f_tt = nI T.length) (hd : yp_Td a_todo T) {q : Nat} {x : Int32} (hc : f_checking = 0) (hq : x = nI q) (hq' : q < 120) (hl : T.length + 8 < 1300)
    (H1 : gm_tk a_code n p = 5 → post (f_count, f_place, f_length, f_functions, f_loaded, f_loops, f_outside, f_tt, f_vt, nI (p + 1), f_bad, f_checking, f_live, f_pending, f_carry, f_active, f_ticks, f_status, f_result, f_endedAt, f_used, f_printed, a_kind, a_value, a_code, a_number, a_given, a_begins, a_params, a_todo, a_val, a_vars, a_output, a_memory)) (H2 : ¬ gm_tk a_code n p = 5 → ∀ td, yp_Td td (yp_n 16 0 h :: yp_n 24 q h :: T) → post (f_count, f_place, f_length, f_functions, f_loaded, f_loops, f_outside, nI (yp_n 16 0 h :: yp_n 24 q h :: T).length, f_vt, f_pos, f_bad, f_checking, f_live, f_pending, f_carry, f_active, f_ticks, f_status, f_result, f_endedAt, f_used, f_printed, a_kind, a_value, a_code, a_number, a_given, a_begins, a_params, td, a_val, a_vars, a_output, a_memory)) : wY_callPart_93 post 23 x f_count f_place f_length f_functions f_loaded f_loops f_outside f_tt f_vt f_pos f_bad f_checking f_live f_pending f_carry f_active f_ticks f_status f_result f_endedAt f_used f_printed a_kind a_value a_code a_number a_given a_begins a_params a_todo a_val a_vars a_output a_memory := by
  subst hq
  refine nm_r (e' := nI q) ((pk_andN (by omega) 7 (by decide)).trans (congrArg nI (Nat.mod_eq_of_lt (by omega)))) ?_
  refine br_t (by decide) (br_t hc ?_)
  unfold wY_callPart_120
  refine ym_tok hx hn hn' hp ?_
  refine br_c (fun z => nm_r ((congrArg (· + 1) hx).trans (nI_1 _)) (H1 z)) (fun z => br_f (by decide) ?_)
  refine br_t hc ?_
  unfold wY_callPart_174
  refine ym_then 24 q (by decide) (by omega) hv hh ht (by omega) hd fun td hd => ?_
  exact ym_then 16 0 (by decide) (by decide) hv hh rfl (by simp only [List.length_cons]; omega) hd (H2 z)
theorem ym_args1 {post : SY → Prop} {f_count f_place f_length f_functions f_loaded f_loops f_outside f_tt f_vt f_pos f_bad f_checking f_live f_pending f_carry f_active f_ticks f_status f_result f_endedAt f_used f_printed : Int32} {a_kind a_value a_code a_number a_given a_begins a_params a_todo a_val a_vars a_output a_memory : Nat → Int32} {n p h : Nat} {T : List Nat} (hx : f_pos = nI p) (hn : f_length = nI n) (hn' : n ≤ 120) (hp : p ≤ 120) (hb : f_bad = 0) (hv : f_vt = nI h) (hh : h < 1024) (ht : f_tt = nI T.length) (hd : yp_Td a_todo T) {q : Nat} {x : Int32} (hc : ¬ f_checking = 0) (hq : x = nI q) (hq' : q < 120) (hl : T.length + 8 < 1300)
    (H1 : gm_tk a_code n p = 5 → post (f_count, f_place, f_length, f_functions, f_loaded, f_loops, f_outside, f_tt, f_vt, nI (p + 1), f_bad, f_checking, f_live, f_pending, f_carry, f_active, f_ticks, f_status, f_result, f_endedAt, f_used, f_printed, a_kind, a_value, a_code, a_number, upd a_given q (nI 0), a_begins, a_params, a_todo, a_val, a_vars, a_output, a_memory)) (H2 : ¬ gm_tk a_code n p = 5 → ∀ td, yp_Td td (yp_n 16 0 h :: yp_n 24 q h :: T) → post (f_count, f_place, f_length, f_functions, f_loaded, f_loops, f_outside, nI (yp_n 16 0 h :: yp_n 24 q h :: T).length, f_vt, f_pos, f_bad, f_checking, f_live, f_pending, f_carry, f_active, f_ticks, f_status, f_result, f_endedAt, f_used, f_printed, a_kind, a_value, a_code, a_number, upd a_given q (nI 1), a_begins, a_params, td, a_val, a_vars, a_output, a_memory)) : wY_callPart_93 post 23 x f_count f_place f_length f_functions f_loaded f_loops f_outside f_tt f_vt f_pos f_bad f_checking f_live f_pending f_carry f_active f_ticks f_status f_result f_endedAt f_used f_printed a_kind a_value a_code a_number a_given a_begins a_params a_todo a_val a_vars a_output a_memory := by
  subst hq
  have h3 : (nI q).toNatClampNeg = q := nI_clamp (by omega)
  refine nm_r (e' := nI q) ((pk_andN (by omega) 7 (by decide)).trans (congrArg nI (Nat.mod_eq_of_lt (by omega)))) ?_
  refine br_t (by decide) (br_f hc ⟨vp_in_nI hq' (by decide), nm_r (e' := upd a_given q (nI 0)) (by rw [h3]; rfl) ?_⟩)
  unfold wY_callPart_120
  refine ym_tok hx hn hn' hp ?_
  refine br_c (fun z => nm_r ((congrArg (· + 1) hx).trans (nI_1 _)) (H1 z)) (fun z => br_f (by decide) ?_)
  refine br_f hc ⟨vp_in_nI hq' (by decide), vp_in_nI hq' (by decide), nm_r (e' := upd a_given q (nI 1)) (by rw [h3, pk_us, gu_uu]; rfl) ?_⟩
  unfold wY_callPart_174
  refine ym_then 24 q (by decide) (by omega) hv hh ht (by omega) hd fun td hd => ?_
  exact ym_then 16 0 (by decide) (by decide) hv hh rfl (by simp only [List.length_cons]; omega) hd (H2 z)
theorem ym_margs0 {post : SY → Prop} {f_count f_place f_length f_functions f_loaded f_loops f_outside f_tt f_vt f_pos f_bad f_checking f_live f_pending f_carry f_active f_ticks f_status f_result f_endedAt f_used f_printed : Int32} {a_kind a_value a_code a_number a_given a_begins a_params a_todo a_val a_vars a_output a_memory : Nat → Int32} {n p h : Nat} {T : List Nat} (hx : f_pos = nI p) (hn : f_length = nI n) (hn' : n ≤ 120) (hp : p ≤ 120) (hb : f_bad = 0) (hv : f_vt = nI h) (hh : h < 1024) (ht : f_tt = nI T.length) (hd : yp_Td a_todo T) {q : Nat} {x : Int32} (hc : f_checking = 0) (hq : x = nI q) (hq' : q < 120) (hl : T.length + 8 < 1300)
    (H1 : gm_tk a_code n p = 5 → post (f_count, f_place, f_length, f_functions, f_loaded, f_loops, f_outside, f_tt, f_vt, nI (p + 1), f_bad, f_checking, f_live, f_pending, f_carry, f_active, f_ticks, f_status, f_result, f_endedAt, f_used, f_printed, a_kind, a_value, a_code, a_number, a_given, a_begins, a_params, a_todo, a_val, a_vars, a_output, a_memory)) (H2 : ¬ gm_tk a_code n p = 5 → gm_tk a_code n p = 11 → ∀ td, yp_Td td (yp_n 16 0 h :: yp_n 24 q h :: T) → post (f_count, f_place, f_length, f_functions, f_loaded, f_loops, f_outside, nI (yp_n 16 0 h :: yp_n 24 q h :: T).length, f_vt, nI (p + 1), f_bad, f_checking, f_live, f_pending, f_carry, f_active, f_ticks, f_status, f_result, f_endedAt, f_used, f_printed, a_kind, a_value, a_code, a_number, a_given, a_begins, a_params, td, a_val, a_vars, a_output, a_memory))
    (H3 : ¬ gm_tk a_code n p = 5 → ¬ gm_tk a_code n p = 11 → post (f_count, f_place, f_length, f_functions, f_loaded, f_loops, f_outside, f_tt, f_vt, f_pos, 1, f_checking, f_live, f_pending, f_carry, f_active, f_ticks, f_status, f_result, f_endedAt, f_used, f_printed, a_kind, a_value, a_code, a_number, a_given, a_begins, a_params, a_todo, a_val, a_vars, a_output, a_memory)) : wY_callPart_93 post 24 x f_count f_place f_length f_functions f_loaded f_loops f_outside f_tt f_vt f_pos f_bad f_checking f_live f_pending f_carry f_active f_ticks f_status f_result f_endedAt f_used f_printed a_kind a_value a_code a_number a_given a_begins a_params a_todo a_val a_vars a_output a_memory := by
  subst hq
  refine nm_r (e' := nI q) ((pk_andN (by omega) 7 (by decide)).trans (congrArg nI (Nat.mod_eq_of_lt (by omega)))) ?_
  refine br_f (by decide) ?_
  unfold wY_callPart_120
  refine ym_tok hx hn hn' hp ?_
  refine br_c (fun z => nm_r ((congrArg (· + 1) hx).trans (nI_1 _)) (H1 z)) (fun z => br_t (by decide) ?_)
  refine ym_take 11 hx hn hn' hp hb (fun y => br_f (by decide) ?_) (fun y => br_t rfl (H3 z y))
  refine br_t hc ?_
  unfold wY_callPart_174
  refine ym_then 24 q (by decide) (by omega) hv hh ht (by omega) hd fun td hd => ?_
  exact ym_then 16 0 (by decide) (by decide) hv hh rfl (by simp only [List.length_cons]; omega) hd (H2 z y)
theorem ym_margs1 {post : SY → Prop} {f_count f_place f_length f_functions f_loaded f_loops f_outside f_tt f_vt f_pos f_bad f_checking f_live f_pending f_carry f_active f_ticks f_status f_result f_endedAt f_used f_printed : Int32} {a_kind a_value a_code a_number a_given a_begins a_params a_todo a_val a_vars a_output a_memory : Nat → Int32} {n p h : Nat} {T : List Nat} (hx : f_pos = nI p) (hn : f_length = nI n) (hn' : n ≤ 120) (hp : p ≤ 120) (hb : f_bad = 0) (hv : f_vt = nI h) (hh : h < 1024) (ht : f_tt = nI T.length) (hd : yp_Td a_todo T) {q c : Nat} {x : Int32} (hc : ¬ f_checking = 0) (hq : x = nI q) (hq' : q < 120) (hg : a_given q = nI c) (hg' : c < 127) (hl : T.length + 8 < 1300)
    (H1 : gm_tk a_code n p = 5 → post (f_count, f_place, f_length, f_functions, f_loaded, f_loops, f_outside, f_tt, f_vt, nI (p + 1), f_bad, f_checking, f_live, f_pending, f_carry, f_active, f_ticks, f_status, f_result, f_endedAt, f_used, f_printed, a_kind, a_value, a_code, a_number, a_given, a_begins, a_params, a_todo, a_val, a_vars, a_output, a_memory)) (H2 : ¬ gm_tk a_code n p = 5 → gm_tk a_code n p = 11 → ∀ td, yp_Td td (yp_n 16 0 h :: yp_n 24 q h :: T) → post (f_count, f_place, f_length, f_functions, f_loaded, f_loops, f_outside, nI (yp_n 16 0 h :: yp_n 24 q h :: T).length, f_vt, nI (p + 1), f_bad, f_checking, f_live, f_pending, f_carry, f_active, f_ticks, f_status, f_result, f_endedAt, f_used, f_printed, a_kind, a_value, a_code, a_number, upd a_given q (nI (c + 1)), a_begins, a_params, td, a_val, a_vars, a_output, a_memory))
    (H3 : ¬ gm_tk a_code n p = 5 → ¬ gm_tk a_code n p = 11 → post (f_count, f_place, f_length, f_functions, f_loaded, f_loops, f_outside, f_tt, f_vt, f_pos, 1, f_checking, f_live, f_pending, f_carry, f_active, f_ticks, f_status, f_result, f_endedAt, f_used, f_printed, a_kind, a_value, a_code, a_number, a_given, a_begins, a_params, a_todo, a_val, a_vars, a_output, a_memory)) : wY_callPart_93 post 24 x f_count f_place f_length f_functions f_loaded f_loops f_outside f_tt f_vt f_pos f_bad f_checking f_live f_pending f_carry f_active f_ticks f_status f_result f_endedAt f_used f_printed a_kind a_value a_code a_number a_given a_begins a_params a_todo a_val a_vars a_output a_memory := by
  subst hq
  have h3 : (nI q).toNatClampNeg = q := nI_clamp (by omega)
  refine nm_r (e' := nI q) ((pk_andN (by omega) 7 (by decide)).trans (congrArg nI (Nat.mod_eq_of_lt (by omega)))) ?_
  refine br_f (by decide) ?_
  unfold wY_callPart_120
  refine ym_tok hx hn hn' hp ?_
  refine br_c (fun z => nm_r ((congrArg (· + 1) hx).trans (nI_1 _)) (H1 z)) (fun z => br_t (by decide) ?_)
  refine ym_take 11 hx hn hn' hp hb (fun y => br_f (by decide) ?_) (fun y => br_t rfl (H3 z y))
  refine br_f hc ⟨vp_in_nI hq' (by decide), vp_in_nI hq' (by decide), nm_r (e' := upd a_given q (nI (c + 1))) (by rw [h3, hg, nI_1, ym_nb (by omega)]) ?_⟩
  unfold wY_callPart_174
  refine ym_then 24 q (by decide) (by omega) hv hh ht (by omega) hd fun td hd => ?_
  exact ym_then 16 0 (by decide) (by decide) hv hh rfl (by simp only [List.length_cons]; omega) hd (H2 z y)
theorem ym_fun {post : SY → Prop} {f_count f_place f_length f_functions f_loaded f_loops f_outside f_tt f_vt f_pos f_bad f_checking f_live f_pending f_carry f_active f_ticks f_status f_result f_endedAt f_used f_printed : Int32} {a_kind a_value a_code a_number a_given a_begins a_params a_todo a_val a_vars a_output a_memory : Nat → Int32} {n p h : Nat} {T : List Nat} (hx : f_pos = nI p) (hn : f_length = nI n) (hn' : n ≤ 120) (hp : p ≤ 120) (hb : f_bad = 0) (hv : f_vt = nI h) (hh : h < 1024) (ht : f_tt = nI T.length) (hd : yp_Td a_todo T) {fc : Nat} (hf : f_functions = nI fc) (hf4 : fc ≤ 4) (hr : ∀ q, q < n → ∃ k, k ≤ 41 ∧ a_code q = nI k) (hl : T.length + 8 < 1300)
    (H0 : gm_tk a_code n p = -1 → 0 < fc → post (f_count, f_place, f_length, f_functions, f_loaded, f_loops, f_outside, f_tt, f_vt, f_pos, f_bad, f_checking, f_live, f_pending, f_carry, f_active, f_ticks, f_status, f_result, f_endedAt, f_used, f_printed, a_kind, a_value, a_code, a_number, a_given, a_begins, a_params, a_todo, a_val, a_vars, a_output, a_memory))
    (H4 : ¬ (gm_tk a_code n p = -1 ∧ 0 < fc) → fc = 4 → post (f_count, f_place, f_length, f_functions, f_loaded, f_loops, f_outside, f_tt, f_vt, f_pos, 1, f_checking, f_live, f_pending, f_carry, f_active, f_ticks, f_status, f_result, f_endedAt, f_used, f_printed, a_kind, a_value, a_code, a_number, a_given, a_begins, a_params, a_todo, a_val, a_vars, a_output, a_memory))
    (H41 : ¬ (gm_tk a_code n p = -1 ∧ 0 < fc) → ¬ fc = 4 → ¬ gm_tk a_code n p = 41 → post (f_count, f_place, f_length, f_functions, f_loaded, f_loops, f_outside, f_tt, f_vt, f_pos, 1, f_checking, f_live, f_pending, f_carry, f_active, f_ticks, f_status, f_result, f_endedAt, f_used, f_printed, a_kind, a_value, a_code, a_number, a_given, a_begins, a_params, a_todo, a_val, a_vars, a_output, a_memory))
    (HN : gm_tk a_code n p = 41 → ¬ fc = 4 → ¬ (gm_tk a_code n (p + 1) = 0 ∧ 0 ≤ a_number (p + 1) ∧ a_number (p + 1) ≤ 3) → post (f_count, f_place, f_length, f_functions, f_loaded, f_loops, f_outside, f_tt, f_vt, nI (p + 1), 1, f_checking, f_live, f_pending, f_carry, f_active, f_ticks, f_status, f_result, f_endedAt, f_used, f_printed, a_kind, a_value, a_code, a_number, a_given, a_begins, a_params, a_todo, a_val, a_vars, a_output, a_memory))
    (H8 : gm_tk a_code n p = 41 → ¬ fc = 4 → gm_tk a_code n (p + 1) = 0 ∧ 0 ≤ a_number (p + 1) ∧ a_number (p + 1) ≤ 3 → ¬ gm_tk a_code n (p + 2) = 8 → post (f_count, f_place, f_length, f_functions, f_loaded, f_loops, f_outside, f_tt, f_vt, nI (p + 2), 1, f_checking, f_live, f_pending, f_carry, f_active, f_ticks, f_status, f_result, f_endedAt, f_used, f_printed, a_kind, a_value, a_code, a_number, a_given, a_begins, upd a_params fc (a_number (p + 1)), a_todo, a_val, a_vars, a_output, a_memory))
    (H : gm_tk a_code n p = 41 → ¬ fc = 4 → gm_tk a_code n (p + 1) = 0 ∧ 0 ≤ a_number (p + 1) ∧ a_number (p + 1) ≤ 3 → gm_tk a_code n (p + 2) = 8 → ∀ td, yp_Td td (yp_n 2 0 h :: yp_n 1 0 h :: T) → post (f_count, f_place, f_length, nI (fc + 1), f_loaded, f_loops, f_outside, nI (yp_n 2 0 h :: yp_n 1 0 h :: T).length, f_vt, nI (p + 3), f_bad, f_checking, f_live, f_pending, f_carry, f_active, f_ticks, f_status, f_result, f_endedAt, f_used, f_printed, a_kind, a_value, a_code, a_number, a_given, upd a_begins fc (nI (p + 3)), upd a_params fc (a_number (p + 1)), td, a_val, a_vars, a_output, a_memory)) : wpY_function post (f_count, f_place, f_length, f_functions, f_loaded, f_loops, f_outside, f_tt, f_vt, f_pos, f_bad, f_checking, f_live, f_pending, f_carry, f_active, f_ticks, f_status, f_result, f_endedAt, f_used, f_printed, a_kind, a_value, a_code, a_number, a_given, a_begins, a_params, a_todo, a_val, a_vars, a_output, a_memory) := by
  have key : ¬ (gm_tk a_code n p = -1 ∧ 0 < fc) → wY_function_15 post f_count f_place f_length f_functions f_loaded f_loops f_outside f_tt f_vt f_pos f_bad f_checking f_live f_pending f_carry f_active f_ticks f_status f_result f_endedAt f_used f_printed a_kind a_value a_code a_number a_given a_begins a_params a_todo a_val a_vars a_output a_memory := by
    intro hne
    unfold wY_function_15
    rw [hf]
    refine pk_eq fc 4 (fun z => ?_) (fun z => ?_)
    · rw [hf] at H4
      exact H4 hne z
    · refine ym_take 41 hx hn hn' hp hb (fun y => br_f (by decide) ?_) (fun y => br_t rfl ?_)
      · have hq := gm_tk_lt y (by decide)
        refine ym_tok rfl hn hn' (by omega) (br_c (fun a => ?_) (fun a => ?_))
        · have hq1 := gm_tk_lt a (by decide)
          have e1 : (nI (p + 1)).toNatClampNeg = p + 1 := nI_clamp (by omega)
          have v1 : vp_in (nI (p + 1)) 120 := vp_in_nI (by omega) (by decide)
          rw [e1]
          refine ⟨v1, br_c (fun b => ?_) (fun b => ⟨v1, br_c (fun c => ?_) (fun c => ?_)⟩)⟩
          · rw [hf] at HN
            exact HN y z (fun w => Int32.not_lt.mpr w.2.1 b)
          · have e2 : (nI fc).toNatClampNeg = fc := nI_clamp (by omega)
            have hw : gm_tk a_code n (p + 1) = 0 ∧ 0 ≤ a_number (p + 1) ∧ a_number (p + 1) ≤ 3 := ⟨a, Int32.not_lt.mp b, c⟩
            obtain ⟨u, hu, eu⟩ := nI_of2 (M := 3) (n := 3) (by decide) b c
            have nb : vp_nar .byte (a_number (p + 1)).toInt8.toInt32 = a_number (p + 1) := by rw [eu]; exact ym_nb (by omega)
            refine nm_r (nI_1 _) ⟨v1, vp_in_nI (by omega) (by decide), nm_r (e' := upd a_params fc (a_number (p + 1))) (by rw [e2, nb]) ?_⟩
            refine ym_take 8 rfl hn hn' (by omega) hb (fun d => br_f (by decide) ?_) (fun d => br_t rfl ?_)
            · refine nm_r (nI_1 _) ⟨vp_in_nI (by omega) (by decide), nm_r (e' := upd a_begins fc (nI (p + 3))) (by rw [e2]; exact congrArg (upd a_begins fc) (ym_nb (by omega))) ?_⟩
              have hq2 := gm_tk_lt d (by decide)
              refine ym_then 1 0 (by decide) (by decide) hv hh ht (by omega) hd fun td hd => ?_
              exact ym_then 2 0 (by decide) (by decide) hv hh rfl (by simp only [List.length_cons]; omega) hd (H y z hw d)
            · rw [hf] at H8
              exact H8 y z hw d
          · rw [hf] at HN
            exact HN y z (fun w => c w.2.2)
        · rw [hf] at HN
          exact HN y z (fun w => a w.1)
      · rw [hf] at H41
        exact H41 hne z y
  unfold wpY_function
  refine ym_tok hx hn hn' hp ?_
  rcases gm_tk_r (p := p) hr with hm | ⟨k, hk, hm⟩
  · rw [hm]
    refine br_f (by decide) ?_
    have e : f_functions = nI fc := hf
    rw [hf] at key H0 ⊢
    refine pk_le fc 0 (fun z => key (by omega)) (fun z => H0 hm z)
  · rw [hm]
    refine br_t (nI_pos' (by omega)) (key (fun w => ?_))
    rw [hm] at w
    exact absurd (nI_pos' (n := k) (by omega)) (by rw [w.1]; decide)
end
section
/-! Y: the work loop; a state that isn't live along G's stack -/
def yW (post : SY → Prop) (m : Nat) (s : Int32) (u : SY) : Prop := match u with
  | (f_count, f_place, f_length, f_functions, f_loaded, f_loops, f_outside, f_tt, f_vt, f_pos, f_bad, f_checking, f_live, f_pending, f_carry, f_active, f_ticks, f_status, f_result, f_endedAt, f_used, f_printed, a_kind, a_value, a_code, a_number, a_given, a_begins, a_params, a_todo, a_val, a_vars, a_output, a_memory) => wY_work_2 post m s f_count f_place f_length f_functions f_loaded f_loops f_outside f_tt f_vt f_pos f_bad f_checking f_live f_pending f_carry f_active f_ticks f_status f_result f_endedAt f_used f_printed a_kind a_value a_code a_number a_given a_begins a_params a_todo a_val a_vars a_output a_memory
def yL (post : SY → Prop) (g : Nat) (u : SY) : Prop := ∀ m, 400000 < m + g → yW post m (nI g) u
def yp_e (e low : Nat) : Prop := e % 32768 = low ∧ e < 33554432
theorem yp_e_n {a b h : Nat} (ha : a < 32) (hb : b < 1024) (hh : h < 1024) : yp_e (yp_n a b h) (a + 32 * b) := by
  unfold yp_e
  dsimp only [yp_n]
  omega
theorem yp_e_dec {e a b : Nat} (he : yp_e e (a + 32 * b)) (ha : a < 32) (hb : b < 1024) : nI e &&& 31 = nI a ∧ (nI e >>> ((5 : Int32) &&& 31)) &&& 1023 = nI b ∧ nI e >>> ((15 : Int32) &&& 31) = nI (e / 32768) := by
  unfold yp_e at he
  have h1 : e / 32768 < 1024 := by omega
  have h2 : e = a + 32 * b + 32768 * (e / 32768) := by omega
  have := yp_dec ha hb h1
  rw [← h2] at this
  exact this
theorem yi_0 {post : SY → Prop} {f_count f_place f_length f_functions f_loaded f_loops f_outside f_tt f_vt f_pos f_bad f_checking f_live f_pending f_carry f_active f_ticks f_status f_result f_endedAt f_used f_printed : Int32} {a_kind a_value a_code a_number a_given a_begins a_params a_todo a_val a_vars a_output a_memory : Nat → Int32} {T : List Nat} {e g : Nat} (hg : g < 400000) (ht : f_tt = nI (e :: T).length) (hT : T.length < 1300) (hd : yp_Td a_todo (e :: T)) (hb : f_bad = 0) (hs : f_status = 0)
    (H : ∀ Q : SY → Prop, (∀ v, yL post (g + 1) v → Q v) → ∀ x3 x4 x5 : Int32, x3 = nI e &&& 31 → x4 = (nI e >>> ((5 : Int32) &&& 31)) &&& 1023 → x5 = nI e >>> ((15 : Int32) &&& 31) →
      ((15 ≤ x3 → ((22 ≤ x3 → wpY_callPart Q (f_count, f_place, f_length, f_functions, f_loaded, f_loops, f_outside, nI T.length, f_vt, f_pos, f_bad, f_checking, f_live, f_pending, f_carry, f_active, f_ticks, f_status, f_result, f_endedAt, f_used, f_printed, a_kind, a_value, a_code, a_number, a_given, a_begins, a_params, a_todo, a_val, a_vars, a_output, a_memory) x3 x4 x5) ∧ (¬ 22 ≤ x3 → wpY_expressionPart Q (f_count, f_place, f_length, f_functions, f_loaded, f_loops, f_outside, nI T.length, f_vt, f_pos, f_bad, f_checking, f_live, f_pending, f_carry, f_active, f_ticks, f_status, f_result, f_endedAt, f_used, f_printed, a_kind, a_value, a_code, a_number, a_given, a_begins, a_params, a_todo, a_val, a_vars, a_output, a_memory) x3 x4))) ∧ (¬ 15 ≤ x3 → wpY_statementPart Q (f_count, f_place, f_length, f_functions, f_loaded, f_loops, f_outside, nI T.length, f_vt, f_pos, f_bad, f_checking, f_live, f_pending, f_carry, f_active, f_ticks, f_status, f_result, f_endedAt, f_used, f_printed, a_kind, a_value, a_code, a_number, a_given, a_begins, a_params, a_todo, a_val, a_vars, a_output, a_memory) x3 x4))) : yL post g (f_count, f_place, f_length, f_functions, f_loaded, f_loops, f_outside, f_tt, f_vt, f_pos, f_bad, f_checking, f_live, f_pending, f_carry, f_active, f_ticks, f_status, f_result, f_endedAt, f_used, f_printed, a_kind, a_value, a_code, a_number, a_given, a_begins, a_params, a_todo, a_val, a_vars, a_output, a_memory) := by
  intro m hm
  obtain ⟨m, rfl⟩ : ∃ m', m = m' + 1 := ⟨m - 1, by omega⟩
  subst ht
  have h3 : nI (e :: T).length - 1 = nI T.length := nI_pred _
  have h2 : vp_in (nI T.length) 1300 := vp_in_nI hT (by decide)
  have h4 : (nI T.length).toNatClampNeg = T.length := nI_clamp (by omega)
  refine br_f (nI_ge (b := 400000) hg (by decide)) (br_f (nI_nle (by simp) (by simp; omega)) (br_t hb (br_t hs ?_)))
  rw [h3, h4, hd.1]
  refine nm_e ⟨h2, nm_e (fun x3 e3 x4 e4 x5 e5 => ?_)⟩
  have K : ∀ v, yL post (g + 1) v → (match v with | (f_count, f_place, f_length, f_functions, f_loaded, f_loops, f_outside, f_tt, f_vt, f_pos, f_bad, f_checking, f_live, f_pending, f_carry, f_active, f_ticks, f_status, f_result, f_endedAt, f_used, f_printed, a_kind, a_value, a_code, a_number, a_given, a_begins, a_params, a_todo, a_val, a_vars, a_output, a_memory) => ∀ x1 : Int32, x1 = nI g + 1 → wY_work_2 post m x1 f_count f_place f_length f_functions f_loaded f_loops f_outside f_tt f_vt f_pos f_bad f_checking f_live f_pending f_carry f_active f_ticks f_status f_result f_endedAt f_used f_printed a_kind a_value a_code a_number a_given a_begins a_params a_todo a_val a_vars a_output a_memory) := by
    intro v hv
    obtain ⟨f_count', f_place', f_length', f_functions', f_loaded', f_loops', f_outside', f_tt', f_vt', f_pos', f_bad', f_checking', f_live', f_pending', f_carry', f_active', f_ticks', f_status', f_result', f_endedAt', f_used', f_printed', a_kind', a_value', a_code', a_number', a_given', a_begins', a_params', a_todo', a_val', a_vars', a_output', a_memory'⟩ := v
    exact nm_r (nI_1 _) (hv m (by omega))
  exact H _ K x3 x4 x5 e3 e4 e5
theorem yi_s {post : SY → Prop} {f_count f_place f_length f_functions f_loaded f_loops f_outside f_tt f_vt f_pos f_bad f_checking f_live f_pending f_carry f_active f_ticks f_status f_result f_endedAt f_used f_printed : Int32} {a_kind a_value a_code a_number a_given a_begins a_params a_todo a_val a_vars a_output a_memory : Nat → Int32} {T : List Nat} {e g : Nat} (w b : Nat) (hw : w < 15) (he : yp_e e (w + 32 * b)) (hb' : b < 1024) (hg : g < 400000) (ht : f_tt = nI (e :: T).length) (hT : T.length < 1300) (hd : yp_Td a_todo (e :: T)) (hb : f_bad = 0) (hs : f_status = 0)
    (H : ∀ Q : SY → Prop, (∀ v, yL post (g + 1) v → Q v) → wpY_statementPart Q (f_count, f_place, f_length, f_functions, f_loaded, f_loops, f_outside, nI T.length, f_vt, f_pos, f_bad, f_checking, f_live, f_pending, f_carry, f_active, f_ticks, f_status, f_result, f_endedAt, f_used, f_printed, a_kind, a_value, a_code, a_number, a_given, a_begins, a_params, a_todo, a_val, a_vars, a_output, a_memory) (nI w) (nI b)) : yL post g (f_count, f_place, f_length, f_functions, f_loaded, f_loops, f_outside, f_tt, f_vt, f_pos, f_bad, f_checking, f_live, f_pending, f_carry, f_active, f_ticks, f_status, f_result, f_endedAt, f_used, f_printed, a_kind, a_value, a_code, a_number, a_given, a_begins, a_params, a_todo, a_val, a_vars, a_output, a_memory) := by
  refine yi_0 hg ht hT hd hb hs fun Q hQ x3 x4 x5 e3 e4 e5 => ?_
  have h := yp_e_dec he (by omega) hb'
  rw [h.1] at e3
  rw [h.2.1] at e4
  subst e3 e4
  exact br_f (nI_ge (b := 15) hw (by decide)) (H Q hQ)
theorem yi_e {post : SY → Prop} {f_count f_place f_length f_functions f_loaded f_loops f_outside f_tt f_vt f_pos f_bad f_checking f_live f_pending f_carry f_active f_ticks f_status f_result f_endedAt f_used f_printed : Int32} {a_kind a_value a_code a_number a_given a_begins a_params a_todo a_val a_vars a_output a_memory : Nat → Int32} {T : List Nat} {e g : Nat} (w b : Nat) (hw : 15 ≤ w) (hw' : w < 22) (he : yp_e e (w + 32 * b)) (hb' : b < 1024) (hg : g < 400000) (ht : f_tt = nI (e :: T).length) (hT : T.length < 1300) (hd : yp_Td a_todo (e :: T)) (hb : f_bad = 0) (hs : f_status = 0)
    (H : ∀ Q : SY → Prop, (∀ v, yL post (g + 1) v → Q v) → wpY_expressionPart Q (f_count, f_place, f_length, f_functions, f_loaded, f_loops, f_outside, nI T.length, f_vt, f_pos, f_bad, f_checking, f_live, f_pending, f_carry, f_active, f_ticks, f_status, f_result, f_endedAt, f_used, f_printed, a_kind, a_value, a_code, a_number, a_given, a_begins, a_params, a_todo, a_val, a_vars, a_output, a_memory) (nI w) (nI b)) : yL post g (f_count, f_place, f_length, f_functions, f_loaded, f_loops, f_outside, f_tt, f_vt, f_pos, f_bad, f_checking, f_live, f_pending, f_carry, f_active, f_ticks, f_status, f_result, f_endedAt, f_used, f_printed, a_kind, a_value, a_code, a_number, a_given, a_begins, a_params, a_todo, a_val, a_vars, a_output, a_memory) := by
  refine yi_0 hg ht hT hd hb hs fun Q hQ x3 x4 x5 e3 e4 e5 => ?_
  have h := yp_e_dec he (by omega) hb'
  rw [h.1] at e3
  rw [h.2.1] at e4
  subst e3 e4
  exact br_t (nI_le (a := 15) hw (by omega)) (br_f (nI_ge (b := 22) hw' (by decide)) (H Q hQ))
theorem yi_c {post : SY → Prop} {f_count f_place f_length f_functions f_loaded f_loops f_outside f_tt f_vt f_pos f_bad f_checking f_live f_pending f_carry f_active f_ticks f_status f_result f_endedAt f_used f_printed : Int32} {a_kind a_value a_code a_number a_given a_begins a_params a_todo a_val a_vars a_output a_memory : Nat → Int32} {T : List Nat} {e g : Nat} (w b : Nat) (hw : 22 ≤ w) (hw' : w < 32) (he : yp_e e (w + 32 * b)) (hb' : b < 1024) (hg : g < 400000) (ht : f_tt = nI (e :: T).length) (hT : T.length < 1300) (hd : yp_Td a_todo (e :: T)) (hb : f_bad = 0) (hs : f_status = 0)
    (H : ∀ Q : SY → Prop, (∀ v, yL post (g + 1) v → Q v) → wpY_callPart Q (f_count, f_place, f_length, f_functions, f_loaded, f_loops, f_outside, nI T.length, f_vt, f_pos, f_bad, f_checking, f_live, f_pending, f_carry, f_active, f_ticks, f_status, f_result, f_endedAt, f_used, f_printed, a_kind, a_value, a_code, a_number, a_given, a_begins, a_params, a_todo, a_val, a_vars, a_output, a_memory) (nI w) (nI b) (nI (e / 32768))) : yL post g (f_count, f_place, f_length, f_functions, f_loaded, f_loops, f_outside, f_tt, f_vt, f_pos, f_bad, f_checking, f_live, f_pending, f_carry, f_active, f_ticks, f_status, f_result, f_endedAt, f_used, f_printed, a_kind, a_value, a_code, a_number, a_given, a_begins, a_params, a_todo, a_val, a_vars, a_output, a_memory) := by
  refine yi_0 hg ht hT hd hb hs fun Q hQ x3 x4 x5 e3 e4 e5 => ?_
  have h := yp_e_dec he (by omega) hb'
  rw [h.1] at e3
  rw [h.2.1] at e4
  rw [h.2.2] at e5
  subst e3 e4 e5
  exact br_t (nI_le (a := 15) (by omega) (by omega)) (br_t (nI_le (a := 22) hw (by omega)) (H Q hQ))
/-- the code of an item in Y's todo, but for the height -/
def yd_c (x : gm_I) : Nat :=
  if x.1 = 1 then 1 else if x.1 = 3 then 2 else if x.1 = 4 then 3 else if x.1 = 5 then 4 + 32 * x.2.1 else if x.1 = 6 then 6 else if x.1 = 9 then 8 + 32 * x.2.2.1
  else if x.1 = 13 then 17 + 32 * x.2.1 else if x.1 = 14 then 18 else if x.1 = 15 then 21 else if x.1 = 16 then 23 + 32 * x.2.1 else if x.1 = 17 then 24 + 32 * x.2.1 else if x.1 = 18 then 25 + 32 * x.2.1 else x.2.2.2.1
def yd_R (c : Bool) (pd : Int32) (Tb : List Nat) : List gm_I → List Nat → Prop
  | [], T => T = Tb
  | x :: S, T =>
    if x.1 = 1 then c = true ∧ ∃ e T', T = e :: T' ∧ yp_e e 1 ∧ yd_R c pd Tb S T'
    else if x.1 = 2 then c = true ∧ yd_R c pd Tb S T
    else if x.1 = 8 then yd_R c pd Tb S T
    else if x.1 = 10 then (c = true ∧ ∃ e T', T = e :: T' ∧ yp_e e 10 ∧ yd_R c pd Tb S T') ∨ (c = false ∧ (yd_R c pd Tb S T ∨ (pd = 3 ∧ ∃ q e T', T = e :: T' ∧ q < 1024 ∧ yp_e e (9 + 32 * q) ∧ yd_R c pd Tb S T')))
    else if x.1 = 7 then ∃ q e T', T = e :: T' ∧ q < 2 ∧ yp_e e (7 + 32 * q) ∧ yd_R c pd Tb S T'
    else if x.1 = 12 then (x.2.1 = 1 ∧ ∃ e T', T = e :: T' ∧ yp_e e 16 ∧ yd_R c pd Tb S T') ∨ (x.2.1 ≠ 1 ∧ ∃ e f T', T = e :: f :: T' ∧ yp_e e 18 ∧ yp_e f (17 + 32 * x.2.1) ∧ yd_R c pd Tb S T')
    else ∃ e T', T = e :: T' ∧ yp_e e (yd_c x) ∧ yd_R c pd Tb S T'
theorem yd_len1 {c : Bool} {pd : Int32} {Tb : List Nat} : ∀ {S : List gm_I} {T : List Nat}, yd_R c pd Tb S T → T.length ≤ Tb.length + gm_sm gw_p S
  | [], T, h => by rw [show T = Tb from h]; simp [gm_sm]
  | x :: S, T, h => by
    have ih := @yd_len1 c pd Tb S
    unfold yd_R at h
    simp only [gm_sm]
    obtain ⟨t, a, b, d, v⟩ := x
    dsimp only at h
    by_cases z : t = 1
    · subst z; rw [if_pos rfl] at h
      obtain ⟨h0, e, T', e1, _, e3⟩ := h
      have := ih e3; subst e1; simp [gw_p]; omega
    rw [if_neg z] at h
    by_cases z : t = 2
    · rw [if_pos z] at h; have := ih h.2; omega
    rw [if_neg z] at h
    by_cases z : t = 8
    · rw [if_pos z] at h; have := ih h; omega
    rw [if_neg z] at h
    by_cases z : t = 10
    · subst z; rw [if_pos rfl] at h
      rcases h with ⟨_, e, T', e1, _, e3⟩ | ⟨_, e3 | ⟨_, q, e, T', e1, _, _, e3⟩⟩
      · have := ih e3; subst e1; simp [gw_p, gw_c, gw_r]; omega
      · have := ih e3; omega
      · have := ih e3; subst e1; simp [gw_p, gw_c, gw_r]; omega
    rw [if_neg z] at h
    by_cases z : t = 7
    · subst z; rw [if_pos rfl] at h
      obtain ⟨q, e, T', e1, _, _, e3⟩ := h
      have := ih e3; subst e1; simp [gw_p, gw_c, gw_r]; omega
    rw [if_neg z] at h
    by_cases z : t = 12
    · subst z; rw [if_pos rfl] at h
      rcases h with ⟨_, e, T', e1, _, e3⟩ | ⟨_, e, f, T', e1, _, _, e3⟩
      · have := ih e3; subst e1; simp [gw_p, gw_c, gw_r]; omega
      · have := ih e3; subst e1; simp [gw_p, gw_c, gw_r]; omega
    rw [if_neg z] at h
    obtain ⟨e, T', e1, _, e3⟩ := h
    have := ih e3; subst e1
    have hw : 1 ≤ gw_p (t, a, b, d, v) := by
      simp only [gw_p, gw_c, gw_r]
      repeat' split
      all_goals omega
    simp only [List.length_cons]
    omega
theorem yd_len2 {c : Bool} {pd : Int32} {Tb : List Nat} (hc : c = false) : ∀ {S : List gm_I} {T : List Nat}, yd_R c pd Tb S T → T.length ≤ Tb.length + gm_sm gw_c S + gm_sm gw_r S
  | [], T, h => by rw [show T = Tb from h]; simp [gm_sm]
  | x :: S, T, h => by
    have ih := @yd_len2 c pd Tb hc S
    unfold yd_R at h
    simp only [gm_sm]
    obtain ⟨t, a, b, d, v⟩ := x
    dsimp only at h
    by_cases z : t = 1
    · subst z; rw [if_pos rfl] at h
      obtain ⟨h0, e, T', e1, _, e3⟩ := h
      rw [hc] at h0; cases h0
    rw [if_neg z] at h
    by_cases z : t = 2
    · rw [if_pos z] at h; have := ih h.2; omega
    rw [if_neg z] at h
    by_cases z : t = 8
    · rw [if_pos z] at h; have := ih h; omega
    rw [if_neg z] at h
    by_cases z : t = 10
    · subst z; rw [if_pos rfl] at h
      rcases h with ⟨_, e, T', e1, _, e3⟩ | ⟨_, e3 | ⟨_, q, e, T', e1, _, _, e3⟩⟩
      · have := ih e3; subst e1; simp [gw_p, gw_c, gw_r]; omega
      · have := ih e3; omega
      · have := ih e3; subst e1; simp [gw_p, gw_c, gw_r]; omega
    rw [if_neg z] at h
    by_cases z : t = 7
    · subst z; rw [if_pos rfl] at h
      obtain ⟨q, e, T', e1, _, _, e3⟩ := h
      have := ih e3; subst e1; simp [gw_p, gw_c, gw_r]; omega
    rw [if_neg z] at h
    by_cases z : t = 12
    · subst z; rw [if_pos rfl] at h
      rcases h with ⟨_, e, T', e1, _, e3⟩ | ⟨_, e, f, T', e1, _, _, e3⟩
      · have := ih e3; subst e1; simp [gw_p, gw_c, gw_r]; omega
      · have := ih e3; subst e1; simp [gw_p, gw_c, gw_r]; omega
    rw [if_neg z] at h
    obtain ⟨e, T', e1, _, e3⟩ := h
    have := ih e3; subst e1
    have hw : 1 ≤ gw_c (t, a, b, d, v) + gw_r (t, a, b, d, v) := by
      simp only [gw_p, gw_c, gw_r]
      repeat' split
      all_goals omega
    simp only [List.length_cons]
    omega
end
section
/-! Y, not live: one turn of the loop is one step of G -/
def yQ (post : SY → Prop) (W : SY) (c : Bool) (g p : Nat) (R : List gm_I) (T : List Nat) (o : Int32) (fc : Nat) (A : gm_A) : Prop :=
  ∀ td, yp_Td td T → yL post g (W.1, W.2.1, W.2.2.1, if c = true then nI fc else W.2.2.2.1, W.2.2.2.2.1, if c = true then nI (gm_opn R).length else W.2.2.2.2.2.1, if c = true then o else W.2.2.2.2.2.2.1, nI T.length, W.2.2.2.2.2.2.2.2.1, nI p, 0, W.2.2.2.2.2.2.2.2.2.2.2.1, 0, W.2.2.2.2.2.2.2.2.2.2.2.2.2.1, W.2.2.2.2.2.2.2.2.2.2.2.2.2.2.1, W.2.2.2.2.2.2.2.2.2.2.2.2.2.2.2.1, W.2.2.2.2.2.2.2.2.2.2.2.2.2.2.2.2.1, 0, W.2.2.2.2.2.2.2.2.2.2.2.2.2.2.2.2.2.2.1, W.2.2.2.2.2.2.2.2.2.2.2.2.2.2.2.2.2.2.2.1, W.2.2.2.2.2.2.2.2.2.2.2.2.2.2.2.2.2.2.2.2.1, W.2.2.2.2.2.2.2.2.2.2.2.2.2.2.2.2.2.2.2.2.2.1, W.2.2.2.2.2.2.2.2.2.2.2.2.2.2.2.2.2.2.2.2.2.2.1, W.2.2.2.2.2.2.2.2.2.2.2.2.2.2.2.2.2.2.2.2.2.2.2.1, W.2.2.2.2.2.2.2.2.2.2.2.2.2.2.2.2.2.2.2.2.2.2.2.2.1, W.2.2.2.2.2.2.2.2.2.2.2.2.2.2.2.2.2.2.2.2.2.2.2.2.2.1, if c = true then A.2.2.2.2.1 else W.2.2.2.2.2.2.2.2.2.2.2.2.2.2.2.2.2.2.2.2.2.2.2.2.2.2.1, if c = true then A.2.2.2.2.2.2.2 else W.2.2.2.2.2.2.2.2.2.2.2.2.2.2.2.2.2.2.2.2.2.2.2.2.2.2.2.1, if c = true then A.2.2.2.2.2.2.1 else W.2.2.2.2.2.2.2.2.2.2.2.2.2.2.2.2.2.2.2.2.2.2.2.2.2.2.2.2.1, td, W.2.2.2.2.2.2.2.2.2.2.2.2.2.2.2.2.2.2.2.2.2.2.2.2.2.2.2.2.2.2.1, W.2.2.2.2.2.2.2.2.2.2.2.2.2.2.2.2.2.2.2.2.2.2.2.2.2.2.2.2.2.2.2.1, W.2.2.2.2.2.2.2.2.2.2.2.2.2.2.2.2.2.2.2.2.2.2.2.2.2.2.2.2.2.2.2.2.1, W.2.2.2.2.2.2.2.2.2.2.2.2.2.2.2.2.2.2.2.2.2.2.2.2.2.2.2.2.2.2.2.2.2)
def yE (post : SY → Prop) (W : SY) (g e : Nat) (ac fp : Nat → Int32) : Prop :=
  ∀ (tt lo ou fn : Int32) (td be : Nat → Int32), yL post g (W.1, W.2.1, W.2.2.1, fn, W.2.2.2.2.1, lo, ou, tt, W.2.2.2.2.2.2.2.2.1, nI e, 1, W.2.2.2.2.2.2.2.2.2.2.2.1, 0, W.2.2.2.2.2.2.2.2.2.2.2.2.2.1, W.2.2.2.2.2.2.2.2.2.2.2.2.2.2.1, W.2.2.2.2.2.2.2.2.2.2.2.2.2.2.2.1, W.2.2.2.2.2.2.2.2.2.2.2.2.2.2.2.2.1, 0, W.2.2.2.2.2.2.2.2.2.2.2.2.2.2.2.2.2.2.1, W.2.2.2.2.2.2.2.2.2.2.2.2.2.2.2.2.2.2.2.1, W.2.2.2.2.2.2.2.2.2.2.2.2.2.2.2.2.2.2.2.2.1, W.2.2.2.2.2.2.2.2.2.2.2.2.2.2.2.2.2.2.2.2.2.1, W.2.2.2.2.2.2.2.2.2.2.2.2.2.2.2.2.2.2.2.2.2.2.1, W.2.2.2.2.2.2.2.2.2.2.2.2.2.2.2.2.2.2.2.2.2.2.2.1, W.2.2.2.2.2.2.2.2.2.2.2.2.2.2.2.2.2.2.2.2.2.2.2.2.1, W.2.2.2.2.2.2.2.2.2.2.2.2.2.2.2.2.2.2.2.2.2.2.2.2.2.1, ac, be, fp, td, W.2.2.2.2.2.2.2.2.2.2.2.2.2.2.2.2.2.2.2.2.2.2.2.2.2.2.2.2.2.2.1, W.2.2.2.2.2.2.2.2.2.2.2.2.2.2.2.2.2.2.2.2.2.2.2.2.2.2.2.2.2.2.2.1, W.2.2.2.2.2.2.2.2.2.2.2.2.2.2.2.2.2.2.2.2.2.2.2.2.2.2.2.2.2.2.2.2.1, W.2.2.2.2.2.2.2.2.2.2.2.2.2.2.2.2.2.2.2.2.2.2.2.2.2.2.2.2.2.2.2.2.2)
def yh (W : SY) (c : Bool) (n h : Nat) : Prop :=
  W.2.2.1 = nI n ∧ n ≤ 120 ∧ W.2.2.2.2.2.2.2.2.1 = nI h ∧ h < 1024 ∧ gm_tok W.2.2.2.2.2.2.2.2.2.2.2.2.2.2.2.2.2.2.2.2.2.2.2.2.1 W.2.2.2.2.2.2.2.2.2.2.2.2.2.2.2.2.2.2.2.2.2.2.2.2.2.1 n ∧ (c = true → ¬ W.2.2.2.2.2.2.2.2.2.2.2.1 = 0) ∧ (c = false → W.2.2.2.2.2.2.2.2.2.2.2.1 = 0)
section
variable {c : Bool} {pd : Int32} {Tb T : List Nat} {S : List gm_I}
theorem yr_1 {x : gm_I} {e : Nat} (hx : x.1 ≠ 1 ∧ x.1 ≠ 2 ∧ x.1 ≠ 8 ∧ x.1 ≠ 10 ∧ x.1 ≠ 7 ∧ x.1 ≠ 12) (he : yp_e e (yd_c x)) (h : yd_R c pd Tb S T) : yd_R c pd Tb (x :: S) (e :: T) := by
  unfold yd_R
  rw [if_neg hx.1, if_neg hx.2.1, if_neg hx.2.2.1, if_neg hx.2.2.2.1, if_neg hx.2.2.2.2.1, if_neg hx.2.2.2.2.2]
  exact ⟨e, T, rfl, he, h⟩
theorem yr_E1 {e : Nat} (he : yp_e e 16) (h : yd_R c pd Tb S T) : yd_R c pd Tb (gi_E 1 :: S) (e :: T) := Or.inl ⟨rfl, e, T, rfl, he, h⟩
theorem yr_E {e f w : Nat} (hw : w ≠ 1) (he : yp_e e 18) (hf : yp_e f (17 + 32 * w)) (h : yd_R c pd Tb S T) : yd_R c pd Tb (gi_E w :: S) (e :: f :: T) := Or.inr ⟨hw, e, f, T, rfl, he, hf, h⟩
theorem yr_U {l : Nat} (h : yd_R c pd Tb S T) : yd_R c pd Tb (gi_U l :: S) T := h
theorem yr_L {l q e : Nat} (hq : q < 2) (he : yp_e e (7 + 32 * q)) (h : yd_R c pd Tb S T) : yd_R c pd Tb (gi_L l :: S) (e :: T) := ⟨q, e, T, rfl, hq, he, h⟩
theorem yr_Ot {l e : Nat} (hc : c = true) (he : yp_e e 10) (h : yd_R c pd Tb S T) : yd_R c pd Tb (gi_O l :: S) (e :: T) := Or.inl ⟨hc, e, T, rfl, he, h⟩
theorem yr_Of {l : Nat} (hc : c = false) (h : yd_R c pd Tb S T) : yd_R c pd Tb (gi_O l :: S) T := Or.inr ⟨hc, Or.inl h⟩
theorem yr_F (hc : c = true) (h : yd_R c pd Tb S T) : yd_R c pd Tb (gi_F :: S) T := ⟨hc, h⟩
theorem yr_P {e : Nat} (hc : c = true) (he : yp_e e 1) (h : yd_R c pd Tb S T) : yd_R c pd Tb (gi_P :: S) (e :: T) := ⟨hc, e, T, rfl, he, h⟩
end
theorem yg_stm {post : SY → Prop} {W : SY} {c : Bool} {pd : Int32} {Tb T : List Nat} {S Sb : List gm_I} {n g p h cc lc fc : Nat} {o : Int32} {A : gm_A} {Q : SY → Prop} (hQ : ∀ v, yL post (g + 1) v → Q v) (hW : yh W c n h) (hp : p ≤ n) (hT : T.length + 10 < 1300) (hR : yd_R c pd Tb S T) (R : List gm_I) (hRR : gm_opn R = gm_opn (S ++ Sb)) (hlo : (gm_opn (S ++ Sb)).length < 2 ^ 31)
    (H : gm_stm W.2.2.2.2.2.2.2.2.2.2.2.2.2.2.2.2.2.2.2.2.2.2.2.2.1 W.2.2.2.2.2.2.2.2.2.2.2.2.2.2.2.2.2.2.2.2.2.2.2.2.2.1 n (fun e w => c = true ∧ yE post W (g + 1) e A.2.2.2.2.1 (gu_f A.2.2.2.2.2.2.1 fc w)) (fun p' S' lc' fc' b es lw aw fw => ∀ S1 T', S' = S1 ++ Sb → yd_R c pd Tb S1 T' → yQ post W c (g + 1) p' S' T' (gm_o b p o) fc' (gm_up A cc fc p' es lw aw fw)) p (S ++ Sb) cc lc fc) (td : Nat → Int32) (hd : yp_Td td T) : wpY_statement Q (W.1, W.2.1, W.2.2.1, if c = true then nI fc else W.2.2.2.1, W.2.2.2.2.1, if c = true then nI (gm_opn R).length else W.2.2.2.2.2.1, if c = true then o else W.2.2.2.2.2.2.1, nI T.length, W.2.2.2.2.2.2.2.2.1, nI p, 0, W.2.2.2.2.2.2.2.2.2.2.2.1, 0, W.2.2.2.2.2.2.2.2.2.2.2.2.2.1, W.2.2.2.2.2.2.2.2.2.2.2.2.2.2.1, W.2.2.2.2.2.2.2.2.2.2.2.2.2.2.2.1, W.2.2.2.2.2.2.2.2.2.2.2.2.2.2.2.2.1, 0, W.2.2.2.2.2.2.2.2.2.2.2.2.2.2.2.2.2.2.1, W.2.2.2.2.2.2.2.2.2.2.2.2.2.2.2.2.2.2.2.1, W.2.2.2.2.2.2.2.2.2.2.2.2.2.2.2.2.2.2.2.2.1, W.2.2.2.2.2.2.2.2.2.2.2.2.2.2.2.2.2.2.2.2.2.1, W.2.2.2.2.2.2.2.2.2.2.2.2.2.2.2.2.2.2.2.2.2.2.1, W.2.2.2.2.2.2.2.2.2.2.2.2.2.2.2.2.2.2.2.2.2.2.2.1, W.2.2.2.2.2.2.2.2.2.2.2.2.2.2.2.2.2.2.2.2.2.2.2.2.1, W.2.2.2.2.2.2.2.2.2.2.2.2.2.2.2.2.2.2.2.2.2.2.2.2.2.1, if c = true then A.2.2.2.2.1 else W.2.2.2.2.2.2.2.2.2.2.2.2.2.2.2.2.2.2.2.2.2.2.2.2.2.2.1, if c = true then A.2.2.2.2.2.2.2 else W.2.2.2.2.2.2.2.2.2.2.2.2.2.2.2.2.2.2.2.2.2.2.2.2.2.2.2.1, if c = true then A.2.2.2.2.2.2.1 else W.2.2.2.2.2.2.2.2.2.2.2.2.2.2.2.2.2.2.2.2.2.2.2.2.2.2.2.2.1, td, W.2.2.2.2.2.2.2.2.2.2.2.2.2.2.2.2.2.2.2.2.2.2.2.2.2.2.2.2.2.2.1, W.2.2.2.2.2.2.2.2.2.2.2.2.2.2.2.2.2.2.2.2.2.2.2.2.2.2.2.2.2.2.2.1, W.2.2.2.2.2.2.2.2.2.2.2.2.2.2.2.2.2.2.2.2.2.2.2.2.2.2.2.2.2.2.2.2.1, W.2.2.2.2.2.2.2.2.2.2.2.2.2.2.2.2.2.2.2.2.2.2.2.2.2.2.2.2.2.2.2.2.2) := by
  have hn := hW.2.1
  have hh := hW.2.2.2.1
  have htk := hW.2.2.2.2.1
  rw [hRR]
  unfold gm_stm at H
  by_cases h8 : gm_tk W.2.2.2.2.2.2.2.2.2.2.2.2.2.2.2.2.2.2.2.2.2.2.2.2.1 n p = 8
  · rw [if_pos h8] at H
    have hq := gm_tk_lt h8 (by decide)
    refine ym_st8 rfl hW.1 hW.2.1 (by omega) rfl hW.2.2.1 hh rfl hd (by omega) h8 fun td hd => hQ _ (H (gi_B :: S) _ rfl (yr_1 (by simp) (yp_e_n (a := 2) (b := 0) (h := h) (by decide) (by omega) hh) hR) _ hd)
  rw [if_neg h8] at H
  by_cases h1 : gm_tk W.2.2.2.2.2.2.2.2.2.2.2.2.2.2.2.2.2.2.2.2.2.2.2.2.1 n p = 1
  · rw [if_pos h1] at H
    have hq := gm_tk_lt h1 (by decide)
    obtain ⟨u, hu, eu⟩ := (htk p hq).2.1 ((gm_tk_K hq).symm.trans h1)
    refine ym_st1 rfl hW.1 hW.2.1 (by omega) rfl hW.2.2.1 hh rfl hd (by omega) h1 hq eu hu (fun h2 => ?_) (fun h2 => ?_)
    · rw [if_pos h2, eu, nI_clamp (by omega)] at H
      exact fun td hd => hQ _ (H (gi_E 1 :: gi_M1 53 p (13 + 32 * u) (nI u) :: gi_X 10 :: S) _ rfl (yr_E1 (yp_e_n (a := 16) (b := 0) (h := h) (by decide) (by omega) hh) (yr_1 (by simp) (yp_e_n (a := 13) (b := u) (h := h) (by decide) (by omega) hh) (yr_1 (by simp) (yp_e_n (a := 4) (b := 10) (h := h) (by decide) (by omega) hh) hR))) _ hd)
    · rw [if_neg h2] at H
      intro tt td; obtain ⟨hc, H⟩ := H; subst hc; exact hQ _ (H _ _ _ _ _ _)
  rw [if_neg h1] at H
  by_cases h3 : gm_tk W.2.2.2.2.2.2.2.2.2.2.2.2.2.2.2.2.2.2.2.2.2.2.2.2.1 n p = 3
  · rw [if_pos h3] at H
    have hq := gm_tk_lt h3 (by decide)
    refine ym_st3 rfl hW.1 hW.2.1 (by omega) rfl hW.2.2.1 hh rfl hd (by omega) h3 hq (fun h2 => ?_) (fun h2 => ?_)
    · rw [if_pos h2] at H
      exact fun td hd => hQ _ (H (gi_E 1 :: gi_X 7 :: gi_X 12 :: gi_E 1 :: gi_M2 55 p (14 + 32 * p) _ :: gi_X 10 :: S) _ rfl (yr_E1 (yp_e_n (a := 16) (b := 0) (h := h) (by decide) (by omega) hh) (yr_1 (by simp) (yp_e_n (a := 4) (b := 7) (h := h) (by decide) (by omega) hh) (yr_1 (by simp) (yp_e_n (a := 4) (b := 12) (h := h) (by decide) (by omega) hh) (yr_E1 (yp_e_n (a := 16) (b := 0) (h := h) (by decide) (by omega) hh) (yr_1 (by simp) (yp_e_n (a := 14) (b := p) (h := h) (by decide) (by omega) hh) (yr_1 (by simp) (yp_e_n (a := 4) (b := 10) (h := h) (by decide) (by omega) hh) hR)))))) _ hd)
    · rw [if_neg h2] at H
      intro tt td; obtain ⟨hc, H⟩ := H; subst hc; exact hQ _ (H _ _ _ _ _ _)
  rw [if_neg h3] at H
  by_cases h2 : gm_tk W.2.2.2.2.2.2.2.2.2.2.2.2.2.2.2.2.2.2.2.2.2.2.2.2.1 n p = 2
  · rw [if_pos h2] at H
    have hq := gm_tk_lt h2 (by decide)
    refine ym_st2 rfl hW.1 hW.2.1 (by omega) rfl hW.2.2.1 hh rfl hd (by omega) h2 hq (fun h2 => ?_) (fun h2 => ?_)
    · rw [if_pos h2] at H
      exact fun td hd => hQ _ (H (gi_A p :: gi_C p _ :: gi_M1 56 0 15 0 :: gi_X 10 :: S) _ rfl (yr_1 (by simp) (yp_e_n (a := 23) (b := p) (h := h) (by decide) (by omega) hh) (yr_1 (by simp) (yp_e_n (a := 25) (b := p) (h := h) (by decide) (by omega) hh) (yr_1 (by simp) (yp_e_n (a := 15) (b := 0) (h := h) (by decide) (by omega) hh) (yr_1 (by simp) (yp_e_n (a := 4) (b := 10) (h := h) (by decide) (by omega) hh) hR)))) _ hd)
    · rw [if_neg h2] at H
      intro tt td; obtain ⟨hc, H⟩ := H; subst hc; exact hQ _ (H _ _ _ _ _ _)
  rw [if_neg h2] at H
  by_cases h34 : gm_tk W.2.2.2.2.2.2.2.2.2.2.2.2.2.2.2.2.2.2.2.2.2.2.2.2.1 n p = 34
  · rw [if_pos h34] at H
    have hq := gm_tk_lt h34 (by decide)
    refine ym_st34 rfl hW.1 hW.2.1 (by omega) rfl hW.2.2.1 hh rfl hd (by omega) h34 hq (fun h2 => ?_) (fun h2 => ?_)
    · rw [if_pos h2] at H
      exact fun td hd => hQ _ (H (gi_E 1 :: gi_X 5 :: gi_I lc :: S) _ rfl (yr_E1 (yp_e_n (a := 16) (b := 0) (h := h) (by decide) (by omega) hh) (yr_1 (by simp) (yp_e_n (a := 4) (b := 5) (h := h) (by decide) (by omega) hh) (yr_1 (by simp) (yp_e_n (a := 6) (b := 0) (h := h) (by decide) (by omega) hh) hR))) _ hd)
    · rw [if_neg h2] at H
      intro tt td; obtain ⟨hc, H⟩ := H; subst hc; exact hQ _ (H _ _ _ _ _ _)
  rw [if_neg h34] at H
  by_cases h36 : gm_tk W.2.2.2.2.2.2.2.2.2.2.2.2.2.2.2.2.2.2.2.2.2.2.2.2.1 n p = 36
  · rw [if_pos h36] at H
    have hq := gm_tk_lt h36 (by decide)
    refine ym_st36 rfl hW.1 hW.2.1 (by omega) rfl hW.2.2.1 hh rfl hd (by omega) rfl h36 hq (fun h2 => ?_) (fun h2 => ?_)
    · rw [if_pos h2] at H
      have hq2 := gm_tk_lt h2 (by decide)
      exact fun td hd => hQ _ (H (gi_E 1 :: gi_X 5 :: gi_W lc (p + 2) :: S) _ rfl (yr_E1 (yp_e_n (a := 16) (b := 0) (h := h) (by decide) (by omega) hh) (yr_1 (by simp) (yp_e_n (a := 4) (b := 5) (h := h) (by decide) (by omega) hh) (yr_1 (by simp) (yp_e_n (a := 8) (b := (p + 2)) (h := h) (by decide) (by omega) hh) hR))) _ hd)
    · rw [if_neg h2] at H
      obtain ⟨hc, H⟩ := H; subst hc; exact hQ _ (H _ _ _ _ _ _)
  rw [if_neg h36] at H
  have key : ∀ d, (d = 37 ∨ d = 38) → gm_tk W.2.2.2.2.2.2.2.2.2.2.2.2.2.2.2.2.2.2.2.2.2.2.2.2.1 n p = nI d → gm_brk (fun p' S' lc' fc' b es lw aw fw => ∀ S1 T', S' = S1 ++ Sb → yd_R c pd Tb S1 T' → yQ post W c (g + 1) p' S' T' (gm_o b p o) fc' (gm_up A cc fc p' es lw aw fw)) p (S ++ Sb) lc fc (38 - d) (gm_opn (S ++ Sb)) → wpY_statement Q (W.1, W.2.1, W.2.2.1, if c = true then nI fc else W.2.2.2.1, W.2.2.2.2.1, if c = true then nI (gm_opn (S ++ Sb)).length else W.2.2.2.2.2.1, if c = true then o else W.2.2.2.2.2.2.1, nI T.length, W.2.2.2.2.2.2.2.2.1, nI p, 0, W.2.2.2.2.2.2.2.2.2.2.2.1, 0, W.2.2.2.2.2.2.2.2.2.2.2.2.2.1, W.2.2.2.2.2.2.2.2.2.2.2.2.2.2.1, W.2.2.2.2.2.2.2.2.2.2.2.2.2.2.2.1, W.2.2.2.2.2.2.2.2.2.2.2.2.2.2.2.2.1, 0, W.2.2.2.2.2.2.2.2.2.2.2.2.2.2.2.2.2.2.1, W.2.2.2.2.2.2.2.2.2.2.2.2.2.2.2.2.2.2.2.1, W.2.2.2.2.2.2.2.2.2.2.2.2.2.2.2.2.2.2.2.2.1, W.2.2.2.2.2.2.2.2.2.2.2.2.2.2.2.2.2.2.2.2.2.1, W.2.2.2.2.2.2.2.2.2.2.2.2.2.2.2.2.2.2.2.2.2.2.1, W.2.2.2.2.2.2.2.2.2.2.2.2.2.2.2.2.2.2.2.2.2.2.2.1, W.2.2.2.2.2.2.2.2.2.2.2.2.2.2.2.2.2.2.2.2.2.2.2.2.1, W.2.2.2.2.2.2.2.2.2.2.2.2.2.2.2.2.2.2.2.2.2.2.2.2.2.1, if c = true then A.2.2.2.2.1 else W.2.2.2.2.2.2.2.2.2.2.2.2.2.2.2.2.2.2.2.2.2.2.2.2.2.2.1, if c = true then A.2.2.2.2.2.2.2 else W.2.2.2.2.2.2.2.2.2.2.2.2.2.2.2.2.2.2.2.2.2.2.2.2.2.2.2.1, if c = true then A.2.2.2.2.2.2.1 else W.2.2.2.2.2.2.2.2.2.2.2.2.2.2.2.2.2.2.2.2.2.2.2.2.2.2.2.2.1, td, W.2.2.2.2.2.2.2.2.2.2.2.2.2.2.2.2.2.2.2.2.2.2.2.2.2.2.2.2.2.2.1, W.2.2.2.2.2.2.2.2.2.2.2.2.2.2.2.2.2.2.2.2.2.2.2.2.2.2.2.2.2.2.2.1, W.2.2.2.2.2.2.2.2.2.2.2.2.2.2.2.2.2.2.2.2.2.2.2.2.2.2.2.2.2.2.2.2.1, W.2.2.2.2.2.2.2.2.2.2.2.2.2.2.2.2.2.2.2.2.2.2.2.2.2.2.2.2.2.2.2.2.2) := by
    intro d hdd hk H
    have hq := gm_tk_lt' hk (by omega)
    have e10 : gm_opn (gi_X 10 :: (S ++ Sb)) = gm_opn (S ++ Sb) := rfl
    have hr : yd_R c pd Tb (gi_X 10 :: S) (yp_n 4 10 h :: T) := yr_1 (by simp) (yp_e_n (a := 4) (b := 10) (h := h) (by decide) (by omega) hh) hR
    cases hO : gm_opn (S ++ Sb) with
    | nil =>
      rw [hO] at H
      refine ym_st37 (ou := if c = true then gm_o true p o else W.2.2.2.2.2.2.1) rfl hW.1 hW.2.1 (by omega) rfl hW.2.2.1 hh rfl hd hdd (by omega) rfl hk hq ?_ (fun td hd => ?_)
      · cases c with
        | false => rw [if_pos (hW.2.2.2.2.2.2 rfl)]; rfl
        | true => rw [if_neg (hW.2.2.2.2.2.1 rfl)]; rfl
      · have H := H (gi_X 10 :: S) _ rfl hr _ hd
        rw [e10, hO] at H
        exact hQ _ H
    | cons a ol =>
      rw [hO] at H
      refine ym_st37 (ou := if c = true then gm_o false p o else W.2.2.2.2.2.2.1) rfl hW.1 hW.2.1 (by omega) rfl hW.2.2.1 hh rfl hd hdd (by omega) rfl hk hq ?_ (fun td hd => ?_)
      · cases c with
        | false => rw [if_pos (hW.2.2.2.2.2.2 rfl)]; rfl
        | true =>
          have hl : (a :: ol).length < 2 ^ 31 := by rw [← hO]; exact hlo
          rw [if_neg (hW.2.2.2.2.2.1 rfl), if_neg (show ¬ (if true = true then nI (a :: ol).length else W.2.2.2.2.2.1) = 0 from nI_ne0 (by simp) hl)]
          rfl
      · have H := H (gi_X 10 :: S) _ rfl hr _ hd
        rw [e10, hO] at H
        exact hQ _ H
  by_cases h37 : gm_tk W.2.2.2.2.2.2.2.2.2.2.2.2.2.2.2.2.2.2.2.2.2.2.2.2.1 n p = 37
  · rw [if_pos h37] at H
    exact key 37 (Or.inl rfl) h37 H
  rw [if_neg h37] at H
  by_cases h38 : gm_tk W.2.2.2.2.2.2.2.2.2.2.2.2.2.2.2.2.2.2.2.2.2.2.2.2.1 n p = 38
  · rw [if_pos h38] at H
    exact key 38 (Or.inr rfl) h38 H
  rw [if_neg h38] at H
  by_cases h39 : gm_tk W.2.2.2.2.2.2.2.2.2.2.2.2.2.2.2.2.2.2.2.2.2.2.2.2.1 n p = 39
  · rw [if_pos h39] at H
    have hq := gm_tk_lt h39 (by decide)
    exact ym_st39 (d := 39) (e := 11) rfl hW.1 hW.2.1 (by omega) rfl hW.2.2.1 hh rfl hd (Or.inl ⟨rfl, rfl⟩) (by omega) h39 hq fun td hd => hQ _ (H (gi_E 1 :: gi_M1 39 p 11 0 :: gi_X 10 :: S) _ rfl (yr_E1 (yp_e_n (a := 16) (b := 0) (h := h) (by decide) (by omega) hh) (yr_1 (by simp) (yp_e_n (a := 11) (b := 0) (h := h) (by decide) (by omega) hh) (yr_1 (by simp) (yp_e_n (a := 4) (b := 10) (h := h) (by decide) (by omega) hh) hR))) _ hd)
  rw [if_neg h39] at H
  by_cases h40 : gm_tk W.2.2.2.2.2.2.2.2.2.2.2.2.2.2.2.2.2.2.2.2.2.2.2.2.1 n p = 40
  · rw [if_pos h40] at H
    have hq := gm_tk_lt h40 (by decide)
    exact ym_st39 (d := 40) (e := 12) rfl hW.1 hW.2.1 (by omega) rfl hW.2.2.1 hh rfl hd (Or.inr ⟨rfl, rfl⟩) (by omega) h40 hq fun td hd => hQ _ (H (gi_E 1 :: gi_M1 40 p 12 0 :: gi_X 10 :: S) _ rfl (yr_E1 (yp_e_n (a := 16) (b := 0) (h := h) (by decide) (by omega) hh) (yr_1 (by simp) (yp_e_n (a := 12) (b := 0) (h := h) (by decide) (by omega) hh) (yr_1 (by simp) (yp_e_n (a := 4) (b := 10) (h := h) (by decide) (by omega) hh) hR))) _ hd)
  rw [if_neg h40] at H
  refine ym_stE rfl hW.1 hW.2.1 (by omega) h8 h1 h3 h2 h34 h36 h37 h38 h39 h40 ?_
  obtain ⟨hc, H⟩ := H; subst hc; exact hQ _ (H _ _ _ _ _ _)
theorem yg_una {post : SY → Prop} {W : SY} {c : Bool} {pd : Int32} {Tb T : List Nat} {S Sb : List gm_I} {n g p h cc lc fc : Nat} {o : Int32} {A : gm_A} {Q : SY → Prop} (hQ : ∀ v, yL post (g + 1) v → Q v) (hW : yh W c n h) (hp : p ≤ n) (hT : T.length + 10 < 1300) (hR : yd_R c pd Tb S T) (R : List gm_I) (hRR : gm_opn R = gm_opn (S ++ Sb))
    (H : gm_una W.2.2.2.2.2.2.2.2.2.2.2.2.2.2.2.2.2.2.2.2.2.2.2.2.1 W.2.2.2.2.2.2.2.2.2.2.2.2.2.2.2.2.2.2.2.2.2.2.2.2.2.1 n (fun e w => c = true ∧ yE post W (g + 1) e A.2.2.2.2.1 (gu_f A.2.2.2.2.2.2.1 fc w)) (fun p' S' lc' fc' b es lw aw fw => ∀ S1 T', S' = S1 ++ Sb → yd_R c pd Tb S1 T' → yQ post W c (g + 1) p' S' T' (gm_o b p o) fc' (gm_up A cc fc p' es lw aw fw)) p (S ++ Sb) lc fc) (td : Nat → Int32) (hd : yp_Td td T) : wpY_unary Q (W.1, W.2.1, W.2.2.1, if c = true then nI fc else W.2.2.2.1, W.2.2.2.2.1, if c = true then nI (gm_opn R).length else W.2.2.2.2.2.1, if c = true then o else W.2.2.2.2.2.2.1, nI T.length, W.2.2.2.2.2.2.2.2.1, nI p, 0, W.2.2.2.2.2.2.2.2.2.2.2.1, 0, W.2.2.2.2.2.2.2.2.2.2.2.2.2.1, W.2.2.2.2.2.2.2.2.2.2.2.2.2.2.1, W.2.2.2.2.2.2.2.2.2.2.2.2.2.2.2.1, W.2.2.2.2.2.2.2.2.2.2.2.2.2.2.2.2.1, 0, W.2.2.2.2.2.2.2.2.2.2.2.2.2.2.2.2.2.2.1, W.2.2.2.2.2.2.2.2.2.2.2.2.2.2.2.2.2.2.2.1, W.2.2.2.2.2.2.2.2.2.2.2.2.2.2.2.2.2.2.2.2.1, W.2.2.2.2.2.2.2.2.2.2.2.2.2.2.2.2.2.2.2.2.2.1, W.2.2.2.2.2.2.2.2.2.2.2.2.2.2.2.2.2.2.2.2.2.2.1, W.2.2.2.2.2.2.2.2.2.2.2.2.2.2.2.2.2.2.2.2.2.2.2.1, W.2.2.2.2.2.2.2.2.2.2.2.2.2.2.2.2.2.2.2.2.2.2.2.2.1, W.2.2.2.2.2.2.2.2.2.2.2.2.2.2.2.2.2.2.2.2.2.2.2.2.2.1, if c = true then A.2.2.2.2.1 else W.2.2.2.2.2.2.2.2.2.2.2.2.2.2.2.2.2.2.2.2.2.2.2.2.2.2.1, if c = true then A.2.2.2.2.2.2.2 else W.2.2.2.2.2.2.2.2.2.2.2.2.2.2.2.2.2.2.2.2.2.2.2.2.2.2.2.1, if c = true then A.2.2.2.2.2.2.1 else W.2.2.2.2.2.2.2.2.2.2.2.2.2.2.2.2.2.2.2.2.2.2.2.2.2.2.2.2.1, td, W.2.2.2.2.2.2.2.2.2.2.2.2.2.2.2.2.2.2.2.2.2.2.2.2.2.2.2.2.2.2.1, W.2.2.2.2.2.2.2.2.2.2.2.2.2.2.2.2.2.2.2.2.2.2.2.2.2.2.2.2.2.2.2.1, W.2.2.2.2.2.2.2.2.2.2.2.2.2.2.2.2.2.2.2.2.2.2.2.2.2.2.2.2.2.2.2.2.1, W.2.2.2.2.2.2.2.2.2.2.2.2.2.2.2.2.2.2.2.2.2.2.2.2.2.2.2.2.2.2.2.2.2) := by
  have hn := hW.2.1
  have hh := hW.2.2.2.1
  have htk := hW.2.2.2.2.1
  rw [hRR]
  unfold gm_una at H
  by_cases h28 : gm_tk W.2.2.2.2.2.2.2.2.2.2.2.2.2.2.2.2.2.2.2.2.2.2.2.2.1 n p = 28
  · rw [if_pos h28] at H
    exact ym_un (d := 28) rfl hW.1 hW.2.1 (by omega) rfl hW.2.2.1 hh rfl hd (by omega) (by omega) h28 fun td hd => hQ _ (H (gi_N :: gi_M0 50 p 915 0 :: S) _ rfl (yr_1 (by simp) (yp_e_n (a := 18) (b := 0) (h := h) (by decide) (by omega) hh) (yr_1 (by simp) (yp_e_n (a := 19) (b := 28) (h := h) (by decide) (by omega) hh) hR)) _ hd)
  rw [if_neg h28] at H
  by_cases h32 : gm_tk W.2.2.2.2.2.2.2.2.2.2.2.2.2.2.2.2.2.2.2.2.2.2.2.2.1 n p = 32
  · rw [if_pos h32] at H
    exact ym_un (d := 32) rfl hW.1 hW.2.1 (by omega) rfl hW.2.2.1 hh rfl hd (by omega) (by omega) h32 fun td hd => hQ _ (H (gi_N :: gi_M0 32 p 1043 0 :: S) _ rfl (yr_1 (by simp) (yp_e_n (a := 18) (b := 0) (h := h) (by decide) (by omega) hh) (yr_1 (by simp) (yp_e_n (a := 19) (b := 32) (h := h) (by decide) (by omega) hh) hR)) _ hd)
  rw [if_neg h32] at H
  by_cases h33 : gm_tk W.2.2.2.2.2.2.2.2.2.2.2.2.2.2.2.2.2.2.2.2.2.2.2.2.1 n p = 33
  · rw [if_pos h33] at H
    exact ym_un (d := 33) rfl hW.1 hW.2.1 (by omega) rfl hW.2.2.1 hh rfl hd (by omega) (by omega) h33 fun td hd => hQ _ (H (gi_N :: gi_M0 33 p 1075 0 :: S) _ rfl (yr_1 (by simp) (yp_e_n (a := 18) (b := 0) (h := h) (by decide) (by omega) hh) (yr_1 (by simp) (yp_e_n (a := 19) (b := 33) (h := h) (by decide) (by omega) hh) hR)) _ hd)
  rw [if_neg h33] at H
  by_cases h0 : gm_tk W.2.2.2.2.2.2.2.2.2.2.2.2.2.2.2.2.2.2.2.2.2.2.2.2.1 n p = 0
  · rw [if_pos h0] at H
    exact ym_un01 (d := 0) rfl hW.1 hW.2.1 (by omega) rfl (by omega) h0 (hQ _ (H S _ rfl hR _ hd))
  rw [if_neg h0] at H
  by_cases h1 : gm_tk W.2.2.2.2.2.2.2.2.2.2.2.2.2.2.2.2.2.2.2.2.2.2.2.2.1 n p = 1
  · rw [if_pos h1] at H
    exact ym_un01 (d := 1) rfl hW.1 hW.2.1 (by omega) rfl (by omega) h1 (hQ _ (H S _ rfl hR _ hd))
  rw [if_neg h1] at H
  by_cases h2 : gm_tk W.2.2.2.2.2.2.2.2.2.2.2.2.2.2.2.2.2.2.2.2.2.2.2.2.1 n p = 2
  · rw [if_pos h2] at H
    have hq := gm_tk_lt h2 (by decide)
    refine ym_un2 rfl hW.1 hW.2.1 (by omega) rfl hW.2.2.1 hh rfl hd (by omega) h2 hq (fun h2 => ?_) (fun h2 => ?_)
    · rw [if_pos h2] at H
      exact fun td hd => hQ _ (H (gi_A p :: gi_C p _ :: S) _ rfl (yr_1 (by simp) (yp_e_n (a := 23) (b := p) (h := h) (by decide) (by omega) hh) (yr_1 (by simp) (yp_e_n (a := 25) (b := p) (h := h) (by decide) (by omega) hh) hR)) _ hd)
    · rw [if_neg h2] at H
      intro tt td; obtain ⟨hc, H⟩ := H; subst hc; exact hQ _ (H _ _ _ _ _ _)
  rw [if_neg h2] at H
  by_cases h3 : gm_tk W.2.2.2.2.2.2.2.2.2.2.2.2.2.2.2.2.2.2.2.2.2.2.2.2.1 n p = 3
  · rw [if_pos h3] at H
    have hq := gm_tk_lt h3 (by decide)
    refine ym_un3 rfl hW.1 hW.2.1 (by omega) rfl hW.2.2.1 hh rfl hd (by omega) h3 hq (fun h2 => ?_) (fun h2 => ?_)
    · rw [if_pos h2] at H
      exact fun td hd => hQ _ (H (gi_E 1 :: gi_X 7 :: gi_M0 54 p (22 + 32 * p) 0 :: S) _ rfl (yr_E1 (yp_e_n (a := 16) (b := 0) (h := h) (by decide) (by omega) hh) (yr_1 (by simp) (yp_e_n (a := 4) (b := 7) (h := h) (by decide) (by omega) hh) (yr_1 (by simp) (yp_e_n (a := 22) (b := p) (h := h) (by decide) (by omega) hh) hR))) _ hd)
    · rw [if_neg h2] at H
      intro tt td; obtain ⟨hc, H⟩ := H; subst hc; exact hQ _ (H _ _ _ _ _ _)
  rw [if_neg h3] at H
  by_cases h4 : gm_tk W.2.2.2.2.2.2.2.2.2.2.2.2.2.2.2.2.2.2.2.2.2.2.2.2.1 n p = 4
  · rw [if_pos h4] at H
    exact ym_un4 rfl hW.1 hW.2.1 (by omega) rfl hW.2.2.1 hh rfl hd (by omega) h4 fun td hd => hQ _ (H (gi_E 1 :: gi_X 5 :: S) _ rfl (yr_E1 (yp_e_n (a := 16) (b := 0) (h := h) (by decide) (by omega) hh) (yr_1 (by simp) (yp_e_n (a := 4) (b := 5) (h := h) (by decide) (by omega) hh) hR)) _ hd)
  rw [if_neg h4] at H
  refine ym_unE rfl hW.1 hW.2.1 (by omega) h28 h32 h33 h0 h1 h2 h3 h4 ?_
  obtain ⟨hc, H⟩ := H; subst hc; exact hQ _ (H _ _ _ _ _ _)
theorem yg_bin {post : SY → Prop} {W : SY} {c : Bool} {pd : Int32} {Tb T : List Nat} {S Sb : List gm_I} {n g p h cc lc fc : Nat} {o : Int32} {A : gm_A} {Q : SY → Prop} (hQ : ∀ v, yL post (g + 1) v → Q v) (hW : yh W c n h) (hp : p ≤ n) (hT : T.length + 10 < 1300) (hR : yd_R c pd Tb S T) {w : Nat} (hw : 1 ≤ w) (hw' : w ≤ 11) (R : List gm_I) (hRR : gm_opn R = gm_opn (S ++ Sb))
    (H : gm_bin W.2.2.2.2.2.2.2.2.2.2.2.2.2.2.2.2.2.2.2.2.2.2.2.2.1 n (fun p' S' lc' fc' b es lw aw fw => ∀ S1 T', S' = S1 ++ Sb → yd_R c pd Tb S1 T' → yQ post W c (g + 1) p' S' T' (gm_o b p o) fc' (gm_up A cc fc p' es lw aw fw)) p w (S ++ Sb) lc fc) (td : Nat → Int32) (hd : yp_Td td T) : wpY_expressionPart Q (W.1, W.2.1, W.2.2.1, if c = true then nI fc else W.2.2.2.1, W.2.2.2.2.1, if c = true then nI (gm_opn R).length else W.2.2.2.2.2.1, if c = true then o else W.2.2.2.2.2.2.1, nI T.length, W.2.2.2.2.2.2.2.2.1, nI p, 0, W.2.2.2.2.2.2.2.2.2.2.2.1, 0, W.2.2.2.2.2.2.2.2.2.2.2.2.2.1, W.2.2.2.2.2.2.2.2.2.2.2.2.2.2.1, W.2.2.2.2.2.2.2.2.2.2.2.2.2.2.2.1, W.2.2.2.2.2.2.2.2.2.2.2.2.2.2.2.2.1, 0, W.2.2.2.2.2.2.2.2.2.2.2.2.2.2.2.2.2.2.1, W.2.2.2.2.2.2.2.2.2.2.2.2.2.2.2.2.2.2.2.1, W.2.2.2.2.2.2.2.2.2.2.2.2.2.2.2.2.2.2.2.2.1, W.2.2.2.2.2.2.2.2.2.2.2.2.2.2.2.2.2.2.2.2.2.1, W.2.2.2.2.2.2.2.2.2.2.2.2.2.2.2.2.2.2.2.2.2.2.1, W.2.2.2.2.2.2.2.2.2.2.2.2.2.2.2.2.2.2.2.2.2.2.2.1, W.2.2.2.2.2.2.2.2.2.2.2.2.2.2.2.2.2.2.2.2.2.2.2.2.1, W.2.2.2.2.2.2.2.2.2.2.2.2.2.2.2.2.2.2.2.2.2.2.2.2.2.1, if c = true then A.2.2.2.2.1 else W.2.2.2.2.2.2.2.2.2.2.2.2.2.2.2.2.2.2.2.2.2.2.2.2.2.2.1, if c = true then A.2.2.2.2.2.2.2 else W.2.2.2.2.2.2.2.2.2.2.2.2.2.2.2.2.2.2.2.2.2.2.2.2.2.2.2.1, if c = true then A.2.2.2.2.2.2.1 else W.2.2.2.2.2.2.2.2.2.2.2.2.2.2.2.2.2.2.2.2.2.2.2.2.2.2.2.2.1, td, W.2.2.2.2.2.2.2.2.2.2.2.2.2.2.2.2.2.2.2.2.2.2.2.2.2.2.2.2.2.2.1, W.2.2.2.2.2.2.2.2.2.2.2.2.2.2.2.2.2.2.2.2.2.2.2.2.2.2.2.2.2.2.2.1, W.2.2.2.2.2.2.2.2.2.2.2.2.2.2.2.2.2.2.2.2.2.2.2.2.2.2.2.2.2.2.2.2.1, W.2.2.2.2.2.2.2.2.2.2.2.2.2.2.2.2.2.2.2.2.2.2.2.2.2.2.2.2.2.2.2.2.2) 17 (nI w) := by
  have hn := hW.2.1
  have hh := hW.2.2.2.1
  have hr : ∀ q, q < n → ∃ k, k ≤ 41 ∧ W.2.2.2.2.2.2.2.2.2.2.2.2.2.2.2.2.2.2.2.2.2.2.2.2.1 q = nI k := fun q hq => (hW.2.2.2.2.1 q hq).1
  have hs := gm_str_le (gm_tk W.2.2.2.2.2.2.2.2.2.2.2.2.2.2.2.2.2.2.2.2.2.2.2.2.1 n p)
  rw [hRR]
  unfold gm_bin at H
  by_cases h0 : gm_str (gm_tk W.2.2.2.2.2.2.2.2.2.2.2.2.2.2.2.2.2.2.2.2.2.2.2.2.1 n p) < w
  · rw [if_pos h0] at H
    exact ym_bin0 rfl hW.1 hW.2.1 (by omega) rfl hw' hr h0 (hQ _ (H S _ rfl hR _ hd))
  rw [if_neg h0] at H
  have hq : p < n := by
    by_cases z : p < n
    · exact z
    · rw [show gm_tk W.2.2.2.2.2.2.2.2.2.2.2.2.2.2.2.2.2.2.2.2.2.2.2.2.1 n p = -1 from if_neg z, gm_str0] at h0
      omega
  by_cases h13 : gm_tk W.2.2.2.2.2.2.2.2.2.2.2.2.2.2.2.2.2.2.2.2.2.2.2.2.1 n p = 13
  · rw [if_pos h13] at H
    have e : gm_str (gm_tk W.2.2.2.2.2.2.2.2.2.2.2.2.2.2.2.2.2.2.2.2.2.2.2.2.1 n p) = 1 := by rw [h13]; decide
    refine ym_bin2 rfl hW.1 hW.2.1 (by omega) rfl hW.2.2.1 hh rfl hd rfl hw' rfl hr h0 (by omega) hq (by omega) ?_
    rw [e]
    exact fun td hd => hQ _ (H (gi_E 2 :: gi_T lc p :: gi_R w :: S) _ rfl (yr_E (by decide) (yp_e_n (a := 18) (b := 0) (h := h) (by decide) (by omega) hh) (yp_e_n (a := 17) (b := 2) (h := h) (by decide) (by omega) hh) (yr_1 (by simp) (yp_e_n (a := 21) (b := 0) (h := h) (by decide) (by omega) hh) (yr_1 (by simp) (yp_e_n (a := 17) (b := w) (h := h) (by decide) (by omega) hh) hR))) _ hd)
  rw [if_neg h13] at H
  by_cases h14 : gm_tk W.2.2.2.2.2.2.2.2.2.2.2.2.2.2.2.2.2.2.2.2.2.2.2.2.1 n p = 14
  · rw [if_pos h14] at H
    have e : gm_str (gm_tk W.2.2.2.2.2.2.2.2.2.2.2.2.2.2.2.2.2.2.2.2.2.2.2.2.1 n p) = 2 := by rw [h14]; decide
    refine ym_bin2 rfl hW.1 hW.2.1 (by omega) rfl hW.2.2.1 hh rfl hd rfl hw' rfl hr h0 (by omega) hq (by omega) ?_
    rw [e]
    exact fun td hd => hQ _ (H (gi_E 3 :: gi_T lc p :: gi_R w :: S) _ rfl (yr_E (by decide) (yp_e_n (a := 18) (b := 0) (h := h) (by decide) (by omega) hh) (yp_e_n (a := 17) (b := 3) (h := h) (by decide) (by omega) hh) (yr_1 (by simp) (yp_e_n (a := 21) (b := 0) (h := h) (by decide) (by omega) hh) (yr_1 (by simp) (yp_e_n (a := 17) (b := w) (h := h) (by decide) (by omega) hh) hR))) _ hd)
  rw [if_neg h14] at H
  have h2 : 2 < gm_str (gm_tk W.2.2.2.2.2.2.2.2.2.2.2.2.2.2.2.2.2.2.2.2.2.2.2.2.1 n p) := by
    obtain ⟨k, hk1, hk2⟩ := hr p hq
    rw [gm_tk_K hq, hk2] at h0 h13 h14 ⊢
    have := gm_str_k hk1 (by omega)
    have e13 : k ≠ 13 := fun z => h13 (by rw [z]; rfl)
    have e14 : k ≠ 14 := fun z => h14 (by rw [z]; rfl)
    unfold gm_str
    rw [nI_clamp (by omega)]
    repeat' split
    all_goals omega
  exact ym_bin1 rfl hW.1 hW.2.1 (by omega) rfl hW.2.2.1 hh rfl hd rfl hw' hr h0 h2 hq (by omega) fun td hd => hQ _ (H (gi_E (gm_str (gm_tk W.2.2.2.2.2.2.2.2.2.2.2.2.2.2.2.2.2.2.2.2.2.2.2.2.1 n p) + 1) :: gi_M1 _ p (20 + 32 * p) 0 :: gi_R w :: S) _ rfl (yr_E (by omega) (yp_e_n (a := 18) (b := 0) (h := h) (by decide) (by omega) hh) (yp_e_n (a := 17) (b := (gm_str (gm_tk W.2.2.2.2.2.2.2.2.2.2.2.2.2.2.2.2.2.2.2.2.2.2.2.2.1 n p) + 1)) (h := h) (by decide) (by omega) hh) (yr_1 (by simp) (yp_e_n (a := 20) (b := p) (h := h) (by decide) (by omega) hh) (yr_1 (by simp) (yp_e_n (a := 17) (b := w) (h := h) (by decide) (by omega) hh) hR))) _ hd)
end
section
/-! Y, not live: a turn of the loop against a step of G -/
theorem yg_d {post : SY → Prop} {W : SY} {c : Bool} {pd : Int32} {Tb T : List Nat} {x : gm_I} {S Sb : List gm_I} {n g p h cc lc fc : Nat} {o : Int32} {A : gm_A}
    (hW : yh W c n h) (hpd : W.2.2.2.2.2.2.2.2.2.2.2.2.2.1 = pd) (hg : g < 400000) (hp : p ≤ n) (hv : gm_vl W.2.2.2.2.2.2.2.2.2.2.2.2.2.2.2.2.2.2.2.2.2.2.2.2.1 W.2.2.2.2.2.2.2.2.2.2.2.2.2.2.2.2.2.2.2.2.2.2.2.2.2.1 n p x) (hfc : fc ≤ 4) (hA : x.1 = 17 → A.2.2.2.2.1 x.2.1 = nI x.2.2.1) (hS1 : x.1 = 1 → S = []) (hlo : (gm_opn (x :: (S ++ Sb))).length < 2 ^ 31) (hT : T.length + 10 < 1300) (hR : yd_R c pd Tb (x :: S) T)
    (H : gm_d W.2.2.2.2.2.2.2.2.2.2.2.2.2.2.2.2.2.2.2.2.2.2.2.2.1 W.2.2.2.2.2.2.2.2.2.2.2.2.2.2.2.2.2.2.2.2.2.2.2.2.2.1 n (fun e w => c = true ∧ yE post W (g + 1) e A.2.2.2.2.1 (gu_f A.2.2.2.2.2.2.1 fc w)) (fun p' S' lc' fc' b es lw aw fw => ∀ S1 T' g', S' = S1 ++ Sb → g ≤ g' → g' ≤ g + 1 → yd_R c pd Tb S1 T' → yQ post W c g' p' S' T' (gm_o b p o) fc' (gm_up A cc fc p' es lw aw fw)) p x (S ++ Sb) cc lc fc) : yQ post W c g p (x :: (S ++ Sb)) T o fc A := by
  have hn := hW.2.1
  have hh := hW.2.2.2.1
  obtain ⟨t, a, b, e0, v⟩ := x
  unfold gm_d at H
  unfold yd_R at hR
  dsimp only at *
  by_cases z : t = 1
  · subst z
    rw [if_pos rfl] at H
    rw [if_pos rfl] at hR
    obtain ⟨hc, e, T', rfl, he, hR⟩ := hR
    have hr : ∀ q, q < n → ∃ k, k ≤ 41 ∧ W.2.2.2.2.2.2.2.2.2.2.2.2.2.2.2.2.2.2.2.2.2.2.2.2.1 q = nI k := fun q hq => (hW.2.2.2.2.1 q hq).1
    subst hc
    simp only [List.length_cons] at hT
    intro td hd
    refine yi_s 1 0 (by decide) he (by omega) hg rfl (by omega) hd rfl rfl fun Q hQ => ?_
    unfold gm_prg at H
    refine br_f (by decide) (br_f (by decide) (br_t (by decide) (?_)))
    refine ym_fun rfl hW.1 hW.2.1 (by omega) rfl hW.2.2.1 hh rfl hd.2 rfl hfc hr (by omega) (fun a b => ?_) (fun a b => ?_) (fun a b d => ?_) (fun a b d => ?_) (fun a b d q => ?_) (fun a b d q => ?_)
    · rw [if_pos ⟨a, b⟩] at H
      exact hQ _ (H S _ _ rfl (Nat.le_succ g) (Nat.le_refl _) hR _ hd.2)
    · rw [if_neg a, if_pos b] at H
      exact hQ _ (H.2 _ _ _ _ _ _)
    · rw [if_neg a, if_neg b, if_neg d] at H
      exact hQ _ (H.2 _ _ _ _ _ _)
    · rw [if_neg (fun z => absurd (z.1.symm.trans a) (by decide)), if_neg b, if_pos a, if_neg d] at H
      exact hQ _ (H.2 _ _ _ _ _ _)
    · rw [if_neg (fun z => absurd (z.1.symm.trans a) (by decide)), if_neg b, if_pos a, if_pos d, if_neg q] at H
      exact hQ _ (H.2 _ _ _ _ _ _)
    · rw [if_neg (fun z => absurd (z.1.symm.trans a) (by decide)), if_neg b, if_pos a, if_pos d, if_pos q] at H
      exact fun td hd => hQ _ (H (gi_B :: gi_F :: gi_P :: S) _ _ rfl (Nat.le_succ g) (Nat.le_refl _) (yr_1 (by simp) (yp_e_n (a := 2) (b := 0) (h := h) (by decide) (by omega) hh) (yr_F rfl (yr_P rfl (yp_e_n (a := 1) (b := 0) (h := h) (by decide) (by omega) hh) hR))) _ hd)
  rw [if_neg z] at H
  by_cases z : t = 2
  · subst z
    rw [if_pos rfl] at H
    rw [if_neg (by decide)] at hR
    rw [if_pos rfl] at hR
    obtain ⟨hc, hR⟩ := hR
    exact H S _ g rfl (Nat.le_refl _) (Nat.le_succ _) hR
  rw [if_neg z] at H
  by_cases z : t = 3
  · subst z
    rw [if_pos rfl] at H
    rw [if_neg (by decide)] at hR
    rw [if_neg (by decide)] at hR
    rw [if_neg (by decide)] at hR
    rw [if_neg (by decide)] at hR
    rw [if_neg (by decide)] at hR
    rw [if_neg (by decide)] at hR
    obtain ⟨e, T', rfl, he, hR⟩ := hR
    simp only [List.length_cons] at hT
    intro td hd
    refine yi_s 2 0 (by decide) he (by omega) hg rfl (by omega) hd rfl rfl fun Q hQ => ?_
    refine br_f (by decide) (br_f (by decide) (br_f (by decide) (br_t (by decide) (?_))))
    refine ym_tok rfl hW.1 hW.2.1 (by omega) ?_
    refine br_c (fun k => nm_r (nI_1 _) ?_) (fun k => ?_)
    · rw [if_pos k] at H
      exact hQ _ (H S _ _ rfl (Nat.le_succ g) (Nat.le_refl _) hR _ hd.2)
    · rw [if_neg k] at H
      refine ym_then 2 0 (by decide) (by decide) hW.2.2.1 hh rfl (by omega) hd.2 fun td hd => ?_
      exact yg_stm (S := gi_B :: S) hQ hW hp (by simp only [List.length_cons]; omega) (yr_1 (by simp) (yp_e_n (a := 2) (b := 0) (h := h) (by decide) (by omega) hh) hR) ((3, a, b, e0, v) :: (S ++ Sb)) rfl hlo (gm_mo_stm H (fun e w a => a) (fun p' S' lc' fc' b es lw aw fw a S1 T' h1 h2 => a S1 T' _ h1 (Nat.le_succ g) (Nat.le_refl _) h2)) _ hd
  rw [if_neg z] at H
  by_cases z : t = 4
  · subst z
    rw [if_pos rfl] at H
    rw [if_neg (by decide)] at hR
    rw [if_neg (by decide)] at hR
    rw [if_neg (by decide)] at hR
    rw [if_neg (by decide)] at hR
    rw [if_neg (by decide)] at hR
    rw [if_neg (by decide)] at hR
    obtain ⟨e, T', rfl, he, hR⟩ := hR
    simp only [List.length_cons] at hT
    intro td hd
    refine yi_s 3 0 (by decide) he (by omega) hg rfl (by omega) hd rfl rfl fun Q hQ => ?_
    refine br_f (by decide) (br_f (by decide) (br_f (by decide) (br_f (by decide) (br_t (by decide) (?_)))))
    exact yg_stm hQ hW hp (by omega) hR ((4, a, b, e0, v) :: (S ++ Sb)) rfl hlo (gm_mo_stm H (fun e w a => a) (fun p' S' lc' fc' b es lw aw fw a S1 T' h1 h2 => a S1 T' _ h1 (Nat.le_succ g) (Nat.le_refl _) h2)) _ hd.2
  rw [if_neg z] at H
  by_cases z : t = 5
  · subst z
    rw [if_pos rfl] at H
    rw [if_neg (by decide)] at hR
    rw [if_neg (by decide)] at hR
    rw [if_neg (by decide)] at hR
    rw [if_neg (by decide)] at hR
    rw [if_neg (by decide)] at hR
    rw [if_neg (by decide)] at hR
    obtain ⟨e, T', rfl, he, hR⟩ := hR
    simp only [List.length_cons] at hT
    intro td hd
    have hv' : a ≤ 41 := by simpa [gm_vl] using hv
    refine yi_s 4 a (by decide) he (by omega) hg rfl (by omega) hd rfl rfl fun Q hQ => ?_
    refine br_f (by decide) (br_f (by decide) (br_f (by decide) (br_f (by decide) (br_f (by decide) (br_t (by decide) (?_))))))
    refine ym_take (nI a) rfl hW.1 hW.2.1 (by omega) rfl (fun k => ?_) (fun k => ?_)
    · rw [if_pos k] at H
      exact hQ _ (H S _ _ rfl (Nat.le_succ g) (Nat.le_refl _) hR _ hd.2)
    · rw [if_neg k] at H
      obtain ⟨hc, H⟩ := H; subst hc; exact hQ _ (H _ _ _ _ _ _)
  rw [if_neg z] at H
  by_cases z : t = 6
  · subst z
    rw [if_pos rfl] at H
    rw [if_neg (by decide)] at hR
    rw [if_neg (by decide)] at hR
    rw [if_neg (by decide)] at hR
    rw [if_neg (by decide)] at hR
    rw [if_neg (by decide)] at hR
    rw [if_neg (by decide)] at hR
    obtain ⟨e, T', rfl, he, hR⟩ := hR
    simp only [List.length_cons] at hT
    intro td hd
    refine yi_s 6 0 (by decide) he (by omega) hg rfl (by omega) hd rfl rfl fun Q hQ => ?_
    refine br_f (by decide) (br_f (by decide) (br_f (by decide) (br_f (by decide) (br_f (by decide) (br_f (by decide) (br_f (by decide) (br_t (by decide) (br_t rfl (br_f (by decide) ?_)))))))))
    refine ym_then 7 0 (by decide) (by decide) hW.2.2.1 hh rfl (by omega) hd.2 fun td hd => ?_
    refine ym_then 3 0 (by decide) (by decide) hW.2.2.1 hh rfl (by simp only [List.length_cons]; omega) hd fun td hd => ?_
    exact hQ _ (H (gi_S :: gi_L a :: S) _ _ rfl (Nat.le_succ g) (Nat.le_refl _) (yr_1 (by simp) (yp_e_n (a := 3) (b := 0) (h := h) (by decide) (by omega) hh) (yr_L (q := 0) (by decide) (yp_e_n (a := 7) (b := 0) (h := h) (by decide) (by omega) hh) hR)) _ hd)
  rw [if_neg z] at H
  by_cases z : t = 7
  · subst z
    rw [if_pos rfl] at H
    rw [if_neg (by decide)] at hR
    rw [if_neg (by decide)] at hR
    rw [if_neg (by decide)] at hR
    rw [if_neg (by decide)] at hR
    rw [if_pos rfl] at hR
    obtain ⟨q, e, T', rfl, hq, he, hR⟩ := hR
    simp only [List.length_cons] at hT
    intro td hd
    refine yi_s 7 q (by decide) he (by omega) hg rfl (by omega) hd rfl rfl fun Q hQ => ?_
    refine br_f (by decide) (br_f (by decide) (br_f (by decide) (br_f (by decide) (br_f (by decide) (br_f (by decide) (br_f (by decide) (br_f (by decide) (br_t (by decide) (br_f (fun k => ?_) ?_)))))))))
    · have := (nI_eq (a := q) (b := 2) (by omega) (by decide)).mp k; omega
    refine ym_tok rfl hW.1 hW.2.1 (by omega) ?_
    refine br_c (fun k => ?_) (fun k => ?_)
    · rw [if_pos k] at H
      refine nm_r (nI_1 _) (br_c (fun _ => br_t rfl ?_) (fun _ => ?_))
      · exact ym_then 3 0 (by decide) (by decide) hW.2.2.1 hh rfl (by omega) hd.2 fun td hd => hQ _ (H (gi_S :: gi_U a :: S) _ _ rfl (Nat.le_succ g) (Nat.le_refl _) (yr_1 (by simp) (yp_e_n (a := 3) (b := 0) (h := h) (by decide) (by omega) hh) (yr_U hR)) _ hd)
      · exact ym_then 3 0 (by decide) (by decide) hW.2.2.1 hh rfl (by omega) hd.2 fun td hd => hQ _ (H (gi_S :: gi_U a :: S) _ _ rfl (Nat.le_succ g) (Nat.le_refl _) (yr_1 (by simp) (yp_e_n (a := 3) (b := 0) (h := h) (by decide) (by omega) hh) (yr_U hR)) _ hd)
    · rw [if_neg k] at H
      exact hQ _ (H S _ _ rfl (Nat.le_succ g) (Nat.le_refl _) hR _ hd.2)
  rw [if_neg z] at H
  by_cases z : t = 8
  · subst z
    rw [if_pos rfl] at H
    rw [if_neg (by decide)] at hR
    rw [if_neg (by decide)] at hR
    rw [if_pos rfl] at hR
    exact H S _ g rfl (Nat.le_refl _) (Nat.le_succ _) hR
  rw [if_neg z] at H
  by_cases z : t = 9
  · subst z
    rw [if_pos rfl] at H
    rw [if_neg (by decide)] at hR
    rw [if_neg (by decide)] at hR
    rw [if_neg (by decide)] at hR
    rw [if_neg (by decide)] at hR
    rw [if_neg (by decide)] at hR
    rw [if_neg (by decide)] at hR
    obtain ⟨e, T', rfl, he, hR⟩ := hR
    simp only [List.length_cons] at hT
    intro td hd
    have hv' : b ≤ n := by simp [gm_vl] at hv; exact hv.2
    refine yi_s 8 b (by decide) he (by omega) hg rfl (by omega) hd rfl rfl fun Q hQ => ?_
    cases c with
    | false =>
      refine br_f (by decide) (br_f (by decide) (br_f (by decide) (br_f (by decide) (br_f (by decide) (br_f (by decide) (br_f (by decide) (br_f (by decide) (br_f (by decide) (br_t (by decide) (br_t (hW.2.2.2.2.2.2 rfl) (br_t rfl (br_t rfl ?_))))))))))))
      exact ym_then 3 0 (by decide) (by decide) hW.2.2.1 hh rfl (by omega) hd.2 fun td hd => hQ _ (H (gi_S :: gi_O a :: S) _ _ rfl (Nat.le_succ g) (Nat.le_refl _) (yr_1 (by simp) (yp_e_n (a := 3) (b := 0) (h := h) (by decide) (by omega) hh) (yr_Of rfl hR)) _ hd)
    | true =>
      refine br_f (by decide) (br_f (by decide) (br_f (by decide) (br_f (by decide) (br_f (by decide) (br_f (by decide) (br_f (by decide) (br_f (by decide) (br_f (by decide) (br_t (by decide) (br_f (hW.2.2.2.2.2.1 rfl) (nm_r (nI_1 _) ?_)))))))))))
      refine ym_then 10 0 (by decide) (by decide) hW.2.2.1 hh rfl (by omega) hd.2 fun td hd => ?_
      exact ym_then 3 0 (by decide) (by decide) hW.2.2.1 hh rfl (by simp only [List.length_cons]; omega) hd fun td hd => hQ _ (H (gi_S :: gi_O a :: S) _ _ rfl (Nat.le_succ g) (Nat.le_refl _) (yr_1 (by simp) (yp_e_n (a := 3) (b := 0) (h := h) (by decide) (by omega) hh) (yr_Ot rfl (yp_e_n (a := 10) (b := 0) (h := h) (by decide) (by omega) hh) hR)) _ hd)
  rw [if_neg z] at H
  by_cases z : t = 10
  · subst z
    rw [if_pos rfl] at H
    rw [if_neg (by decide)] at hR
    rw [if_neg (by decide)] at hR
    rw [if_neg (by decide)] at hR
    rw [if_pos rfl] at hR
    rcases hR with ⟨hc, e, T', rfl, he, hR⟩ | ⟨hc, hR | ⟨h3, q, e, T', rfl, hq, he, hR⟩⟩
    · simp only [List.length_cons] at hT
      subst hc
      intro td hd
      refine yi_s 10 0 (by decide) he (by omega) hg rfl (by omega) hd rfl rfl fun Q hQ => ?_
      exact br_f (by decide) (br_f (by decide) (br_f (by decide) (br_f (by decide) (br_f (by decide) (br_f (by decide) (br_f (by decide) (br_f (by decide) (br_f (by decide) (br_f (by decide) (br_f (by decide) (br_t (by decide) (nm_r (nI_pred _) (hQ _ (H S _ _ rfl (Nat.le_succ g) (Nat.le_refl _) hR _ hd.2))))))))))))))
    · subst hc
      exact H S _ g rfl (Nat.le_refl _) (Nat.le_succ _) hR
    · simp only [List.length_cons] at hT
      subst hc
      intro td hd
      have hp3 : W.2.2.2.2.2.2.2.2.2.2.2.2.2.1 = 3 := hpd.trans h3
      refine yi_s 9 q (by decide) he (by omega) hg rfl (by omega) hd rfl rfl fun Q hQ => ?_
      exact br_f (by decide) (br_f (by decide) (br_f (by decide) (br_f (by decide) (br_f (by decide) (br_f (by decide) (br_f (by decide) (br_f (by decide) (br_f (by decide) (br_f (by decide) (br_t (by decide) (br_t rfl (br_f (by rw [hp3]; decide) (br_f (by rw [hp3]; decide) (br_f (by rw [hp3]; decide) (br_t rfl (hQ _ (H S _ _ rfl (Nat.le_succ g) (Nat.le_refl _) hR _ hd.2)))))))))))))))))
  rw [if_neg z] at H
  by_cases z : t = 11 ∨ t = 19 ∨ t = 20
  · rw [if_pos z] at H
    rw [if_neg (by omega), if_neg (by omega), if_neg (by omega), if_neg (by omega), if_neg (by omega), if_neg (by omega)] at hR
    obtain ⟨e, T', rfl, he, hR⟩ := hR
    simp only [List.length_cons] at hT
    have eo : gm_opn ((t, a, b, e0, v) :: (S ++ Sb)) = gm_opn (S ++ Sb) := by rcases z with z | z | z <;> subst z <;> rfl
    have ec : yd_c (t, a, b, e0, v) = e0 := by rcases z with z | z | z <;> subst z <;> rfl
    rw [ec] at he
    intro td hd
    rw [eo]
    have hF : ∀ Q : SY → Prop, (∀ v, yL post (g + 1) v → Q v) → Q (W.1, W.2.1, W.2.2.1, if c = true then nI fc else W.2.2.2.1, W.2.2.2.2.1, if c = true then nI (gm_opn (S ++ Sb)).length else W.2.2.2.2.2.1, if c = true then o else W.2.2.2.2.2.2.1, nI T'.length, W.2.2.2.2.2.2.2.2.1, nI p, 0, W.2.2.2.2.2.2.2.2.2.2.2.1, 0, W.2.2.2.2.2.2.2.2.2.2.2.2.2.1, W.2.2.2.2.2.2.2.2.2.2.2.2.2.2.1, W.2.2.2.2.2.2.2.2.2.2.2.2.2.2.2.1, W.2.2.2.2.2.2.2.2.2.2.2.2.2.2.2.2.1, 0, W.2.2.2.2.2.2.2.2.2.2.2.2.2.2.2.2.2.2.1, W.2.2.2.2.2.2.2.2.2.2.2.2.2.2.2.2.2.2.2.1, W.2.2.2.2.2.2.2.2.2.2.2.2.2.2.2.2.2.2.2.2.1, W.2.2.2.2.2.2.2.2.2.2.2.2.2.2.2.2.2.2.2.2.2.1, W.2.2.2.2.2.2.2.2.2.2.2.2.2.2.2.2.2.2.2.2.2.2.1, W.2.2.2.2.2.2.2.2.2.2.2.2.2.2.2.2.2.2.2.2.2.2.2.1, W.2.2.2.2.2.2.2.2.2.2.2.2.2.2.2.2.2.2.2.2.2.2.2.2.1, W.2.2.2.2.2.2.2.2.2.2.2.2.2.2.2.2.2.2.2.2.2.2.2.2.2.1, if c = true then A.2.2.2.2.1 else W.2.2.2.2.2.2.2.2.2.2.2.2.2.2.2.2.2.2.2.2.2.2.2.2.2.2.1, if c = true then A.2.2.2.2.2.2.2 else W.2.2.2.2.2.2.2.2.2.2.2.2.2.2.2.2.2.2.2.2.2.2.2.2.2.2.2.1, if c = true then A.2.2.2.2.2.2.1 else W.2.2.2.2.2.2.2.2.2.2.2.2.2.2.2.2.2.2.2.2.2.2.2.2.2.2.2.2.1, td, W.2.2.2.2.2.2.2.2.2.2.2.2.2.2.2.2.2.2.2.2.2.2.2.2.2.2.2.2.2.2.1, W.2.2.2.2.2.2.2.2.2.2.2.2.2.2.2.2.2.2.2.2.2.2.2.2.2.2.2.2.2.2.2.1, W.2.2.2.2.2.2.2.2.2.2.2.2.2.2.2.2.2.2.2.2.2.2.2.2.2.2.2.2.2.2.2.2.1, W.2.2.2.2.2.2.2.2.2.2.2.2.2.2.2.2.2.2.2.2.2.2.2.2.2.2.2.2.2.2.2.2.2) := fun Q hQ => hQ _ (H S _ _ rfl (Nat.le_succ g) (Nat.le_refl _) hR _ hd.2)
    have hv' : gm_ve W.2.2.2.2.2.2.2.2.2.2.2.2.2.2.2.2.2.2.2.2.2.2.2.2.1 n (t, a, b, e0, v) := by rcases z with z | z | z <;> subst z <;> simpa [gm_vl] using hv
    unfold gm_ve at hv'
    dsimp only at hv'
    rcases z with z | z | z
    · subst z
      rw [if_pos rfl] at hv'
      rcases hv' with ⟨_, rfl⟩ | ⟨_, rfl⟩ | ⟨_, rfl⟩ | ⟨_, hb, rfl⟩
      · refine yi_e 19 28 (by decide) (by decide) he (by omega) hg rfl (by omega) hd rfl rfl fun Q hQ => ?_
        exact br_f (by decide) (br_f (by decide) (br_f (by decide) (br_f (by decide) (br_f (by decide) (br_f (by decide) (br_t (by decide) (br_t rfl (hF Q hQ))))))))
      · refine yi_e 19 32 (by decide) (by decide) he (by omega) hg rfl (by omega) hd rfl rfl fun Q hQ => ?_
        exact br_f (by decide) (br_f (by decide) (br_f (by decide) (br_f (by decide) (br_f (by decide) (br_f (by decide) (br_t (by decide) (br_t rfl (hF Q hQ))))))))
      · refine yi_e 19 33 (by decide) (by decide) he (by omega) hg rfl (by omega) hd rfl rfl fun Q hQ => ?_
        exact br_f (by decide) (br_f (by decide) (br_f (by decide) (br_f (by decide) (br_f (by decide) (br_f (by decide) (br_t (by decide) (br_t rfl (hF Q hQ))))))))
      · refine yi_c 22 b (by decide) (by decide) he (by omega) hg rfl (by omega) hd rfl rfl fun Q hQ => ?_
        exact br_f (by decide) (br_f (by decide) (br_t (by decide) (br_t rfl (hF Q hQ))))
    · subst z
      rw [if_neg (by decide), if_neg (by decide)] at hv'
      rcases hv' with ⟨_, _, hb, _, rfl⟩ | ⟨_, u, hu, _, rfl⟩ | ⟨_, rfl⟩ | ⟨_, rfl⟩ | ⟨_, rfl⟩
      · refine yi_e 20 b (by decide) (by decide) he (by omega) hg rfl (by omega) hd rfl rfl fun Q hQ => ?_
        exact br_f (by decide) (br_f (by decide) (br_f (by decide) (br_f (by decide) (br_f (by decide) (br_f (by decide) (br_f (by decide) (br_t (by decide) (br_t rfl (hF Q hQ)))))))))
      · refine yi_s 13 u (by decide) he (by omega) hg rfl (by omega) hd rfl rfl fun Q hQ => ?_
        exact br_f (by decide) (br_f (by decide) (br_f (by decide) (br_f (by decide) (br_f (by decide) (br_f (by decide) (br_f (by decide) (br_f (by decide) (br_f (by decide) (br_f (by decide) (br_f (by decide) (br_f (by decide) (br_f (by decide) (br_f (by decide) (br_t (by decide) (br_t rfl (hF Q hQ))))))))))))))))
      · refine yi_s 11 0 (by decide) he (by omega) hg rfl (by omega) hd rfl rfl fun Q hQ => ?_
        exact br_f (by decide) (br_f (by decide) (br_f (by decide) (br_f (by decide) (br_f (by decide) (br_f (by decide) (br_f (by decide) (br_f (by decide) (br_f (by decide) (br_f (by decide) (br_f (by decide) (br_f (by decide) (br_t (by decide) (br_t rfl (hF Q hQ))))))))))))))
      · refine yi_s 12 0 (by decide) he (by omega) hg rfl (by omega) hd rfl rfl fun Q hQ => ?_
        exact br_f (by decide) (br_f (by decide) (br_f (by decide) (br_f (by decide) (br_f (by decide) (br_f (by decide) (br_f (by decide) (br_f (by decide) (br_f (by decide) (br_f (by decide) (br_f (by decide) (br_f (by decide) (br_f (by decide) (br_t (by decide) (br_t rfl (hF Q hQ)))))))))))))))
      · refine yi_e 15 0 (by decide) (by decide) he (by omega) hg rfl (by omega) hd rfl rfl fun Q hQ => ?_
        exact br_f (by decide) (br_f (by decide) (br_t (by decide) (br_t rfl (hF Q hQ))))
    · subst z
      rw [if_neg (by decide), if_pos rfl] at hv'
      obtain ⟨_, hb, rfl⟩ := hv'
      · refine yi_s 14 b (by decide) he (by omega) hg rfl (by omega) hd rfl rfl fun Q hQ => ?_
        exact br_f (by decide) (br_t (by decide) (br_t rfl (hF Q hQ)))
  rw [if_neg z] at H
  by_cases z : t = 12
  · subst z
    rw [if_pos rfl] at H
    rw [if_neg (by decide)] at hR
    rw [if_neg (by decide)] at hR
    rw [if_neg (by decide)] at hR
    rw [if_neg (by decide)] at hR
    rw [if_neg (by decide)] at hR
    rw [if_pos rfl] at hR
    have hv' : 1 ≤ a ∧ a ≤ 11 := by simpa [gm_vl] using hv
    rcases hR with ⟨rfl, e, T', rfl, he, hR⟩ | ⟨ha, e, f, T', rfl, he, hf, hR⟩
    · simp only [List.length_cons] at hT
      intro td hd
      refine yi_e 16 0 (by decide) (by decide) he (by omega) hg rfl (by omega) hd rfl rfl fun Q hQ => ?_
      refine br_f (by decide) (br_f (by decide) (br_f (by decide) (br_t (by decide) (?_))))
      refine ym_then 17 1 (by decide) (by decide) hW.2.2.1 hh rfl (by omega) hd.2 fun td hd => ?_
      exact yg_una (S := gi_R 1 :: S) hQ hW hp (by simp only [List.length_cons]; omega) (yr_1 (by simp) (yp_e_n (a := 17) (b := 1) (h := h) (by decide) (by omega) hh) hR) ((12, 1, b, e0, v) :: (S ++ Sb)) rfl (gm_mo_una H (fun e w a => a) (fun p' S' lc' fc' b es lw aw fw a S1 T' h1 h2 => a S1 T' _ h1 (Nat.le_succ g) (Nat.le_refl _) h2)) _ hd
    · simp only [List.length_cons] at hT
      intro td hd
      refine yi_e 18 0 (by decide) (by decide) he (by omega) hg rfl (by simp only [List.length_cons]; omega) hd rfl rfl fun Q hQ => ?_
      refine br_f (by decide) (br_f (by decide) (br_f (by decide) (br_f (by decide) (br_f (by decide) (br_t (by decide) (?_))))))
      exact yg_una (S := gi_R a :: S) hQ hW hp (by simp only [List.length_cons]; omega) (yr_1 (by simp) hf hR) ((12, a, b, e0, v) :: (S ++ Sb)) rfl (gm_mo_una H (fun e w a => a) (fun p' S' lc' fc' b es lw aw fw a S1 T' h1 h2 => a S1 T' _ h1 (Nat.le_succ g) (Nat.le_refl _) h2)) _ hd.2
  rw [if_neg z] at H
  by_cases z : t = 13
  · subst z
    rw [if_pos rfl] at H
    rw [if_neg (by decide)] at hR
    rw [if_neg (by decide)] at hR
    rw [if_neg (by decide)] at hR
    rw [if_neg (by decide)] at hR
    rw [if_neg (by decide)] at hR
    rw [if_neg (by decide)] at hR
    obtain ⟨e, T', rfl, he, hR⟩ := hR
    simp only [List.length_cons] at hT
    intro td hd
    have hv' : 1 ≤ a ∧ a ≤ 11 := by simpa [gm_vl] using hv
    refine yi_e 17 a (by decide) (by decide) he (by omega) hg rfl (by omega) hd rfl rfl fun Q hQ => ?_
    exact yg_bin hQ hW hp (by omega) hR hv'.1 hv'.2 ((13, a, b, e0, v) :: (S ++ Sb)) rfl (gm_mo_bin H (fun p' S' lc' fc' b es lw aw fw a S1 T' h1 h2 => a S1 T' _ h1 (Nat.le_succ g) (Nat.le_refl _) h2)) _ hd.2
  rw [if_neg z] at H
  by_cases z : t = 14
  · subst z
    rw [if_pos rfl] at H
    rw [if_neg (by decide)] at hR
    rw [if_neg (by decide)] at hR
    rw [if_neg (by decide)] at hR
    rw [if_neg (by decide)] at hR
    rw [if_neg (by decide)] at hR
    rw [if_neg (by decide)] at hR
    obtain ⟨e, T', rfl, he, hR⟩ := hR
    simp only [List.length_cons] at hT
    intro td hd
    refine yi_e 18 0 (by decide) (by decide) he (by omega) hg rfl (by omega) hd rfl rfl fun Q hQ => ?_
    refine br_f (by decide) (br_f (by decide) (br_f (by decide) (br_f (by decide) (br_f (by decide) (br_t (by decide) (?_))))))
    exact yg_una hQ hW hp (by omega) hR ((14, a, b, e0, v) :: (S ++ Sb)) rfl (gm_mo_una H (fun e w a => a) (fun p' S' lc' fc' b es lw aw fw a S1 T' h1 h2 => a S1 T' _ h1 (Nat.le_succ g) (Nat.le_refl _) h2)) _ hd.2
  rw [if_neg z] at H
  by_cases z : t = 15
  · subst z
    rw [if_pos rfl] at H
    rw [if_neg (by decide)] at hR
    rw [if_neg (by decide)] at hR
    rw [if_neg (by decide)] at hR
    rw [if_neg (by decide)] at hR
    rw [if_neg (by decide)] at hR
    rw [if_neg (by decide)] at hR
    obtain ⟨e, T', rfl, he, hR⟩ := hR
    simp only [List.length_cons] at hT
    intro td hd
    refine yi_e 21 0 (by decide) (by decide) he (by omega) hg rfl (by omega) hd rfl rfl fun Q hQ => ?_
    exact br_f (by decide) (br_t (by decide) (br_t rfl (hQ _ (H S _ _ rfl (Nat.le_succ g) (Nat.le_refl _) hR _ hd.2))))
  rw [if_neg z] at H
  by_cases z : t = 16
  · subst z
    rw [if_pos rfl] at H
    rw [if_neg (by decide)] at hR
    rw [if_neg (by decide)] at hR
    rw [if_neg (by decide)] at hR
    rw [if_neg (by decide)] at hR
    rw [if_neg (by decide)] at hR
    rw [if_neg (by decide)] at hR
    obtain ⟨e, T', rfl, he, hR⟩ := hR
    simp only [List.length_cons] at hT
    intro td hd
    have hv' : a < n := by simpa [gm_vl] using hv
    refine yi_c 23 a (by decide) (by decide) he (by omega) hg rfl (by omega) hd rfl rfl fun Q hQ => ?_
    refine br_f (by decide) (br_f (by decide) (br_f (by decide) (br_t (by decide) (?_))))
    cases c with
    | false =>
      refine ym_args0 rfl hW.1 hW.2.1 (by omega) rfl hW.2.2.1 hh rfl hd.2 (hW.2.2.2.2.2.2 rfl) rfl (by omega) (by omega) (fun k => ?_) (fun k => ?_)
      · rw [if_pos k] at H; exact hQ _ (H S _ _ rfl (Nat.le_succ g) (Nat.le_refl _) hR _ hd.2)
      · rw [if_neg k] at H; exact fun td hd => hQ _ (H (gi_E 1 :: gi_G a 1 :: S) _ _ rfl (Nat.le_succ g) (Nat.le_refl _) (yr_E1 (yp_e_n (a := 16) (b := 0) (h := h) (by decide) (by omega) hh) (yr_1 (by simp) (yp_e_n (a := 24) (b := a) (h := h) (by decide) (by omega) hh) hR)) _ hd)
    | true =>
      refine ym_args1 rfl hW.1 hW.2.1 (by omega) rfl hW.2.2.1 hh rfl hd.2 (hW.2.2.2.2.2.1 rfl) rfl (by omega) (by omega) (fun k => ?_) (fun k => ?_)
      · rw [if_pos k] at H; exact hQ _ (H S _ _ rfl (Nat.le_succ g) (Nat.le_refl _) hR _ hd.2)
      · rw [if_neg k] at H; exact fun td hd => hQ _ (H (gi_E 1 :: gi_G a 1 :: S) _ _ rfl (Nat.le_succ g) (Nat.le_refl _) (yr_E1 (yp_e_n (a := 16) (b := 0) (h := h) (by decide) (by omega) hh) (yr_1 (by simp) (yp_e_n (a := 24) (b := a) (h := h) (by decide) (by omega) hh) hR)) _ hd)
  rw [if_neg z] at H
  by_cases z : t = 17
  · subst z
    rw [if_pos rfl] at H
    rw [if_neg (by decide)] at hR
    rw [if_neg (by decide)] at hR
    rw [if_neg (by decide)] at hR
    rw [if_neg (by decide)] at hR
    rw [if_neg (by decide)] at hR
    rw [if_neg (by decide)] at hR
    obtain ⟨e, T', rfl, he, hR⟩ := hR
    simp only [List.length_cons] at hT
    intro td hd
    have hv' : a < n ∧ 1 ≤ b ∧ b ≤ p := by simpa [gm_vl] using hv
    refine yi_c 24 a (by decide) (by decide) he (by omega) hg rfl (by omega) hd rfl rfl fun Q hQ => ?_
    refine br_f (by decide) (br_f (by decide) (br_f (by decide) (br_f (by decide) (br_t (by decide) (?_)))))
    cases c with
    | false =>
      refine ym_margs0 rfl hW.1 hW.2.1 (by omega) rfl hW.2.2.1 hh rfl hd.2 (hW.2.2.2.2.2.2 rfl) rfl (by omega) (by omega) (fun k => ?_) (fun k k2 => ?_) (fun k k2 => ?_)
      · rw [if_pos k] at H; exact hQ _ (H S _ _ rfl (Nat.le_succ g) (Nat.le_refl _) hR _ hd.2)
      · rw [if_neg k, if_pos k2] at H; exact fun td hd => hQ _ (H (gi_E 1 :: gi_G a (b + 1) :: S) _ _ rfl (Nat.le_succ g) (Nat.le_refl _) (yr_E1 (yp_e_n (a := 16) (b := 0) (h := h) (by decide) (by omega) hh) (yr_1 (by simp) (yp_e_n (a := 24) (b := a) (h := h) (by decide) (by omega) hh) hR)) _ hd)
      · rw [if_neg k, if_neg k2] at H; exact absurd H.1 (by decide)
    | true =>
      refine ym_margs1 rfl hW.1 hW.2.1 (by omega) rfl hW.2.2.1 hh rfl hd.2 (hW.2.2.2.2.2.1 rfl) rfl (by omega) (hA rfl) (by omega) (by omega) (fun k => ?_) (fun k k2 => ?_) (fun k k2 => ?_)
      · rw [if_pos k] at H; exact hQ _ (H S _ _ rfl (Nat.le_succ g) (Nat.le_refl _) hR _ hd.2)
      · rw [if_neg k, if_pos k2] at H; exact fun td hd => hQ _ (H (gi_E 1 :: gi_G a (b + 1) :: S) _ _ rfl (Nat.le_succ g) (Nat.le_refl _) (yr_E1 (yp_e_n (a := 16) (b := 0) (h := h) (by decide) (by omega) hh) (yr_1 (by simp) (yp_e_n (a := 24) (b := a) (h := h) (by decide) (by omega) hh) hR)) _ hd)
      · rw [if_neg k, if_neg k2] at H; exact hQ _ (H.2 _ _ _ _ _ _)
  rw [if_neg z] at H
  by_cases z : t = 18
  · subst z
    rw [if_pos rfl] at H
    rw [if_neg (by decide)] at hR
    rw [if_neg (by decide)] at hR
    rw [if_neg (by decide)] at hR
    rw [if_neg (by decide)] at hR
    rw [if_neg (by decide)] at hR
    rw [if_neg (by decide)] at hR
    obtain ⟨e, T', rfl, he, hR⟩ := hR
    simp only [List.length_cons] at hT
    intro td hd
    have hv' : a < n := by simp [gm_vl] at hv; exact hv.1
    refine yi_c 25 a (by decide) (by decide) he (by omega) hg rfl (by omega) hd rfl rfl fun Q hQ => ?_
    exact br_f (by decide) (br_f (by decide) (br_f (by decide) (br_f (by decide) (br_f (by decide) (br_t (by decide) (br_t rfl (hQ _ (H S _ _ rfl (Nat.le_succ g) (Nat.le_refl _) hR _ hd.2))))))))
  rw [if_neg z] at H
  exfalso
  unfold gm_vl at hv
  dsimp only at hv
  repeat' split at hv
  all_goals omega
end
section
/-! X: judge -/
theorem xm_unk {post : Int32 → Prop} {f_tokenCount f_planCount f_next f_wrongToken f_looseJump f_latestPlace f_openLoopCount f_codeCount f_labelCount f_functionCount f_registerCount f_activeCalls f_stackCount f_nextCode f_running f_ending f_endingPlace f_resultValue f_ticksUsed f_printedCount : Int32} {a_tokenKind a_tokenValue a_planKind a_planValue a_planPlace a_argumentCount a_openLoop a_codeKind a_codeValue a_codePlace a_labelTarget a_functionStart a_functionParameters a_register a_frame a_returnTo a_stack a_element a_outputValue : Nat → Int32} {n : Nat} (ht : f_tokenCount = nI n) (hn : n ≤ 120)
    (H1 : ∀ i, i < n → (a_tokenKind i = 2 ∧ ¬ a_tokenValue i < f_functionCount) → (∀ j, j < i → ¬ (a_tokenKind j = 2 ∧ ¬ a_tokenValue j < f_functionCount)) → post (nI i))
    (H2 : (∀ j, j < n → ¬ (a_tokenKind j = 2 ∧ ¬ a_tokenValue j < f_functionCount)) → post (-1)) : wpX_firstUnknownCall post (f_tokenCount, f_planCount, f_next, f_wrongToken, f_looseJump, f_latestPlace, f_openLoopCount, f_codeCount, f_labelCount, f_functionCount, f_registerCount, f_activeCalls, f_stackCount, f_nextCode, f_running, f_ending, f_endingPlace, f_resultValue, f_ticksUsed, f_printedCount, a_tokenKind, a_tokenValue, a_planKind, a_planValue, a_planPlace, a_argumentCount, a_openLoop, a_codeKind, a_codeValue, a_codePlace, a_labelTarget, a_functionStart, a_functionParameters, a_register, a_frame, a_returnTo, a_stack, a_element, a_outputValue) := by
  have key : ∀ d i, i + d = n → (∀ j, j < i → ¬ (a_tokenKind j = 2 ∧ ¬ a_tokenValue j < f_functionCount)) → wX_firstUnknownCall_2 post f_tokenCount f_planCount f_next f_wrongToken f_looseJump f_latestPlace f_openLoopCount f_codeCount f_labelCount f_functionCount f_registerCount f_activeCalls f_stackCount f_nextCode f_running f_ending f_endingPlace f_resultValue f_ticksUsed f_printedCount a_tokenKind a_tokenValue a_planKind a_planValue a_planPlace a_argumentCount a_openLoop a_codeKind a_codeValue a_codePlace a_labelTarget a_functionStart a_functionParameters a_register a_frame a_returnTo a_stack a_element a_outputValue (d + 1) (nI i) := by
    intro d
    induction d with
    | zero =>
      intro i hi h
      have : i = n := by omega
      subst this ht
      refine br_c (fun _ => H2 h) (fun _ => br_t (nI_le (Nat.le_refl _) (by omega)) (H2 h))
    | succ d ih =>
      intro i hi h
      have e : (nI i).toNatClampNeg = i := nI_clamp (by omega)
      have vi : vp_in (nI i) 120 := vp_in_nI (by omega) (by decide)
      have nx : ¬ (a_tokenKind i = 2 ∧ ¬ a_tokenValue i < f_functionCount) → wX_firstUnknownCall_2 post f_tokenCount f_planCount f_next f_wrongToken f_looseJump f_latestPlace f_openLoopCount f_codeCount f_labelCount f_functionCount f_registerCount f_activeCalls f_stackCount f_nextCode f_running f_ending f_endingPlace f_resultValue f_ticksUsed f_printedCount a_tokenKind a_tokenValue a_planKind a_planValue a_planPlace a_argumentCount a_openLoop a_codeKind a_codeValue a_codePlace a_labelTarget a_functionStart a_functionParameters a_register a_frame a_returnTo a_stack a_element a_outputValue (d + 1) (nI (i + 1)) := fun z => ih (i + 1) (by omega) (fun j hj => by
        by_cases y : j = i
        · rw [y]; exact z
        · exact h j (by omega))
      refine br_f (nI_ge (b := 120) (by omega) (by decide)) (br_f (by rw [ht]; exact nI_ge (by omega) (by omega)) ?_)
      rw [e]
      refine ⟨vi, br_c (fun a => ⟨vi, br_c (fun b => nm_r (nI_1 _) (nx (fun z => z.2 b))) (fun b => H1 i (by omega) ⟨a, b⟩ h)⟩) (fun a => nm_r (nI_1 _) (nx (fun z => a z.1)))⟩
  unfold wpX_firstUnknownCall
  exact ⟨n + 1, key n 0 (by omega) (fun j hj => by omega)⟩
theorem xm_mis {post : Int32 → Prop} {f_tokenCount f_planCount f_next f_wrongToken f_looseJump f_latestPlace f_openLoopCount f_codeCount f_labelCount f_functionCount f_registerCount f_activeCalls f_stackCount f_nextCode f_running f_ending f_endingPlace f_resultValue f_ticksUsed f_printedCount : Int32} {a_tokenKind a_tokenValue a_planKind a_planValue a_planPlace a_argumentCount a_openLoop a_codeKind a_codeValue a_codePlace a_labelTarget a_functionStart a_functionParameters a_register a_frame a_returnTo a_stack a_element a_outputValue : Nat → Int32} {n : Nat} (ht : f_tokenCount = nI n) (hn : n ≤ 120) (hv : ∀ j, j < n → a_tokenKind j = 2 → ∃ u, u ≤ 3 ∧ a_tokenValue j = nI u)
    (H1 : ∀ i, i < n → (a_tokenKind i = 2 ∧ ¬ a_argumentCount i = a_functionParameters (a_tokenValue i).toNatClampNeg) → (∀ j, j < i → ¬ (a_tokenKind j = 2 ∧ ¬ a_argumentCount j = a_functionParameters (a_tokenValue j).toNatClampNeg)) → post (nI i))
    (H2 : (∀ j, j < n → ¬ (a_tokenKind j = 2 ∧ ¬ a_argumentCount j = a_functionParameters (a_tokenValue j).toNatClampNeg)) → post (-1)) : wpX_firstMiscountedCall post (f_tokenCount, f_planCount, f_next, f_wrongToken, f_looseJump, f_latestPlace, f_openLoopCount, f_codeCount, f_labelCount, f_functionCount, f_registerCount, f_activeCalls, f_stackCount, f_nextCode, f_running, f_ending, f_endingPlace, f_resultValue, f_ticksUsed, f_printedCount, a_tokenKind, a_tokenValue, a_planKind, a_planValue, a_planPlace, a_argumentCount, a_openLoop, a_codeKind, a_codeValue, a_codePlace, a_labelTarget, a_functionStart, a_functionParameters, a_register, a_frame, a_returnTo, a_stack, a_element, a_outputValue) := by
  have key : ∀ d i, i + d = n → (∀ j, j < i → ¬ (a_tokenKind j = 2 ∧ ¬ a_argumentCount j = a_functionParameters (a_tokenValue j).toNatClampNeg)) → wX_firstMiscountedCall_2 post f_tokenCount f_planCount f_next f_wrongToken f_looseJump f_latestPlace f_openLoopCount f_codeCount f_labelCount f_functionCount f_registerCount f_activeCalls f_stackCount f_nextCode f_running f_ending f_endingPlace f_resultValue f_ticksUsed f_printedCount a_tokenKind a_tokenValue a_planKind a_planValue a_planPlace a_argumentCount a_openLoop a_codeKind a_codeValue a_codePlace a_labelTarget a_functionStart a_functionParameters a_register a_frame a_returnTo a_stack a_element a_outputValue (d + 1) (nI i) := by
    intro d
    induction d with
    | zero =>
      intro i hi h
      have : i = n := by omega
      subst this ht
      refine br_c (fun _ => H2 h) (fun _ => br_t (nI_le (Nat.le_refl _) (by omega)) (H2 h))
    | succ d ih =>
      intro i hi h
      have e : (nI i).toNatClampNeg = i := nI_clamp (by omega)
      have vi : vp_in (nI i) 120 := vp_in_nI (by omega) (by decide)
      have nx : ¬ (a_tokenKind i = 2 ∧ ¬ a_argumentCount i = a_functionParameters (a_tokenValue i).toNatClampNeg) → wX_firstMiscountedCall_2 post f_tokenCount f_planCount f_next f_wrongToken f_looseJump f_latestPlace f_openLoopCount f_codeCount f_labelCount f_functionCount f_registerCount f_activeCalls f_stackCount f_nextCode f_running f_ending f_endingPlace f_resultValue f_ticksUsed f_printedCount a_tokenKind a_tokenValue a_planKind a_planValue a_planPlace a_argumentCount a_openLoop a_codeKind a_codeValue a_codePlace a_labelTarget a_functionStart a_functionParameters a_register a_frame a_returnTo a_stack a_element a_outputValue (d + 1) (nI (i + 1)) := fun z => ih (i + 1) (by omega) (fun j hj => by
        by_cases y : j = i
        · rw [y]; exact z
        · exact h j (by omega))
      refine br_f (nI_ge (b := 120) (by omega) (by decide)) (br_f (by rw [ht]; exact nI_ge (by omega) (by omega)) ?_)
      rw [e]
      refine ⟨vi, br_c (fun a => ⟨vi, vi, ?_⟩) (fun a => nm_r (nI_1 _) (nx (fun z => a z.1)))⟩
      obtain ⟨u, hu, eu⟩ := hv i (by omega) a
      rw [eu]
      have e2 : (nI u).toNatClampNeg = u := nI_clamp (by omega)
      unfold wpX_parametersOf
      refine br_f (nI_pos (by omega)) (br_f (nI_ge (b := 4) (by omega) (by decide)) ⟨vp_in_nI (by omega) (by decide), ?_⟩)
      refine br_c (fun b => nm_r (nI_1 _) (nx (fun z => z.2 ?_))) (fun b => H1 i (by omega) ⟨a, ?_⟩ h)
      · rw [eu]; exact b
      · rw [eu]; exact b
  unfold wpX_firstMiscountedCall
  exact ⟨n + 1, key n 0 (by omega) (fun j hj => by omega)⟩
theorem xj_err {post : Int32 → SX → Prop} {f_tokenCount f_planCount f_next f_wrongToken f_looseJump f_latestPlace f_openLoopCount f_codeCount f_labelCount f_functionCount f_registerCount f_activeCalls f_stackCount f_nextCode f_running f_ending f_endingPlace f_resultValue f_ticksUsed f_printedCount : Int32} {a_tokenKind a_tokenValue a_planKind a_planValue a_planPlace a_argumentCount a_openLoop a_codeKind a_codeValue a_codePlace a_labelTarget a_functionStart a_functionParameters a_register a_frame a_returnTo a_stack a_element a_outputValue : Nat → Int32} {e : Nat} (h : f_wrongToken = nI e) (he : e < 2 ^ 31) (H : post 1 (f_tokenCount, f_planCount, f_next, f_wrongToken, f_looseJump, nI e, f_openLoopCount, f_codeCount, f_labelCount, 0, f_registerCount, f_activeCalls, f_stackCount, f_nextCode, f_running, f_ending, f_endingPlace, f_resultValue, f_ticksUsed, f_printedCount, a_tokenKind, a_tokenValue, a_planKind, a_planValue, a_planPlace, a_argumentCount, a_openLoop, a_codeKind, a_codeValue, a_codePlace, a_labelTarget, a_functionStart, a_functionParameters, a_register, a_frame, a_returnTo, a_stack, a_element, a_outputValue)) : wX_compile_73 post f_tokenCount f_planCount f_next f_wrongToken f_looseJump f_latestPlace f_openLoopCount f_codeCount f_labelCount f_functionCount f_registerCount f_activeCalls f_stackCount f_nextCode f_running f_ending f_endingPlace f_resultValue f_ticksUsed f_printedCount a_tokenKind a_tokenValue a_planKind a_planValue a_planPlace a_argumentCount a_openLoop a_codeKind a_codeValue a_codePlace a_labelTarget a_functionStart a_functionParameters a_register a_frame a_returnTo a_stack a_element a_outputValue := by
  unfold wX_compile_73 wpX_judge
  subst h
  exact br_f (nI_pos he) (br_f (by decide) H)
theorem xj_loop {post : Int32 → SX → Prop} {f_tokenCount f_planCount f_next f_wrongToken f_looseJump f_latestPlace f_openLoopCount f_codeCount f_labelCount f_functionCount f_registerCount f_activeCalls f_stackCount f_nextCode f_running f_ending f_endingPlace f_resultValue f_ticksUsed f_printedCount : Int32} {a_tokenKind a_tokenValue a_planKind a_planValue a_planPlace a_argumentCount a_openLoop a_codeKind a_codeValue a_codePlace a_labelTarget a_functionStart a_functionParameters a_register a_frame a_returnTo a_stack a_element a_outputValue : Nat → Int32} (h : f_wrongToken = -1) (hl : ¬ f_looseJump < 0) (H : post 2 (f_tokenCount, f_planCount, f_next, f_wrongToken, f_looseJump, f_looseJump, f_openLoopCount, f_codeCount, f_labelCount, 0, f_registerCount, f_activeCalls, f_stackCount, f_nextCode, f_running, f_ending, f_endingPlace, f_resultValue, f_ticksUsed, f_printedCount, a_tokenKind, a_tokenValue, a_planKind, a_planValue, a_planPlace, a_argumentCount, a_openLoop, a_codeKind, a_codeValue, a_codePlace, a_labelTarget, a_functionStart, a_functionParameters, a_register, a_frame, a_returnTo, a_stack, a_element, a_outputValue)) : wX_compile_73 post f_tokenCount f_planCount f_next f_wrongToken f_looseJump f_latestPlace f_openLoopCount f_codeCount f_labelCount f_functionCount f_registerCount f_activeCalls f_stackCount f_nextCode f_running f_ending f_endingPlace f_resultValue f_ticksUsed f_printedCount a_tokenKind a_tokenValue a_planKind a_planValue a_planPlace a_argumentCount a_openLoop a_codeKind a_codeValue a_codePlace a_labelTarget a_functionStart a_functionParameters a_register a_frame a_returnTo a_stack a_element a_outputValue := by
  unfold wX_compile_73 wpX_judge
  subst h
  exact br_t (by decide) (br_f hl (br_f (by decide) H))
theorem xj_rest {post : Int32 → SX → Prop} {f_tokenCount f_planCount f_next f_wrongToken f_looseJump f_latestPlace f_openLoopCount f_codeCount f_labelCount f_functionCount f_registerCount f_activeCalls f_stackCount f_nextCode f_running f_ending f_endingPlace f_resultValue f_ticksUsed f_printedCount : Int32} {a_tokenKind a_tokenValue a_planKind a_planValue a_planPlace a_argumentCount a_openLoop a_codeKind a_codeValue a_codePlace a_labelTarget a_functionStart a_functionParameters a_register a_frame a_returnTo a_stack a_element a_outputValue : Nat → Int32} {n : Nat} (ht : f_tokenCount = nI n) (hn : n ≤ 120) (hv : ∀ j, j < n → a_tokenKind j = 2 → ∃ u, u ≤ 3 ∧ a_tokenValue j = nI u) (h : f_wrongToken = -1) (hl : f_looseJump < 0)
    (H3 : ∀ i, i < n → (a_tokenKind i = 2 ∧ ¬ a_tokenValue i < f_functionCount) → (∀ j, j < i → ¬ (a_tokenKind j = 2 ∧ ¬ a_tokenValue j < f_functionCount)) → post 3 (f_tokenCount, f_planCount, f_next, f_wrongToken, f_looseJump, nI i, f_openLoopCount, f_codeCount, f_labelCount, 0, f_registerCount, f_activeCalls, f_stackCount, f_nextCode, f_running, f_ending, f_endingPlace, f_resultValue, f_ticksUsed, f_printedCount, a_tokenKind, a_tokenValue, a_planKind, a_planValue, a_planPlace, a_argumentCount, a_openLoop, a_codeKind, a_codeValue, a_codePlace, a_labelTarget, a_functionStart, a_functionParameters, a_register, a_frame, a_returnTo, a_stack, a_element, a_outputValue))
    (H4 : (∀ j, j < n → ¬ (a_tokenKind j = 2 ∧ ¬ a_tokenValue j < f_functionCount)) → ∀ i, i < n → (a_tokenKind i = 2 ∧ ¬ a_argumentCount i = a_functionParameters (a_tokenValue i).toNatClampNeg) → (∀ j, j < i → ¬ (a_tokenKind j = 2 ∧ ¬ a_argumentCount j = a_functionParameters (a_tokenValue j).toNatClampNeg)) → post 4 (f_tokenCount, f_planCount, f_next, f_wrongToken, f_looseJump, nI i, f_openLoopCount, f_codeCount, f_labelCount, 0, f_registerCount, f_activeCalls, f_stackCount, f_nextCode, f_running, f_ending, f_endingPlace, f_resultValue, f_ticksUsed, f_printedCount, a_tokenKind, a_tokenValue, a_planKind, a_planValue, a_planPlace, a_argumentCount, a_openLoop, a_codeKind, a_codeValue, a_codePlace, a_labelTarget, a_functionStart, a_functionParameters, a_register, a_frame, a_returnTo, a_stack, a_element, a_outputValue))
    (H0 : (∀ j, j < n → ¬ (a_tokenKind j = 2 ∧ ¬ a_tokenValue j < f_functionCount)) → (∀ j, j < n → ¬ (a_tokenKind j = 2 ∧ ¬ a_argumentCount j = a_functionParameters (a_tokenValue j).toNatClampNeg)) → post 0 (f_tokenCount, f_planCount, f_next, f_wrongToken, f_looseJump, -1, f_openLoopCount, f_codeCount, f_labelCount, f_functionCount, f_registerCount, f_activeCalls, f_stackCount, f_nextCode, f_running, f_ending, f_endingPlace, f_resultValue, f_ticksUsed, f_printedCount, a_tokenKind, a_tokenValue, a_planKind, a_planValue, a_planPlace, a_argumentCount, a_openLoop, a_codeKind, a_codeValue, a_codePlace, a_labelTarget, a_functionStart, a_functionParameters, a_register, a_frame, a_returnTo, a_stack, a_element, a_outputValue)) : wX_compile_73 post f_tokenCount f_planCount f_next f_wrongToken f_looseJump f_latestPlace f_openLoopCount f_codeCount f_labelCount f_functionCount f_registerCount f_activeCalls f_stackCount f_nextCode f_running f_ending f_endingPlace f_resultValue f_ticksUsed f_printedCount a_tokenKind a_tokenValue a_planKind a_planValue a_planPlace a_argumentCount a_openLoop a_codeKind a_codeValue a_codePlace a_labelTarget a_functionStart a_functionParameters a_register a_frame a_returnTo a_stack a_element a_outputValue := by
  unfold wX_compile_73 wpX_judge
  subst h
  refine br_t (by decide) (br_t hl ?_)
  refine xm_unk ht hn (fun i hi a b => ?_) (fun z => ?_)
  · exact br_f (nI_pos (by omega)) (br_f (by decide) (H3 i hi a b))
  · refine br_t (by decide) ?_
    refine xm_mis ht hn hv (fun i hi a b => ?_) (fun y => ?_)
    · exact br_f (nI_pos (by omega)) (br_f (by decide) (H4 z i hi a b))
    · exact br_t (by decide) (br_t rfl (H0 z y))
end
section
/-! Y: compile -/
theorem gm_opn_len : ∀ {S : List gm_I}, (gm_opn S).length ≤ gm_sm gw_c S
  | [] => Nat.le_refl _
  | x :: S => by
    have h1 := gm_opn_len (S := S)
    unfold gm_opn
    simp only [gm_sm]
    split
    · rename_i h; simp only [List.length_cons, gw_c, h]; simp; omega
    · omega
theorem yc_run {post : SY → Prop} {W : SY} {n h : Nat} (hW : yh W true n h)
    {E : Nat → (Nat → Int32) → (Nat → Int32) → Prop} {D : Nat → Nat → Nat → Nat → Int32 → gm_A → Prop}
    (hE : ∀ e ac fp, E e ac fp → ∀ g, g ≤ 400000 → yE post W g e ac fp) (hD : ∀ p cc lc fc o A, D p cc lc fc o A → ∀ g, g ≤ 400000 → yQ post W true g p [] [] o fc A) :
    ∀ (m g p : Nat) (S : List gm_I) (cc lc fc : Nat) (o : Int32) (A : gm_A) (T : List Nat), g + m ≤ 400000 → gm_inv W.2.2.2.2.2.2.2.2.2.2.2.2.2.2.2.2.2.2.2.2.2.2.2.2.1 W.2.2.2.2.2.2.2.2.2.2.2.2.2.2.2.2.2.2.2.2.2.2.2.2.2.1 n p S cc lc fc → gm_av A.2.2.2.2.1 S → gm_run W.2.2.2.2.2.2.2.2.2.2.2.2.2.2.2.2.2.2.2.2.2.2.2.2.1 W.2.2.2.2.2.2.2.2.2.2.2.2.2.2.2.2.2.2.2.2.2.2.2.2.2.1 n E D m p S cc lc fc o A → yd_R true W.2.2.2.2.2.2.2.2.2.2.2.2.2.1 [] S T →
      yQ post W true g p S T o fc A := by
  have ht := hW.2.2.2.2.1
  have hn := hW.2.1
  intro m
  induction m with
  | zero => intro g p S cc lc fc o A T _ _ _ h; exact h.elim
  | succ m ih =>
    intro g p S cc lc fc o A T hs hI hA h hR
    cases S with
    | nil =>
      have : T = [] := hR
      subst this
      exact hD _ _ _ _ _ _ h g (by omega)
    | cons x S =>
      have h1 := gm_inv_d ht hI
      have h2 := gf_d (K := W.2.2.2.2.2.2.2.2.2.2.2.2.2.2.2.2.2.2.2.2.2.2.2.2.1) (V := W.2.2.2.2.2.2.2.2.2.2.2.2.2.2.2.2.2.2.2.2.2.2.2.2.2.1) (n := n) (cc := cc) (fc := fc) hI.2.2.1 hI.2.2.2.1 hI.2.2.2.2.1 hA
      have hl1 := yd_len1 hR
      have hl2 := gm_opn_len (S := x :: S)
      have hp := hI.1
      obtain ⟨i1, i2, i3, i4, i5⟩ := hI.2.1
      have key := yg_d (post := post) (W := W) (c := true) (pd := W.2.2.2.2.2.2.2.2.2.2.2.2.2.1) (Tb := []) (T := T) (x := x) (S := S) (Sb := []) (g := g) (p := p) (cc := cc) (lc := lc) (fc := fc) (o := o) (A := A) hW rfl (by omega) hp hI.2.2.2.2.2.1.1 hI.2.2.2.2.2.2.1 hA.1 hI.2.2.1.1 (by rw [List.append_nil]; omega) (by simp only [List.length_nil] at hl1; omega) hR
      rw [List.append_nil] at key
      refine key (gm_and h (gm_and (E2 := fun _ _ => True) (C2 := fun p' S' lc' fc' b es lw aw fw => gm_inv W.2.2.2.2.2.2.2.2.2.2.2.2.2.2.2.2.2.2.2.2.2.2.2.2.1 W.2.2.2.2.2.2.2.2.2.2.2.2.2.2.2.2.2.2.2.2.2.2.2.2.2.1 n p' S' (cc + es.length) lc' fc' ∧ gm_av (gu_l A.2.2.2.2.1 aw) S') h1 h2 (fun _ _ _ _ => trivial) (fun p S lc fc b es lw aw fw a c => ⟨a.1, c.1⟩)) ?_ ?_)
      · intro e w a _
        exact ⟨rfl, hE _ _ _ a _ (by omega)⟩
      · intro p' S' lc' fc' b es lw aw fw a c S1 T' g' e1 h3 h4 h5
        rw [List.append_nil] at e1
        subst e1
        exact ih g' p' S' _ _ _ _ _ T' (by omega) c.1 c.2 a h5
theorem ye_end {post : SY → Prop} {f_count f_place f_length f_functions f_loaded f_loops f_outside f_tt f_vt f_pos f_bad f_checking f_live f_pending f_carry f_active f_ticks f_status f_result f_endedAt f_used f_printed : Int32} {a_kind a_value a_code a_number a_given a_begins a_params a_todo a_val a_vars a_output a_memory : Nat → Int32} {g : Nat} (hg : g ≤ 400000) (h : f_tt ≤ 0 ∨ ¬ f_bad = 0 ∨ ¬ f_status = 0) (H : post (f_count, f_place, f_length, f_functions, f_loaded, f_loops, f_outside, f_tt, f_vt, f_pos, f_bad, f_checking, f_live, f_pending, f_carry, f_active, f_ticks, f_status, f_result, f_endedAt, f_used, f_printed, a_kind, a_value, a_code, a_number, a_given, a_begins, a_params, a_todo, a_val, a_vars, a_output, a_memory)) : yL post g (f_count, f_place, f_length, f_functions, f_loaded, f_loops, f_outside, f_tt, f_vt, f_pos, f_bad, f_checking, f_live, f_pending, f_carry, f_active, f_ticks, f_status, f_result, f_endedAt, f_used, f_printed, a_kind, a_value, a_code, a_number, a_given, a_begins, a_params, a_todo, a_val, a_vars, a_output, a_memory) := by
  intro m hm
  obtain ⟨m, rfl⟩ : ∃ m', m = m' + 1 := ⟨m - 1, by omega⟩
  refine br_c (fun _ => H) (fun _ => ?_)
  refine br_c (fun _ => H) (fun z => ?_)
  refine br_c (fun b => ?_) (fun _ => H)
  refine br_c (fun s => ?_) (fun _ => H)
  rcases h with h | h | h
  · exact absurd h z
  · exact absurd b h
  · exact absurd s h
theorem ym_mis {post : Int32 → SY → Prop} {f_count f_place f_length f_functions f_loaded f_loops f_outside f_tt f_vt f_pos f_bad f_checking f_live f_pending f_carry f_active f_ticks f_status f_result f_endedAt f_used f_printed : Int32} {a_kind a_value a_code a_number a_given a_begins a_params a_todo a_val a_vars a_output a_memory : Nat → Int32} {n : Nat} (ht : f_length = nI n) (hn : n ≤ 120) (hv : ∀ j, j < n → a_code j = 2 → ∃ u, u ≤ 3 ∧ a_number j = nI u)
    (H1 : ∀ i, i < n → (a_code i = 2 ∧ ¬ a_given i = a_params (a_number i).toNatClampNeg) → (∀ j, j < i → ¬ (a_code j = 2 ∧ ¬ a_given j = a_params (a_number j).toNatClampNeg)) → post 4 (f_count, nI i, f_length, f_functions, f_loaded, f_loops, f_outside, f_tt, f_vt, f_pos, f_bad, f_checking, f_live, f_pending, f_carry, f_active, f_ticks, f_status, f_result, f_endedAt, f_used, f_printed, a_kind, a_value, a_code, a_number, a_given, a_begins, a_params, a_todo, a_val, a_vars, a_output, a_memory))
    (H2 : (∀ j, j < n → ¬ (a_code j = 2 ∧ ¬ a_given j = a_params (a_number j).toNatClampNeg)) → post 0 (f_count, -1, f_length, f_functions, 1, f_loops, f_outside, f_tt, f_vt, f_pos, f_bad, f_checking, f_live, f_pending, f_carry, f_active, f_ticks, f_status, f_result, f_endedAt, f_used, f_printed, a_kind, a_value, a_code, a_number, a_given, a_begins, a_params, a_todo, a_val, a_vars, a_output, a_memory)) : ∃ m, wY_compile_165 post f_count f_length f_functions f_loaded f_loops f_outside f_tt f_vt f_pos f_bad f_checking f_live f_pending f_carry f_active f_ticks f_status f_result f_endedAt f_used f_printed a_kind a_value a_code a_number a_given a_begins a_params a_todo a_val a_vars a_output a_memory m 0 f_place := by
  have key : ∀ d i pl, i + d = n → (∀ j, j < i → ¬ (a_code j = 2 ∧ ¬ a_given j = a_params (a_number j).toNatClampNeg)) → wY_compile_165 post f_count f_length f_functions f_loaded f_loops f_outside f_tt f_vt f_pos f_bad f_checking f_live f_pending f_carry f_active f_ticks f_status f_result f_endedAt f_used f_printed a_kind a_value a_code a_number a_given a_begins a_params a_todo a_val a_vars a_output a_memory (d + 1) (nI i) pl := by
    intro d
    induction d with
    | zero =>
      intro i pl hi h
      have : i = n := by omega
      subst this ht
      exact br_t (nI_le (Nat.le_refl _) (by omega)) (H2 h)
    | succ d ih =>
      intro i pl hi h
      have e : (nI i).toNatClampNeg = i := nI_clamp (by omega)
      have vi : vp_in (nI i) 120 := vp_in_nI (by omega) (by decide)
      have nx := fun (z : ¬ (a_code i = 2 ∧ ¬ a_given i = a_params (a_number i).toNatClampNeg)) (pl : Int32) => ih (i + 1) pl (by omega) (fun j hj => by
        by_cases y : j = i
        · rw [y]; exact z
        · exact h j (by omega))
      refine br_f (by rw [ht]; exact nI_ge (by omega) (by omega)) ?_
      rw [e]
      refine ⟨vi, br_c (fun a => ?_) (fun a => nm_r (nI_1 _) (nx (fun z => a z.1) _))⟩
      obtain ⟨u, hu, eu⟩ := hv i (by omega) a
      refine ⟨vi, vi, by rw [eu]; exact vp_in_nI (by omega) (by decide), br_c (fun b => nm_r (nI_1 _) (nx (fun z => z.2 b) _)) (fun b => H1 i (by omega) ⟨a, b⟩ h)⟩
  exact ⟨n + 1, key n 0 f_place (by omega) (fun j hj => by omega)⟩
theorem ym_unk {post : Int32 → SY → Prop} {f_count f_place f_length f_functions f_loaded f_loops f_outside f_tt f_vt f_pos f_bad f_checking f_live f_pending f_carry f_active f_ticks f_status f_result f_endedAt f_used f_printed : Int32} {a_kind a_value a_code a_number a_given a_begins a_params a_todo a_val a_vars a_output a_memory : Nat → Int32} {n : Nat} (ht : f_length = nI n) (hn : n ≤ 120) (hv : ∀ j, j < n → a_code j = 2 → ∃ u, u ≤ 3 ∧ a_number j = nI u)
    (H3 : ∀ i, i < n → (a_code i = 2 ∧ ¬ a_number i < f_functions) → (∀ j, j < i → ¬ (a_code j = 2 ∧ ¬ a_number j < f_functions)) → post 3 (f_count, nI i, f_length, f_functions, f_loaded, f_loops, f_outside, f_tt, f_vt, f_pos, f_bad, f_checking, f_live, f_pending, f_carry, f_active, f_ticks, f_status, f_result, f_endedAt, f_used, f_printed, a_kind, a_value, a_code, a_number, a_given, a_begins, a_params, a_todo, a_val, a_vars, a_output, a_memory))
    (H1 : (∀ j, j < n → ¬ (a_code j = 2 ∧ ¬ a_number j < f_functions)) → ∀ i, i < n → (a_code i = 2 ∧ ¬ a_given i = a_params (a_number i).toNatClampNeg) → (∀ j, j < i → ¬ (a_code j = 2 ∧ ¬ a_given j = a_params (a_number j).toNatClampNeg)) → post 4 (f_count, nI i, f_length, f_functions, f_loaded, f_loops, f_outside, f_tt, f_vt, f_pos, f_bad, f_checking, f_live, f_pending, f_carry, f_active, f_ticks, f_status, f_result, f_endedAt, f_used, f_printed, a_kind, a_value, a_code, a_number, a_given, a_begins, a_params, a_todo, a_val, a_vars, a_output, a_memory))
    (H2 : (∀ j, j < n → ¬ (a_code j = 2 ∧ ¬ a_number j < f_functions)) → (∀ j, j < n → ¬ (a_code j = 2 ∧ ¬ a_given j = a_params (a_number j).toNatClampNeg)) → post 0 (f_count, -1, f_length, f_functions, 1, f_loops, f_outside, f_tt, f_vt, f_pos, f_bad, f_checking, f_live, f_pending, f_carry, f_active, f_ticks, f_status, f_result, f_endedAt, f_used, f_printed, a_kind, a_value, a_code, a_number, a_given, a_begins, a_params, a_todo, a_val, a_vars, a_output, a_memory)) : ∃ m, wY_compile_119 post f_count f_length f_functions f_loaded f_loops f_outside f_tt f_vt f_pos f_bad f_checking f_live f_pending f_carry f_active f_ticks f_status f_result f_endedAt f_used f_printed a_kind a_value a_code a_number a_given a_begins a_params a_todo a_val a_vars a_output a_memory m 0 f_place := by
  have key : ∀ d i pl, i + d = n → (∀ j, j < i → ¬ (a_code j = 2 ∧ ¬ a_number j < f_functions)) → wY_compile_119 post f_count f_length f_functions f_loaded f_loops f_outside f_tt f_vt f_pos f_bad f_checking f_live f_pending f_carry f_active f_ticks f_status f_result f_endedAt f_used f_printed a_kind a_value a_code a_number a_given a_begins a_params a_todo a_val a_vars a_output a_memory (d + 1) (nI i) pl := by
    intro d
    induction d with
    | zero =>
      intro i pl hi h
      have : i = n := by omega
      subst this
      refine br_t (by rw [ht]; exact nI_le (Nat.le_refl _) (by omega)) ?_
      exact ym_mis (f_place := pl) ht hn hv (H1 h) (H2 h)
    | succ d ih =>
      intro i pl hi h
      have e : (nI i).toNatClampNeg = i := nI_clamp (by omega)
      have vi : vp_in (nI i) 120 := vp_in_nI (by omega) (by decide)
      have nx := fun (z : ¬ (a_code i = 2 ∧ ¬ a_number i < f_functions)) (pl : Int32) => ih (i + 1) pl (by omega) (fun j hj => by
        by_cases y : j = i
        · rw [y]; exact z
        · exact h j (by omega))
      refine br_f (by rw [ht]; exact nI_ge (by omega) (by omega)) ?_
      rw [e]
      exact ⟨vi, br_c (fun a => ⟨vi, br_c (fun b => nm_r (nI_1 _) (nx (fun z => z.2 b) _)) (fun b => H3 i (by omega) ⟨a, b⟩ h)⟩) (fun a => nm_r (nI_1 _) (nx (fun z => a z.1) _))⟩
  exact ⟨n + 1, key n 0 f_place (by omega) (fun j hj => by omega)⟩
end
section
/-! Y: compile as a whole -/
def yc_K (n : Nat) (f g : Nat → Int32) : Nat → Int32 := fun j => if j < n then f j else g j
theorem yc_K0 (f g : Nat → Int32) : yc_K 0 f g = g := by
  funext j
  exact if_neg (by omega)
theorem yc_Ks (n : Nat) (f g : Nat → Int32) : upd (yc_K n f g) n (f n) = yc_K (n + 1) f g := by
  funext j
  unfold yc_K
  by_cases h : j = n
  · subst h
    rw [pk_us, if_pos (by omega)]
  · rw [pk_un h]
    by_cases h2 : j < n
    · rw [if_pos h2, if_pos (by omega)]
    · rw [if_neg h2, if_neg (by omega)]
def yc_P (post : Int32 → SY → Prop) : SY → Prop := fun u => match u with
  | (f_count, f_place, f_length, f_functions, f_loaded, f_loops, f_outside, f_tt, f_vt, f_pos, f_bad, f_checking, f_live, f_pending, f_carry, f_active, f_ticks, f_status, f_result, f_endedAt, f_used, f_printed, a_kind, a_value, a_code, a_number, a_given, a_begins, a_params, a_todo, a_val, a_vars, a_output, a_memory) => ((f_bad = 0 → ((f_outside < 0 → ∃ n119 : Nat, wY_compile_119 post f_count f_length f_functions f_loaded f_loops f_outside f_tt f_vt f_pos f_bad f_checking f_live f_pending f_carry f_active f_ticks f_status f_result f_endedAt f_used f_printed a_kind a_value a_code a_number a_given a_begins a_params a_todo a_val a_vars a_output a_memory n119 0 f_outside) ∧ (¬ f_outside < 0 → post 2 (f_count, f_outside, f_length, f_functions, f_loaded, f_loops, f_outside, f_tt, f_vt, f_pos, f_bad, f_checking, f_live, f_pending, f_carry, f_active, f_ticks, f_status, f_result, f_endedAt, f_used, f_printed, a_kind, a_value, a_code, a_number, a_given, a_begins, a_params, a_todo, a_val, a_vars, a_output, a_memory)))) ∧ (¬ f_bad = 0 → post 1 (f_count, f_pos, f_length, f_functions, f_loaded, f_loops, f_outside, f_tt, f_vt, f_pos, f_bad, f_checking, f_live, f_pending, f_carry, f_active, f_ticks, f_status, f_result, f_endedAt, f_used, f_printed, a_kind, a_value, a_code, a_number, a_given, a_begins, a_params, a_todo, a_val, a_vars, a_output, a_memory)))
theorem yc_all {post : Int32 → SY → Prop} {f_count f_place f_length f_functions f_loaded f_loops f_outside f_tt f_vt f_pos f_bad f_checking f_live f_pending f_carry f_active f_ticks f_status f_result f_endedAt f_used f_printed : Int32} {a_kind a_value a_code a_number a_given a_begins a_params a_todo a_val a_vars a_output a_memory : Nat → Int32} {n : Nat} {A : gm_A} (hc : f_count = nI n) (hn : n ≤ 120) (ht : ∀ j, j < n → ∃ k, k ≤ 41 ∧ a_kind j = nI k) (h1 : A.2.2.2.2.1 = a_given) (h2 : A.2.2.2.2.2.2.1 = a_params) (h3 : A.2.2.2.2.2.2.2 = a_begins)
    (H : yQ (yc_P post) (f_count, f_place, nI n, 0, 0, 0, -1, 0, 0, 0, 0, 1, 0, 0, f_carry, 0, f_ticks, 0, f_result, f_endedAt, f_used, f_printed, a_kind, a_value, yc_K n a_kind a_code, yc_K n a_value a_number, a_given, a_begins, a_params, a_todo, a_val, a_vars, a_output, a_memory) true 0 0 [gi_P] [1] (-1) 0 A) : wpY_compile post (f_count, f_place, f_length, f_functions, f_loaded, f_loops, f_outside, f_tt, f_vt, f_pos, f_bad, f_checking, f_live, f_pending, f_carry, f_active, f_ticks, f_status, f_result, f_endedAt, f_used, f_printed, a_kind, a_value, a_code, a_number, a_given, a_begins, a_params, a_todo, a_val, a_vars, a_output, a_memory) := by
  subst h1 h2 h3
  have key : ∀ d i, i + d = n → wY_compile_10 post f_count f_place f_count f_functions f_loaded f_loops f_outside f_tt f_vt f_pos f_bad f_checking f_live f_pending f_carry f_active f_ticks f_status f_result f_endedAt f_used f_printed (d + 1) (nI i) a_kind a_value (yc_K i a_kind a_code) (yc_K i a_value a_number) A.2.2.2.2.1 A.2.2.2.2.2.2.2 A.2.2.2.2.2.2.1 a_todo a_val a_vars a_output a_memory := by
    intro d
    induction d with
    | zero =>
      intro i hi
      have : i = n := by omega
      subst this
      refine br_t (by rw [hc]; exact nI_le (Nat.le_refl _) (by omega)) ?_
      unfold wpY_begin
      refine ⟨rfl, rfl, br_f (by decide) ⟨rfl, rfl, ?_⟩⟩
      refine ym_then (T := []) (h := 0) 1 0 (by decide) (by decide) rfl (by decide) rfl (by decide) trivial fun td hd => ?_
      unfold wpY_work
      have H := H td hd 400001 (by decide)
      rw [← hc] at H
      exact ⟨400001, H⟩
    | succ d ih =>
      intro i hi
      have e : (nI i).toNatClampNeg = i := nI_clamp (by omega)
      have vi : vp_in (nI i) 120 := vp_in_nI (by omega) (by decide)
      obtain ⟨k, hk, ek⟩ := ht i (by omega)
      refine br_f (by rw [hc]; exact nI_ge (by omega) (by omega)) ?_
      rw [e]
      refine ⟨vi, vi, nm_r (e' := yc_K (i + 1) a_kind a_code) ?_ ⟨vi, vi, nm_r (e' := yc_K (i + 1) a_value a_number) (yc_Ks i a_value a_number) (nm_r (nI_1 _) (ih (i + 1) (by omega)))⟩⟩
      rw [← yc_Ks i a_kind a_code, ek]
      refine congrArg (upd _ i) ?_
      have := ym_nb (v := k) (by omega)
      rw [yp_b8 (by omega)] at this
      exact this
  unfold wpY_compile
  refine ⟨n + 1, ?_⟩
  have := key n 0 (by omega)
  rw [yc_K0, yc_K0] at this
  exact this
end
section
/-! the relation -/
def rl_P (K V : Nat → Int32) (F : gm_A) (fl ff fc : Int32) : Prop :=
  ∃ n NF, fl = nI n ∧ n ≤ 120 ∧ ff = nI NF ∧ fc = nI NF ∧ NF ≤ 4 ∧ gm_tok K V n ∧ gm_ok K V n F NF 400 0 [gi_P] 0 0 0 ∧ ∀ q, q < n → K q = 2 → V q < nI NF ∧ F.2.2.2.2.1 q = F.2.2.2.2.2.2.1 (V q).toNatClampNeg
def i_Rel (_ : Nat) (u : SX) (v : SY) : Prop := match u with
  | (f_tokenCount, f_planCount, f_next, f_wrongToken, f_looseJump, f_latestPlace, f_openLoopCount, f_codeCount, f_labelCount, f_functionCount, f_registerCount, f_activeCalls, f_stackCount, f_nextCode, f_running, f_ending, f_endingPlace, f_resultValue, f_ticksUsed, f_printedCount, a_tokenKind, a_tokenValue, a_planKind, a_planValue, a_planPlace, a_argumentCount, a_openLoop, a_codeKind, a_codeValue, a_codePlace, a_labelTarget, a_functionStart, a_functionParameters, a_register, a_frame, a_returnTo, a_stack, a_element, a_outputValue) => match v with
    | (f_count, f_place, f_length, f_functions, f_loaded, f_loops, f_outside, f_tt, f_vt, f_pos, f_bad, f_checking, f_live, f_pending, f_carry, f_active, f_ticks, f_status, f_result, f_endedAt, f_used, f_printed, a_kind, a_value, a_code, a_number, a_given, a_begins, a_params, a_todo, a_val, a_vars, a_output, a_memory) => (∃ n, f_tokenCount = nI n ∧ f_count = nI n ∧ n ≤ 120 ∧ gm_tok a_tokenKind a_tokenValue n) ∧ a_kind = a_tokenKind ∧ a_value = a_tokenValue ∧ f_place = f_latestPlace ∧ a_given = a_argumentCount ∧ a_params = a_functionParameters
      ∧ (∃ r, f_registerCount = nI r ∧ 1 ≤ r ∧ r ≤ 6) ∧ f_result = f_resultValue ∧ f_endedAt = f_endingPlace ∧ f_used = f_ticksUsed ∧ f_printed = f_printedCount ∧ a_output = a_outputValue ∧ a_memory = a_element
      ∧ ((f_loaded = 0 ∧ f_functionCount = 0) ∨ (f_loaded = 1 ∧ rl_P a_code a_number (a_codeKind, a_codeValue, a_codePlace, a_labelTarget, a_argumentCount, a_functionStart, a_functionParameters, a_begins) f_length f_functions f_functionCount))
theorem i_up {k : Nat} {u : SX} {v : SY} (h : i_Rel k u v) : i_Rel (k + 5) u v := h
theorem rl_tok {K V K' V' : Nat → Int32} {n : Nat} (h : gm_tok K V n) (hK : ∀ j, j < n → K' j = K j) (hV : ∀ j, j < n → V' j = V j) : gm_tok K' V' n := by
  intro j hj
  rw [hK j hj, hV j hj]
  exact h j hj
theorem rl_first {P Q : Nat → Prop} {i j n : Nat} (hi : i < n) (hj : j < n) (h1 : P i) (h2 : ∀ k, k < i → ¬ P k) (h3 : Q j) (h4 : ∀ k, k < j → ¬ Q k) (e : ∀ k, k < n → (P k ↔ Q k)) : i = j := by
  by_cases a : i < j
  · exact absurd ((e i hi).mp h1) (h4 i a)
  · by_cases b : j < i
    · exact absurd ((e j hj).mpr h3) (h2 j b)
    · omega
theorem rl_mk {k : Nat} {f_tokenCount f_planCount f_next f_wrongToken f_looseJump f_latestPlace f_openLoopCount f_codeCount f_labelCount f_functionCount f_registerCount f_activeCalls f_stackCount f_nextCode f_running f_ending f_endingPlace f_resultValue f_ticksUsed f_printedCount : Int32} {a_tokenKind a_tokenValue a_planKind a_planValue a_planPlace a_argumentCount a_openLoop a_codeKind a_codeValue a_codePlace a_labelTarget a_functionStart a_functionParameters a_register a_frame a_returnTo a_stack a_element a_outputValue : Nat → Int32} {f_count f_place f_length f_functions f_loaded f_loops f_outside f_tt f_vt f_pos f_bad f_checking f_live f_pending f_carry f_active f_ticks f_status f_result f_endedAt f_used f_printed : Int32} {a_kind a_value a_code a_number a_given a_begins a_params a_todo a_val a_vars a_output a_memory : Nat → Int32} (h : (∃ n, f_tokenCount = nI n ∧ f_count = nI n ∧ n ≤ 120 ∧ gm_tok a_tokenKind a_tokenValue n) ∧ a_kind = a_tokenKind ∧ a_value = a_tokenValue ∧ f_place = f_latestPlace ∧ a_given = a_argumentCount ∧ a_params = a_functionParameters
      ∧ (∃ r, f_registerCount = nI r ∧ 1 ≤ r ∧ r ≤ 6) ∧ f_result = f_resultValue ∧ f_endedAt = f_endingPlace ∧ f_used = f_ticksUsed ∧ f_printed = f_printedCount ∧ a_output = a_outputValue ∧ a_memory = a_element
      ∧ ((f_loaded = 0 ∧ f_functionCount = 0) ∨ (f_loaded = 1 ∧ rl_P a_code a_number (a_codeKind, a_codeValue, a_codePlace, a_labelTarget, a_argumentCount, a_functionStart, a_functionParameters, a_begins) f_length f_functions f_functionCount))) : i_Rel k (f_tokenCount, f_planCount, f_next, f_wrongToken, f_looseJump, f_latestPlace, f_openLoopCount, f_codeCount, f_labelCount, f_functionCount, f_registerCount, f_activeCalls, f_stackCount, f_nextCode, f_running, f_ending, f_endingPlace, f_resultValue, f_ticksUsed, f_printedCount, a_tokenKind, a_tokenValue, a_planKind, a_planValue, a_planPlace, a_argumentCount, a_openLoop, a_codeKind, a_codeValue, a_codePlace, a_labelTarget, a_functionStart, a_functionParameters, a_register, a_frame, a_returnTo, a_stack, a_element, a_outputValue) (f_count, f_place, f_length, f_functions, f_loaded, f_loops, f_outside, f_tt, f_vt, f_pos, f_bad, f_checking, f_live, f_pending, f_carry, f_active, f_ticks, f_status, f_result, f_endedAt, f_used, f_printed, a_kind, a_value, a_code, a_number, a_given, a_begins, a_params, a_todo, a_val, a_vars, a_output, a_memory) := h
end
section
/-! compile on both sides -/
theorem i_vc_compile {k : Nat} {u : SX} {v : SY} (I : i_Rel k u v) (hk : k + 5 ≤ 2561) : wpX_compile (fun r u' => wpY_compile (fun r' v' => r' = r ∧ i_Rel (k + 5) u' v') v) u := by
  obtain ⟨f_tokenCount, f_planCount, f_next, f_wrongToken, f_looseJump, f_latestPlace, f_openLoopCount, f_codeCount, f_labelCount, f_functionCount, f_registerCount, f_activeCalls, f_stackCount, f_nextCode, f_running, f_ending, f_endingPlace, f_resultValue, f_ticksUsed, f_printedCount, a_tokenKind, a_tokenValue, a_planKind, a_planValue, a_planPlace, a_argumentCount, a_openLoop, a_codeKind, a_codeValue, a_codePlace, a_labelTarget, a_functionStart, a_functionParameters, a_register, a_frame, a_returnTo, a_stack, a_element, a_outputValue⟩ := u
  obtain ⟨f_count, f_place, f_length, f_functions, f_loaded, f_loops, f_outside, f_tt, f_vt, f_pos, f_bad, f_checking, f_live, f_pending, f_carry, f_active, f_ticks, f_status, f_result, f_endedAt, f_used, f_printed, a_kind, a_value, a_code, a_number, a_given, a_begins, a_params, a_todo, a_val, a_vars, a_output, a_memory⟩ := v
  obtain ⟨⟨n, t1, t2, hn, htk⟩, rfl, rfl, rfl, rfl, rfl, hreg, rfl, rfl, rfl, rfl, rfl, rfl, _⟩ := I
  have eK : ∀ j, j < n → yc_K n a_kind a_code j = a_kind j := fun j hj => if_pos hj
  have eV : ∀ j, j < n → yc_K n a_value a_number j = a_value j := fun j hj => if_pos hj
  have hK : gm_tok (yc_K n a_kind a_code) (yc_K n a_value a_number) n := rl_tok htk eK eV
  have eT : ∀ p, gm_tk a_kind n p = gm_tk (yc_K n a_kind a_code) n p := by
    intro p
    unfold gm_tk
    by_cases h : p < n
    · rw [if_pos h, if_pos h, eK p h]
    · rw [if_neg h, if_neg h]
  have hU : xh (f_tokenCount, f_planCount, f_next, f_wrongToken, f_looseJump, f_place, f_openLoopCount, f_codeCount, f_labelCount, f_functionCount, f_registerCount, f_activeCalls, f_stackCount, f_nextCode, f_running, f_ending, f_endedAt, f_result, f_used, f_printed, a_kind, a_value, a_planKind, a_planValue, a_planPlace, a_given, a_openLoop, a_codeKind, a_codeValue, a_codePlace, a_labelTarget, a_functionStart, a_params, a_register, a_frame, a_returnTo, a_stack, a_memory, a_output) (yc_K n a_kind a_code) (yc_K n a_value a_number) n := ⟨t1, hn, eT, fun p hp => (eV p hp).symm, fun q hq => (htk q hq).1⟩
  have hW : yh (f_count, f_place, nI n, 0, 0, 0, -1, 0, 0, 0, 0, 1, 0, 0, f_carry, 0, f_ticks, 0, f_result, f_endedAt, f_used, f_printed, a_kind, a_value, yc_K n a_kind a_code, yc_K n a_value a_number, a_given, a_begins, a_params, a_todo, a_val, a_vars, a_output, a_memory) true n 0 := ⟨rfl, hn, rfl, by decide, hK, fun _ => (by decide : ¬ (1 : Int32) = 0), fun h => by cases h⟩
  have hY0 : yd_R true 0 [] [gi_P] [1] := ⟨rfl, 1, [], rfl, ⟨rfl, by decide⟩, rfl⟩
  have hav : gm_av a_given [gi_P] := ⟨fun z => absurd z (by decide), trivial⟩
  have hI0 := gm_inv0 (yc_K n a_kind a_code) (yc_K n a_value a_number) n
  have hv : ∀ j, j < n → a_kind j = 2 → ∃ u, u ≤ 3 ∧ a_value j = nI u := fun j hj h => (htk j hj).2.2 h
  have hv' : ∀ j, j < n → yc_K n a_kind a_code j = 2 → ∃ u, u ≤ 3 ∧ yc_K n a_value a_number j = nI u := fun j hj h => (hK j hj).2.2 h
  unfold wpX_compile
  refine xm_start fun pk pv pp hP => ⟨1000001, ?_⟩
  rcases gm_fin hK hn 400 0 [gi_P] 0 0 0 (-1) (a_codeKind, a_codeValue, a_codePlace, a_labelTarget, a_given, a_functionStart, a_params, a_begins) hI0 (by simp [gm_sm, gw_m]; omega) (Or.inl rfl) with ⟨e, ac, fp, he, hr⟩ | ⟨p', cc', lc', fc', o', A', ho, hfc, hr⟩
  · refine xc_run (U := (f_tokenCount, f_planCount, f_next, f_wrongToken, f_looseJump, f_place, f_openLoopCount, f_codeCount, f_labelCount, f_functionCount, f_registerCount, f_activeCalls, f_stackCount, f_nextCode, f_running, f_ending, f_endedAt, f_result, f_used, f_printed, a_kind, a_value, a_planKind, a_planValue, a_planPlace, a_given, a_openLoop, a_codeKind, a_codeValue, a_codePlace, a_labelTarget, a_functionStart, a_params, a_register, a_frame, a_returnTo, a_stack, a_memory, a_output)) hU hK (E := fun e' ac' fp' => e' = e ∧ ac' = ac ∧ fp' = fp) (D := fun _ _ _ _ _ _ => False) ?_ (fun _ _ _ _ _ _ h => h.elim) 400 0 0 [gi_P] 0 0 0 (-1) (a_codeKind, a_codeValue, a_codePlace, a_labelTarget, a_given, a_functionStart, a_params, a_begins) (by decide) hI0 hav (hr _ _ ⟨rfl, rfl, rfl⟩) pk pv pp a_openLoop hP trivial 1000001 (by decide)
    rintro e' ac' fp' ⟨rfl, rfl, rfl⟩ s hs pc nx lj oc cc lc fc pk pv pp oa ck cv cp lt fs
    refine xe_end hs (Or.inr (nI_pos' (by omega))) (xj_err rfl (by omega) ?_)
    refine yc_all (A := (a_codeKind, a_codeValue, a_codePlace, a_labelTarget, a_given, a_functionStart, a_params, a_begins)) t2 hn (fun j hj => (htk j hj).1) rfl rfl rfl ?_
    refine yc_run hW (E := fun e1 ac1 fp1 => e1 = e' ∧ ac1 = ac' ∧ fp1 = fp') (D := fun _ _ _ _ _ _ => False) ?_ (fun _ _ _ _ _ _ h => h.elim) 400 0 0 [gi_P] 0 0 0 (-1) (a_codeKind, a_codeValue, a_codePlace, a_labelTarget, a_given, a_functionStart, a_params, a_begins) [1] (by decide) hI0 hav (hr _ _ ⟨rfl, rfl, rfl⟩) hY0
    rintro e1 ac1 fp1 ⟨rfl, rfl, rfl⟩ g hg tt lo ou fn td be
    refine ye_end hg (Or.inr (Or.inl (by decide))) ?_
    refine br_f (by decide) ⟨rfl, ?_⟩
    exact rl_mk ⟨⟨n, t1, t2, hn, htk⟩, rfl, rfl, rfl, rfl, rfl, hreg, rfl, rfl, rfl, rfl, rfl, rfl, Or.inl ⟨rfl, rfl⟩⟩
  · have Yrun : ∀ postY : Int32 → SY → Prop, (∀ td, yc_P postY (f_count, f_place, nI n, nI fc', 0, 0, o', 0, 0, nI p', 0, 1, 0, 0, f_carry, 0, f_ticks, 0, f_result, f_endedAt, f_used, f_printed, a_kind, a_value, yc_K n a_kind a_code, yc_K n a_value a_number, A'.2.2.2.2.1, A'.2.2.2.2.2.2.2, A'.2.2.2.2.2.2.1, td, a_val, a_vars, a_output, a_memory)) → wpY_compile postY (f_count, f_place, f_length, f_functions, f_loaded, f_loops, f_outside, f_tt, f_vt, f_pos, f_bad, f_checking, f_live, f_pending, f_carry, f_active, f_ticks, f_status, f_result, f_endedAt, f_used, f_printed, a_kind, a_value, a_code, a_number, a_given, a_begins, a_params, a_todo, a_val, a_vars, a_output, a_memory) := by
      intro postY hy
      refine yc_all (A := (a_codeKind, a_codeValue, a_codePlace, a_labelTarget, a_given, a_functionStart, a_params, a_begins)) t2 hn (fun j hj => (htk j hj).1) rfl rfl rfl ?_
      refine yc_run hW (E := fun _ _ _ => False) (D := fun p cc lc fc o A => p = p' ∧ cc = cc' ∧ lc = lc' ∧ fc = fc' ∧ o = o' ∧ A = A') (fun _ _ _ h => h.elim) ?_ 400 0 0 [gi_P] 0 0 0 (-1) (a_codeKind, a_codeValue, a_codePlace, a_labelTarget, a_given, a_functionStart, a_params, a_begins) [1] (by decide) hI0 hav (hr _ _ ⟨rfl, rfl, rfl, rfl, rfl, rfl⟩) hY0
      rintro p cc lc fc o A ⟨rfl, rfl, rfl, rfl, rfl, rfl⟩ g hg td hd
      exact ye_end hg (Or.inl (by decide)) (hy td)
    refine xc_run (U := (f_tokenCount, f_planCount, f_next, f_wrongToken, f_looseJump, f_place, f_openLoopCount, f_codeCount, f_labelCount, f_functionCount, f_registerCount, f_activeCalls, f_stackCount, f_nextCode, f_running, f_ending, f_endedAt, f_result, f_used, f_printed, a_kind, a_value, a_planKind, a_planValue, a_planPlace, a_given, a_openLoop, a_codeKind, a_codeValue, a_codePlace, a_labelTarget, a_functionStart, a_params, a_register, a_frame, a_returnTo, a_stack, a_memory, a_output)) hU hK (E := fun _ _ _ => False) (D := fun p cc lc fc o A => p = p' ∧ cc = cc' ∧ lc = lc' ∧ fc = fc' ∧ o = o' ∧ A = A') (fun _ _ _ h => h.elim) ?_ 400 0 0 [gi_P] 0 0 0 (-1) (a_codeKind, a_codeValue, a_codePlace, a_labelTarget, a_given, a_functionStart, a_params, a_begins) (by decide) hI0 hav (hr _ _ ⟨rfl, rfl, rfl, rfl, rfl, rfl⟩) pk pv pp a_openLoop hP trivial 1000001 (by decide)
    rintro p cc lc fc o A ⟨rfl, rfl, rfl, rfl, rfl, rfl⟩ s hs pk pv pp oa hP hO
    refine xe_end hs (Or.inl (by decide)) ?_
    by_cases hneg : o < 0
    · have hq3 : ∀ j, j < n → ((a_kind j = 2 ∧ ¬ a_value j < nI fc) ↔ (yc_K n a_kind a_code j = 2 ∧ ¬ yc_K n a_value a_number j < nI fc)) := fun j hj => by rw [eK j hj, eV j hj]
      have hq4 : ∀ j, j < n → ((a_kind j = 2 ∧ ¬ A.2.2.2.2.1 j = A.2.2.2.2.2.2.1 (a_value j).toNatClampNeg) ↔ (yc_K n a_kind a_code j = 2 ∧ ¬ A.2.2.2.2.1 j = A.2.2.2.2.2.2.1 (yc_K n a_value a_number j).toNatClampNeg)) := fun j hj => by rw [eK j hj, eV j hj]
      refine xj_rest t1 hn hv rfl hneg (fun i hi a b => ?_) (fun z i hi a b => ?_) (fun z y => ?_)
      · refine Yrun _ fun td => br_t rfl (br_t hneg ?_)
        refine ym_unk rfl hn hv' (fun i' hi' a' b' => ⟨rfl, ?_⟩) (fun z' => absurd ((hq3 i hi).mp a) (z' i hi)) (fun z' => absurd ((hq3 i hi).mp a) (z' i hi))
        have e : i = i' := rl_first hi hi' a b a' b' hq3
        subst e
        exact rl_mk ⟨⟨n, t1, t2, hn, htk⟩, rfl, rfl, rfl, rfl, rfl, hreg, rfl, rfl, rfl, rfl, rfl, rfl, Or.inl ⟨rfl, rfl⟩⟩
      · refine Yrun _ fun td => br_t rfl (br_t hneg ?_)
        refine ym_unk rfl hn hv' (fun i' hi' a' b' => absurd ((hq3 i' hi').mpr a') (z i' hi')) (fun z' i' hi' a' b' => ⟨rfl, ?_⟩) (fun z' y' => absurd ((hq4 i hi).mp a) (y' i hi))
        have e : i = i' := rl_first hi hi' a b a' b' hq4
        subst e
        exact rl_mk ⟨⟨n, t1, t2, hn, htk⟩, rfl, rfl, rfl, rfl, rfl, hreg, rfl, rfl, rfl, rfl, rfl, rfl, Or.inl ⟨rfl, rfl⟩⟩
      · refine Yrun _ fun td => br_t rfl (br_t hneg ?_)
        refine ym_unk rfl hn hv' (fun i' hi' a' b' => absurd ((hq3 i' hi').mpr a') (z i' hi')) (fun z' i' hi' a' b' => absurd ((hq4 i' hi').mpr a') (y i' hi')) (fun z' y' => ⟨rfl, ?_⟩)
        have ho' : o = -1 := ho.resolve_right (fun h => absurd hneg (Int32.not_lt.mpr h))
        have hok := (gm_okT (F := A) (NF := fc) hK hn 400 0 [gi_P] 0 0 0 (-1) (a_codeKind, a_codeValue, a_codePlace, a_labelTarget, a_given, a_functionStart, a_params, a_begins) hI0 hav (hr _ _ ⟨rfl, rfl, ho'⟩)).1
        refine rl_mk ⟨⟨n, t1, t2, hn, htk⟩, rfl, rfl, rfl, rfl, rfl, hreg, rfl, rfl, rfl, rfl, rfl, rfl, Or.inr ⟨rfl, n, fc, rfl, hn, rfl, rfl, hfc, hK, hok, fun q hq h2 => ⟨?_, ?_⟩⟩⟩
        · exact Decidable.byContradiction fun w => z' q hq ⟨h2, w⟩
        · exact Decidable.byContradiction fun w => y' q hq ⟨h2, w⟩
    · refine xj_loop rfl hneg ?_
      refine Yrun _ fun td => br_t rfl (br_f hneg ⟨rfl, ?_⟩)
      exact rl_mk ⟨⟨n, t1, t2, hn, htk⟩, rfl, rfl, rfl, rfl, rfl, hreg, rfl, rfl, rfl, rfl, rfl, rfl, Or.inl ⟨rfl, rfl⟩⟩
end
section
/-! the small methods -/
theorem i_vc0 (k0 : Int32) : wpX_init (fun u => wpY_init (fun v => i_Rel 1 u v) k0) k0 := by
  have key : ∀ r, (∃ q, r = nI q ∧ 1 ≤ q ∧ q ≤ 6) → wpY_init (fun v => i_Rel 1 (0, 0, 0, (-1), (-1), (-1), 0, 0, 0, 0, r, 0, 0, 0, 0, 0, (-1), 0, 0, 0, (fun _ => 0), (fun _ => 0), (fun _ => 0), (fun _ => 0), (fun _ => 0), (fun _ => 0), (fun _ => 0), (fun _ => 0), (fun _ => 0), (fun _ => 0), (fun _ => 0), (fun _ => 0), (fun _ => 0), (fun _ => 0), (fun _ => 0), (fun _ => 0), (fun _ => 0), (fun _ => 0), (fun _ => 0)) v) k0 := by
    intro r hr
    unfold wpY_init
    exact rl_mk ⟨⟨0, rfl, rfl, by decide, fun j hj => absurd hj (by omega)⟩, rfl, rfl, rfl, rfl, rfl, hr, rfl, rfl, rfl, rfl, rfl, rfl, Or.inl ⟨rfl, rfl⟩⟩
  refine br_c (fun h1 => br_c (fun h6 => key k0 ?_) (fun _ => key 6 ⟨6, rfl, by decide, by decide⟩)) (fun _ => key 1 ⟨1, rfl, by decide, by decide⟩)
  have h0 : ¬ k0 < 0 := Int32.not_lt.mpr (Int32.le_trans (by decide) h1)
  obtain ⟨q, hq, rfl⟩ := nI_of2 (M := 6) (n := 6) (by decide) h0 h6
  refine ⟨q, rfl, ?_, hq⟩
  exact (nI_leI (a := 1) (by decide) (by omega)).mp h1
theorem i_vc_wipe {k : Nat} {u : SX} {v : SY} (I : i_Rel k u v) (hk : k + 5 ≤ 2561) : wpX_wipe (fun r u' => wpY_wipe (fun r' v' => r' = r ∧ i_Rel (k + 5) u' v') v) u := by
  obtain ⟨f_tokenCount, f_planCount, f_next, f_wrongToken, f_looseJump, f_latestPlace, f_openLoopCount, f_codeCount, f_labelCount, f_functionCount, f_registerCount, f_activeCalls, f_stackCount, f_nextCode, f_running, f_ending, f_endingPlace, f_resultValue, f_ticksUsed, f_printedCount, a_tokenKind, a_tokenValue, a_planKind, a_planValue, a_planPlace, a_argumentCount, a_openLoop, a_codeKind, a_codeValue, a_codePlace, a_labelTarget, a_functionStart, a_functionParameters, a_register, a_frame, a_returnTo, a_stack, a_element, a_outputValue⟩ := u; obtain ⟨f_count, f_place, f_length, f_functions, f_loaded, f_loops, f_outside, f_tt, f_vt, f_pos, f_bad, f_checking, f_live, f_pending, f_carry, f_active, f_ticks, f_status, f_result, f_endedAt, f_used, f_printed, a_kind, a_value, a_code, a_number, a_given, a_begins, a_params, a_todo, a_val, a_vars, a_output, a_memory⟩ := v
  obtain ⟨⟨n, t1, t2, hn, htk⟩, rfl, rfl, rfl, rfl, rfl, hreg, rfl, rfl, rfl, rfl, rfl, rfl, hL⟩ := I
  exact ⟨t2.trans t1.symm, rl_mk ⟨⟨0, rfl, rfl, by decide, fun j hj => absurd hj (by omega)⟩, rfl, rfl, rfl, rfl, rfl, hreg, rfl, rfl, rfl, rfl, rfl, rfl, hL⟩⟩
theorem i_vc_place {k : Nat} {u : SX} {v : SY} (I : i_Rel k u v) (hk : k + 5 ≤ 2561) : wpX_place (fun r => wpY_place (fun r' => r' = r ∧ i_Rel (k + 5) u v) v) u := by
  obtain ⟨f_tokenCount, f_planCount, f_next, f_wrongToken, f_looseJump, f_latestPlace, f_openLoopCount, f_codeCount, f_labelCount, f_functionCount, f_registerCount, f_activeCalls, f_stackCount, f_nextCode, f_running, f_ending, f_endingPlace, f_resultValue, f_ticksUsed, f_printedCount, a_tokenKind, a_tokenValue, a_planKind, a_planValue, a_planPlace, a_argumentCount, a_openLoop, a_codeKind, a_codeValue, a_codePlace, a_labelTarget, a_functionStart, a_functionParameters, a_register, a_frame, a_returnTo, a_stack, a_element, a_outputValue⟩ := u; obtain ⟨f_count, f_place, f_length, f_functions, f_loaded, f_loops, f_outside, f_tt, f_vt, f_pos, f_bad, f_checking, f_live, f_pending, f_carry, f_active, f_ticks, f_status, f_result, f_endedAt, f_used, f_printed, a_kind, a_value, a_code, a_number, a_given, a_begins, a_params, a_todo, a_val, a_vars, a_output, a_memory⟩ := v
  have I' := I
  obtain ⟨⟨n, t1, t2, hn, htk⟩, rfl, rfl, rfl, rfl, rfl, hreg, rfl, rfl, rfl, rfl, rfl, rfl, hL⟩ := I
  exact ⟨rfl, I'⟩
theorem i_vc_result {k : Nat} {u : SX} {v : SY} (I : i_Rel k u v) (hk : k + 5 ≤ 2561) : wpX_result (fun r => wpY_result (fun r' => r' = r ∧ i_Rel (k + 5) u v) v) u := by
  obtain ⟨f_tokenCount, f_planCount, f_next, f_wrongToken, f_looseJump, f_latestPlace, f_openLoopCount, f_codeCount, f_labelCount, f_functionCount, f_registerCount, f_activeCalls, f_stackCount, f_nextCode, f_running, f_ending, f_endingPlace, f_resultValue, f_ticksUsed, f_printedCount, a_tokenKind, a_tokenValue, a_planKind, a_planValue, a_planPlace, a_argumentCount, a_openLoop, a_codeKind, a_codeValue, a_codePlace, a_labelTarget, a_functionStart, a_functionParameters, a_register, a_frame, a_returnTo, a_stack, a_element, a_outputValue⟩ := u; obtain ⟨f_count, f_place, f_length, f_functions, f_loaded, f_loops, f_outside, f_tt, f_vt, f_pos, f_bad, f_checking, f_live, f_pending, f_carry, f_active, f_ticks, f_status, f_result, f_endedAt, f_used, f_printed, a_kind, a_value, a_code, a_number, a_given, a_begins, a_params, a_todo, a_val, a_vars, a_output, a_memory⟩ := v
  have I' := I
  obtain ⟨⟨n, t1, t2, hn, htk⟩, rfl, rfl, rfl, rfl, rfl, hreg, rfl, rfl, rfl, rfl, rfl, rfl, hL⟩ := I
  exact ⟨rfl, I'⟩
theorem i_vc_endedAt {k : Nat} {u : SX} {v : SY} (I : i_Rel k u v) (hk : k + 5 ≤ 2561) : wpX_endedAt (fun r => wpY_endedAt (fun r' => r' = r ∧ i_Rel (k + 5) u v) v) u := by
  obtain ⟨f_tokenCount, f_planCount, f_next, f_wrongToken, f_looseJump, f_latestPlace, f_openLoopCount, f_codeCount, f_labelCount, f_functionCount, f_registerCount, f_activeCalls, f_stackCount, f_nextCode, f_running, f_ending, f_endingPlace, f_resultValue, f_ticksUsed, f_printedCount, a_tokenKind, a_tokenValue, a_planKind, a_planValue, a_planPlace, a_argumentCount, a_openLoop, a_codeKind, a_codeValue, a_codePlace, a_labelTarget, a_functionStart, a_functionParameters, a_register, a_frame, a_returnTo, a_stack, a_element, a_outputValue⟩ := u; obtain ⟨f_count, f_place, f_length, f_functions, f_loaded, f_loops, f_outside, f_tt, f_vt, f_pos, f_bad, f_checking, f_live, f_pending, f_carry, f_active, f_ticks, f_status, f_result, f_endedAt, f_used, f_printed, a_kind, a_value, a_code, a_number, a_given, a_begins, a_params, a_todo, a_val, a_vars, a_output, a_memory⟩ := v
  have I' := I
  obtain ⟨⟨n, t1, t2, hn, htk⟩, rfl, rfl, rfl, rfl, rfl, hreg, rfl, rfl, rfl, rfl, rfl, rfl, hL⟩ := I
  exact ⟨rfl, I'⟩
theorem i_vc_used {k : Nat} {u : SX} {v : SY} (I : i_Rel k u v) (hk : k + 5 ≤ 2561) : wpX_used (fun r => wpY_used (fun r' => r' = r ∧ i_Rel (k + 5) u v) v) u := by
  obtain ⟨f_tokenCount, f_planCount, f_next, f_wrongToken, f_looseJump, f_latestPlace, f_openLoopCount, f_codeCount, f_labelCount, f_functionCount, f_registerCount, f_activeCalls, f_stackCount, f_nextCode, f_running, f_ending, f_endingPlace, f_resultValue, f_ticksUsed, f_printedCount, a_tokenKind, a_tokenValue, a_planKind, a_planValue, a_planPlace, a_argumentCount, a_openLoop, a_codeKind, a_codeValue, a_codePlace, a_labelTarget, a_functionStart, a_functionParameters, a_register, a_frame, a_returnTo, a_stack, a_element, a_outputValue⟩ := u; obtain ⟨f_count, f_place, f_length, f_functions, f_loaded, f_loops, f_outside, f_tt, f_vt, f_pos, f_bad, f_checking, f_live, f_pending, f_carry, f_active, f_ticks, f_status, f_result, f_endedAt, f_used, f_printed, a_kind, a_value, a_code, a_number, a_given, a_begins, a_params, a_todo, a_val, a_vars, a_output, a_memory⟩ := v
  have I' := I
  obtain ⟨⟨n, t1, t2, hn, htk⟩, rfl, rfl, rfl, rfl, rfl, hreg, rfl, rfl, rfl, rfl, rfl, rfl, hL⟩ := I
  exact ⟨rfl, I'⟩
theorem i_vc_printed {k : Nat} {u : SX} {v : SY} (I : i_Rel k u v) (hk : k + 5 ≤ 2561) : wpX_printed (fun r => wpY_printed (fun r' => r' = r ∧ i_Rel (k + 5) u v) v) u := by
  obtain ⟨f_tokenCount, f_planCount, f_next, f_wrongToken, f_looseJump, f_latestPlace, f_openLoopCount, f_codeCount, f_labelCount, f_functionCount, f_registerCount, f_activeCalls, f_stackCount, f_nextCode, f_running, f_ending, f_endingPlace, f_resultValue, f_ticksUsed, f_printedCount, a_tokenKind, a_tokenValue, a_planKind, a_planValue, a_planPlace, a_argumentCount, a_openLoop, a_codeKind, a_codeValue, a_codePlace, a_labelTarget, a_functionStart, a_functionParameters, a_register, a_frame, a_returnTo, a_stack, a_element, a_outputValue⟩ := u; obtain ⟨f_count, f_place, f_length, f_functions, f_loaded, f_loops, f_outside, f_tt, f_vt, f_pos, f_bad, f_checking, f_live, f_pending, f_carry, f_active, f_ticks, f_status, f_result, f_endedAt, f_used, f_printed, a_kind, a_value, a_code, a_number, a_given, a_begins, a_params, a_todo, a_val, a_vars, a_output, a_memory⟩ := v
  have I' := I
  obtain ⟨⟨n, t1, t2, hn, htk⟩, rfl, rfl, rfl, rfl, rfl, hreg, rfl, rfl, rfl, rfl, rfl, rfl, hL⟩ := I
  exact ⟨rfl, I'⟩
theorem rl_in {x : Int32} {N : Nat} {M : Int32} (hM : M.toInt = N) (h0 : ¬ x < 0) (h : x ≤ M) (hN : N < 2 ^ 30) : vp_in x (N + 1) := by
  obtain ⟨j, hj, rfl⟩ := nI_of2 hM h0 h
  exact vp_in_nI (by omega) (by omega)
theorem i_vc_output {k : Nat} {u : SX} {v : SY} (I : i_Rel k u v) (hk : k + 5 ≤ 2561) (v1 : Int32) : wpX_output (fun r => wpY_output (fun r' => r' = r ∧ i_Rel (k + 5) u v) v v1) u v1 := by
  obtain ⟨f_tokenCount, f_planCount, f_next, f_wrongToken, f_looseJump, f_latestPlace, f_openLoopCount, f_codeCount, f_labelCount, f_functionCount, f_registerCount, f_activeCalls, f_stackCount, f_nextCode, f_running, f_ending, f_endingPlace, f_resultValue, f_ticksUsed, f_printedCount, a_tokenKind, a_tokenValue, a_planKind, a_planValue, a_planPlace, a_argumentCount, a_openLoop, a_codeKind, a_codeValue, a_codePlace, a_labelTarget, a_functionStart, a_functionParameters, a_register, a_frame, a_returnTo, a_stack, a_element, a_outputValue⟩ := u; obtain ⟨f_count, f_place, f_length, f_functions, f_loaded, f_loops, f_outside, f_tt, f_vt, f_pos, f_bad, f_checking, f_live, f_pending, f_carry, f_active, f_ticks, f_status, f_result, f_endedAt, f_used, f_printed, a_kind, a_value, a_code, a_number, a_given, a_begins, a_params, a_todo, a_val, a_vars, a_output, a_memory⟩ := v
  have I' := I
  obtain ⟨⟨n, t1, t2, hn, htk⟩, rfl, rfl, rfl, rfl, rfl, hreg, rfl, rfl, rfl, rfl, rfl, rfl, hL⟩ := I
  refine br_c (fun h => br_t h ⟨rfl, I'⟩) (fun h => br_c (fun h2 => ?_) (fun h2 => ?_))
  · exact br_f h (br_t (Int32.lt_of_lt_of_le (by decide) h2) ⟨rfl, I'⟩)
  · have h3 : v1 ≤ 23 := by
      obtain ⟨j, hj, rfl⟩ := nI_of h
      have : ¬ 24 ≤ j := fun z => h2 (nI_le (a := 24) z hj)
      exact nI_le (b := 23) (by omega) (by decide)
    have vi : vp_in v1 24 := rl_in (N := 23) (by decide) h h3 (by decide)
    refine br_c (fun h4 => ?_) (fun h4 => ⟨vi, ?_⟩)
    · exact br_f h (br_f (Int32.not_lt.mpr h3) (br_f (Int32.not_lt.mpr h4) ⟨rfl, I'⟩))
    · exact br_f h (br_f (Int32.not_lt.mpr h3) (br_t (Int32.not_le.mp h4) ⟨vi, rfl, I'⟩))
theorem xm_isE {post : Int32 → Prop} {x : Int32} (H0 : (x < 0 ∨ ¬ x ≤ 15) → post 0) (H1 : ¬ x < 0 → x ≤ 15 → post 1) : wpX_isElement post x := by
  refine br_c (fun h => H0 (Or.inl h)) (fun h => br_c (fun h2 => H0 (Or.inr (fun z => ?_))) (fun h2 => H1 h ?_))
  · exact absurd (Int32.le_trans h2 z) (by decide)
  · obtain ⟨j, hj, rfl⟩ := nI_of h
    have : ¬ 16 ≤ j := fun z => h2 (nI_le (a := 16) z hj)
    exact nI_le (b := 15) (by omega) (by decide)
theorem i_vc_memory {k : Nat} {u : SX} {v : SY} (I : i_Rel k u v) (hk : k + 5 ≤ 2561) (v1 : Int32) : wpX_memory (fun r => wpY_memory (fun r' => r' = r ∧ i_Rel (k + 5) u v) v v1) u v1 := by
  obtain ⟨f_tokenCount, f_planCount, f_next, f_wrongToken, f_looseJump, f_latestPlace, f_openLoopCount, f_codeCount, f_labelCount, f_functionCount, f_registerCount, f_activeCalls, f_stackCount, f_nextCode, f_running, f_ending, f_endingPlace, f_resultValue, f_ticksUsed, f_printedCount, a_tokenKind, a_tokenValue, a_planKind, a_planValue, a_planPlace, a_argumentCount, a_openLoop, a_codeKind, a_codeValue, a_codePlace, a_labelTarget, a_functionStart, a_functionParameters, a_register, a_frame, a_returnTo, a_stack, a_element, a_outputValue⟩ := u; obtain ⟨f_count, f_place, f_length, f_functions, f_loaded, f_loops, f_outside, f_tt, f_vt, f_pos, f_bad, f_checking, f_live, f_pending, f_carry, f_active, f_ticks, f_status, f_result, f_endedAt, f_used, f_printed, a_kind, a_value, a_code, a_number, a_given, a_begins, a_params, a_todo, a_val, a_vars, a_output, a_memory⟩ := v
  have I' := I
  obtain ⟨⟨n, t1, t2, hn, htk⟩, rfl, rfl, rfl, rfl, rfl, hreg, rfl, rfl, rfl, rfl, rfl, rfl, hL⟩ := I
  unfold wpX_memory
  refine xm_isE (fun h => br_t rfl ?_) (fun h h2 => br_f (by decide) ⟨rl_in (N := 15) (by decide) h h2 (by decide), br_f h (br_t h2 ⟨rl_in (N := 15) (by decide) h h2 (by decide), rfl, I'⟩)⟩)
  by_cases h0 : v1 < 0
  · exact br_t h0 ⟨rfl, I'⟩
  · exact br_f h0 (br_f (h.resolve_left h0) ⟨rfl, I'⟩)
theorem i_vc_store {k : Nat} {u : SX} {v : SY} (I : i_Rel k u v) (hk : k + 5 ≤ 2561) (v1 : Int32) (v2 : Int32) : wpX_store (fun r u' => wpY_store (fun r' v' => r' = r ∧ i_Rel (k + 5) u' v') v v1 v2) u v1 v2 := by
  obtain ⟨f_tokenCount, f_planCount, f_next, f_wrongToken, f_looseJump, f_latestPlace, f_openLoopCount, f_codeCount, f_labelCount, f_functionCount, f_registerCount, f_activeCalls, f_stackCount, f_nextCode, f_running, f_ending, f_endingPlace, f_resultValue, f_ticksUsed, f_printedCount, a_tokenKind, a_tokenValue, a_planKind, a_planValue, a_planPlace, a_argumentCount, a_openLoop, a_codeKind, a_codeValue, a_codePlace, a_labelTarget, a_functionStart, a_functionParameters, a_register, a_frame, a_returnTo, a_stack, a_element, a_outputValue⟩ := u; obtain ⟨f_count, f_place, f_length, f_functions, f_loaded, f_loops, f_outside, f_tt, f_vt, f_pos, f_bad, f_checking, f_live, f_pending, f_carry, f_active, f_ticks, f_status, f_result, f_endedAt, f_used, f_printed, a_kind, a_value, a_code, a_number, a_given, a_begins, a_params, a_todo, a_val, a_vars, a_output, a_memory⟩ := v
  have I' := I
  obtain ⟨⟨n, t1, t2, hn, htk⟩, rfl, rfl, rfl, rfl, rfl, hreg, rfl, rfl, rfl, rfl, rfl, rfl, hL⟩ := I
  unfold wpX_store
  refine xm_isE (fun h => br_t rfl ?_) (fun h h2 => br_f (by decide) ⟨rl_in (N := 15) (by decide) h h2 (by decide), nm_e (br_f h (br_t h2 ⟨rl_in (N := 15) (by decide) h h2 (by decide), nm_e ⟨rfl, rl_mk ⟨⟨n, t1, t2, hn, htk⟩, rfl, rfl, rfl, rfl, rfl, hreg, rfl, rfl, rfl, rfl, rfl, rfl, hL⟩⟩⟩))⟩)
  by_cases h0 : v1 < 0
  · exact br_t h0 ⟨rfl, I'⟩
  · exact br_f h0 (br_f (h.resolve_left h0) ⟨rfl, I'⟩)
theorem rl_app {K V : Nat → Int32} {n : Nat} {a b : Int32} (h : gm_tok K V n) (ha : ∃ k, k ≤ 41 ∧ a = nI k) (h1 : a = 1 → ∃ u, u ≤ 5 ∧ b = nI u) (h2 : a = 2 → ∃ u, u ≤ 3 ∧ b = nI u) : gm_tok (upd K n a) (upd V n b) (n + 1) := by
  intro j hj
  by_cases e : j = n
  · subst e
    rw [pk_us, pk_us]
    exact ⟨ha, h1, h2⟩
  · rw [pk_un e, pk_un e]
    exact h j (by omega)
theorem i_vc_token {k : Nat} {u : SX} {v : SY} (I : i_Rel k u v) (hk : k + 5 ≤ 2561) (v1 : Int32) (v2 : Int32) : wpX_token (fun r u' => wpY_token (fun r' v' => r' = r ∧ i_Rel (k + 5) u' v') v v1 v2) u v1 v2 := by
  obtain ⟨f_tokenCount, f_planCount, f_next, f_wrongToken, f_looseJump, f_latestPlace, f_openLoopCount, f_codeCount, f_labelCount, f_functionCount, f_registerCount, f_activeCalls, f_stackCount, f_nextCode, f_running, f_ending, f_endingPlace, f_resultValue, f_ticksUsed, f_printedCount, a_tokenKind, a_tokenValue, a_planKind, a_planValue, a_planPlace, a_argumentCount, a_openLoop, a_codeKind, a_codeValue, a_codePlace, a_labelTarget, a_functionStart, a_functionParameters, a_register, a_frame, a_returnTo, a_stack, a_element, a_outputValue⟩ := u; obtain ⟨f_count, f_place, f_length, f_functions, f_loaded, f_loops, f_outside, f_tt, f_vt, f_pos, f_bad, f_checking, f_live, f_pending, f_carry, f_active, f_ticks, f_status, f_result, f_endedAt, f_used, f_printed, a_kind, a_value, a_code, a_number, a_given, a_begins, a_params, a_todo, a_val, a_vars, a_output, a_memory⟩ := v
  have I' := I
  obtain ⟨⟨n, t1, t2, hn, htk⟩, rfl, rfl, rfl, rfl, rfl, hreg, rfl, rfl, rfl, rfl, rfl, rfl, hL⟩ := I
  refine br_c (fun h => br_t h ⟨rfl, I'⟩) (fun h => br_c (fun h2 => ?_) (fun h2 => ?_))
  · exact br_f h (br_t (Int32.lt_of_lt_of_le (by decide) h2) ⟨rfl, I'⟩)
  obtain ⟨a, ha, rfl⟩ := nI_of h
  have ha' : a ≤ 41 := by
    have : ¬ 42 ≤ a := fun z => h2 (nI_le (a := 42) z ha)
    omega
  have h3 : ¬ (41 : Int32) < nI a := nI_nlt (a := 41) ha' (by decide)
  subst t1 t2
  have e3 : (nI n).toNatClampNeg = n := nI_clamp (by omega)
  refine pk_lt n 120 (fun hn2 => ?_) (fun hn2 => ?_)
  · have e120 : ¬ nI n = 120 := fun z => by have := (nI_eq (a := n) (b := 120) (by omega) (by decide)).mp z; omega
    have vi : vp_in (nI n) 120 := vp_in_nI hn2 (by decide)
    have fin : (nI a = 1 → ∃ u, u ≤ 5 ∧ v2 = nI u) → (nI a = 2 → ∃ u, u ≤ 3 ∧ v2 = nI u) → wX_token_54 (fun r u' => wpY_token (fun r' v' => r' = r ∧ i_Rel (k + 5) u' v') (nI n, f_place, f_length, f_functions, f_loaded, f_loops, f_outside, f_tt, f_vt, f_pos, f_bad, f_checking, f_live, f_pending, f_carry, f_active, f_ticks, f_status, f_result, f_endedAt, f_used, f_printed, a_kind, a_value, a_code, a_number, a_given, a_begins, a_params, a_todo, a_val, a_vars, a_output, a_memory) (nI a) v2) (nI a) v2 (nI n) f_planCount f_next f_wrongToken f_looseJump f_place f_openLoopCount f_codeCount f_labelCount f_functionCount f_registerCount f_activeCalls f_stackCount f_nextCode f_running f_ending f_endedAt f_result f_used f_printed a_kind a_value a_planKind a_planValue a_planPlace a_given a_openLoop a_codeKind a_codeValue a_codePlace a_labelTarget a_functionStart a_params a_register a_frame a_returnTo a_stack a_memory a_output := by
      intro h1 h2
      have y38 : ∀ P : Int32 → SY → Prop, P 1 (nI (n + 1), f_place, f_length, f_functions, f_loaded, f_loops, f_outside, f_tt, f_vt, f_pos, f_bad, f_checking, f_live, f_pending, f_carry, f_active, f_ticks, f_status, f_result, f_endedAt, f_used, f_printed, upd a_kind n (nI a), upd a_value n v2, a_code, a_number, a_given, a_begins, a_params, a_todo, a_val, a_vars, a_output, a_memory) → wpY_token P (nI n, f_place, f_length, f_functions, f_loaded, f_loops, f_outside, f_tt, f_vt, f_pos, f_bad, f_checking, f_live, f_pending, f_carry, f_active, f_ticks, f_status, f_result, f_endedAt, f_used, f_printed, a_kind, a_value, a_code, a_number, a_given, a_begins, a_params, a_todo, a_val, a_vars, a_output, a_memory) (nI a) v2 := by
        intro P hP
        have z38 : wY_token_38 P (nI a) v2 (nI n) f_place f_length f_functions f_loaded f_loops f_outside f_tt f_vt f_pos f_bad f_checking f_live f_pending f_carry f_active f_ticks f_status f_result f_endedAt f_used f_printed a_kind a_value a_code a_number a_given a_begins a_params a_todo a_val a_vars a_output a_memory := br_f e120 ⟨vi, nm_r (e' := upd a_kind n (nI a)) (by rw [e3]; exact congrArg (upd a_kind n) (ym_nb (by omega))) (nm_r (nI_1 _) ⟨vi, nm_r (e' := upd a_value n v2) (by rw [e3]) hP⟩)⟩
        have z24 : wY_token_24 P (nI a) v2 (nI n) f_place f_length f_functions f_loaded f_loops f_outside f_tt f_vt f_pos f_bad f_checking f_live f_pending f_carry f_active f_ticks f_status f_result f_endedAt f_used f_printed a_kind a_value a_code a_number a_given a_begins a_params a_todo a_val a_vars a_output a_memory := br_c (fun q => by
          obtain ⟨w, hw, ew⟩ := h2 q
          exact br_f (by rw [ew]; exact nI_pos (by omega)) (br_f (by rw [ew]; exact nI_nlt (a := 3) hw (by decide)) z38)) (fun _ => z38)
        exact br_f h (br_f h3 (br_c (fun q => by
          obtain ⟨w, hw, ew⟩ := h1 q
          exact br_f (by rw [ew]; exact nI_pos (by omega)) (br_f (by rw [ew]; exact nI_nlt (a := 5) hw (by decide)) z24)) (fun _ => z24)))
      refine ⟨vi, nm_r (e' := upd a_kind n (nI a)) (by rw [e3]) ⟨vi, nm_r (e' := upd a_value n v2) (by rw [e3]) (nm_r (nI_1 _) (y38 _ ⟨rfl, ?_⟩))⟩⟩
      exact rl_mk ⟨⟨n + 1, rfl, rfl, by omega, rl_app htk ⟨a, ha', rfl⟩ h1 h2⟩, rfl, rfl, rfl, rfl, rfl, hreg, rfl, rfl, rfl, rfl, rfl, rfl, hL⟩
    refine br_c (fun q1 => br_c (fun q2 => ?_) (fun q2 => br_c (fun q3 => ?_) (fun q3 => ?_))) (fun q1 => ?_)
    · exact br_f h (br_f h3 (br_t q1 (br_t q2 ⟨rfl, I'⟩)))
    · have n2 : ¬ nI a = 2 := by rw [q1]; decide
      refine br_f n2 (fin (fun _ => ?_) (fun z => absurd z n2))
      obtain ⟨w, hw, rfl⟩ := nI_of q2
      exact ⟨w, by have := (nI_ltI (a := w) (b := 6) hw (by decide)).mp q3; omega, rfl⟩
    · refine br_f h (br_f h3 (br_t q1 (br_f q2 (br_t ?_ ⟨rfl, I'⟩))))
      exact Int32.lt_of_lt_of_le (by decide) (Int32.not_lt.mp q3)
    · refine br_c (fun q2 => br_c (fun q3 => ?_) (fun q3 => br_c (fun q4 => ?_) (fun q4 => ?_))) (fun q2 => fin (fun z => absurd z q1) (fun z => absurd z q2))
      · exact br_f h (br_f h3 (br_f q1 (br_t q2 (br_t q3 ⟨rfl, I'⟩))))
      · refine fin (fun z => absurd z q1) (fun _ => ?_)
        obtain ⟨w, hw, rfl⟩ := nI_of q3
        exact ⟨w, by have := (nI_ltI (a := w) (b := 4) hw (by decide)).mp q4; omega, rfl⟩
      · refine br_f h (br_f h3 (br_f q1 (br_t q2 (br_f q3 (br_t ?_ ⟨rfl, I'⟩)))))
        exact Int32.lt_of_lt_of_le (by decide) (Int32.not_lt.mp q4)
  · have : n = 120 := by omega
    subst this
    have z38 : wY_token_38 (fun r' v' => r' = 0 ∧ i_Rel (k + 5) (nI 120, f_planCount, f_next, f_wrongToken, f_looseJump, f_place, f_openLoopCount, f_codeCount, f_labelCount, f_functionCount, f_registerCount, f_activeCalls, f_stackCount, f_nextCode, f_running, f_ending, f_endedAt, f_result, f_used, f_printed, a_kind, a_value, a_planKind, a_planValue, a_planPlace, a_given, a_openLoop, a_codeKind, a_codeValue, a_codePlace, a_labelTarget, a_functionStart, a_params, a_register, a_frame, a_returnTo, a_stack, a_memory, a_output) v') (nI a) v2 (nI 120) f_place f_length f_functions f_loaded f_loops f_outside f_tt f_vt f_pos f_bad f_checking f_live f_pending f_carry f_active f_ticks f_status f_result f_endedAt f_used f_printed a_kind a_value a_code a_number a_given a_begins a_params a_todo a_val a_vars a_output a_memory := br_t rfl ⟨rfl, I'⟩
    have z24 : wY_token_24 (fun r' v' => r' = 0 ∧ i_Rel (k + 5) (nI 120, f_planCount, f_next, f_wrongToken, f_looseJump, f_place, f_openLoopCount, f_codeCount, f_labelCount, f_functionCount, f_registerCount, f_activeCalls, f_stackCount, f_nextCode, f_running, f_ending, f_endedAt, f_result, f_used, f_printed, a_kind, a_value, a_planKind, a_planValue, a_planPlace, a_given, a_openLoop, a_codeKind, a_codeValue, a_codePlace, a_labelTarget, a_functionStart, a_params, a_register, a_frame, a_returnTo, a_stack, a_memory, a_output) v') (nI a) v2 (nI 120) f_place f_length f_functions f_loaded f_loops f_outside f_tt f_vt f_pos f_bad f_checking f_live f_pending f_carry f_active f_ticks f_status f_result f_endedAt f_used f_printed a_kind a_value a_code a_number a_given a_begins a_params a_todo a_val a_vars a_output a_memory := br_c (fun _ => br_c (fun _ => ⟨rfl, I'⟩) (fun _ => br_c (fun _ => ⟨rfl, I'⟩) (fun _ => z38))) (fun _ => z38)
    exact br_f h (br_f h3 (br_c (fun _ => br_c (fun _ => ⟨rfl, I'⟩) (fun _ => br_c (fun _ => ⟨rfl, I'⟩) (fun _ => z24))) (fun _ => z24)))
end
section
/-! X, run: the loop, the small methods, the instructions -/
def zp_V (st : Nat → Int32) : List Int32 → Prop
  | [] => True
  | v :: l => st l.length = v ∧ zp_V st l
theorem zp_V_up {st : Nat → Int32} {k : Nat} {a : Int32} : ∀ {l : List Int32}, zp_V st l → l.length ≤ k → zp_V (upd st k a) l
  | [], _, _ => trivial
  | x :: l, h, hk => by
    have h1 : l.length + 1 ≤ k := hk
    have h2 : l.length ≠ k := by omega
    exact ⟨(pk_un h2).trans h.1, zp_V_up h.2 (by omega)⟩
def zW (post : Int32 → SX → Prop) (m : Nat) (s : Int32) (u : SX) : Prop := match u with
  | (f_tokenCount, f_planCount, f_next, f_wrongToken, f_looseJump, f_latestPlace, f_openLoopCount, f_codeCount, f_labelCount, f_functionCount, f_registerCount, f_activeCalls, f_stackCount, f_nextCode, f_running, f_ending, f_endingPlace, f_resultValue, f_ticksUsed, f_printedCount, a_tokenKind, a_tokenValue, a_planKind, a_planValue, a_planPlace, a_argumentCount, a_openLoop, a_codeKind, a_codeValue, a_codePlace, a_labelTarget, a_functionStart, a_functionParameters, a_register, a_frame, a_returnTo, a_stack, a_element, a_outputValue) => wX_run_72 post m s f_tokenCount f_planCount f_next f_wrongToken f_looseJump f_latestPlace f_openLoopCount f_codeCount f_labelCount f_functionCount f_registerCount f_activeCalls f_stackCount f_nextCode f_running f_ending f_endingPlace f_resultValue f_ticksUsed f_printedCount a_tokenKind a_tokenValue a_planKind a_planValue a_planPlace a_argumentCount a_openLoop a_codeKind a_codeValue a_codePlace a_labelTarget a_functionStart a_functionParameters a_register a_frame a_returnTo a_stack a_element a_outputValue
def zL (post : Int32 → SX → Prop) (s : Nat) (u : SX) : Prop := ∀ m, 1000000 < m + s → zW post m (nI s) u
theorem zi {post : Int32 → SX → Prop} {f_tokenCount f_planCount f_next f_wrongToken f_looseJump f_latestPlace f_openLoopCount f_codeCount f_labelCount f_functionCount f_registerCount f_activeCalls f_stackCount f_nextCode f_running f_ending f_endingPlace f_resultValue f_ticksUsed f_printedCount : Int32} {a_tokenKind a_tokenValue a_planKind a_planValue a_planPlace a_argumentCount a_openLoop a_codeKind a_codeValue a_codePlace a_labelTarget a_functionStart a_functionParameters a_register a_frame a_returnTo a_stack a_element a_outputValue : Nat → Int32} {s : Nat} (hs : s < 1000000) (hr : f_running = 1)
    (H : ∀ Q : SX → Prop, (∀ u, zL post (s + 1) u → Q u) → wpX_executeNext Q (f_tokenCount, f_planCount, f_next, f_wrongToken, f_looseJump, f_latestPlace, f_openLoopCount, f_codeCount, f_labelCount, f_functionCount, f_registerCount, f_activeCalls, f_stackCount, f_nextCode, f_running, f_ending, f_endingPlace, f_resultValue, f_ticksUsed, f_printedCount, a_tokenKind, a_tokenValue, a_planKind, a_planValue, a_planPlace, a_argumentCount, a_openLoop, a_codeKind, a_codeValue, a_codePlace, a_labelTarget, a_functionStart, a_functionParameters, a_register, a_frame, a_returnTo, a_stack, a_element, a_outputValue)) : zL post s (f_tokenCount, f_planCount, f_next, f_wrongToken, f_looseJump, f_latestPlace, f_openLoopCount, f_codeCount, f_labelCount, f_functionCount, f_registerCount, f_activeCalls, f_stackCount, f_nextCode, f_running, f_ending, f_endingPlace, f_resultValue, f_ticksUsed, f_printedCount, a_tokenKind, a_tokenValue, a_planKind, a_planValue, a_planPlace, a_argumentCount, a_openLoop, a_codeKind, a_codeValue, a_codePlace, a_labelTarget, a_functionStart, a_functionParameters, a_register, a_frame, a_returnTo, a_stack, a_element, a_outputValue) := by
  intro m hm
  obtain ⟨m, rfl⟩ : ∃ m', m = m' + 1 := ⟨m - 1, by omega⟩
  subst hr
  refine br_f (nI_ge (b := 1000000) hs (by decide)) (br_f (by decide) ?_)
  refine H _ (fun u hu => ?_)
  obtain ⟨f_tokenCount', f_planCount', f_next', f_wrongToken', f_looseJump', f_latestPlace', f_openLoopCount', f_codeCount', f_labelCount', f_functionCount', f_registerCount', f_activeCalls', f_stackCount', f_nextCode', f_running', f_ending', f_endingPlace', f_resultValue', f_ticksUsed', f_printedCount', a_tokenKind', a_tokenValue', a_planKind', a_planValue', a_planPlace', a_argumentCount', a_openLoop', a_codeKind', a_codeValue', a_codePlace', a_labelTarget', a_functionStart', a_functionParameters', a_register', a_frame', a_returnTo', a_stack', a_element', a_outputValue'⟩ := u
  exact nm_r (nI_1 _) (hu m (by omega))
theorem ze_end {post : Int32 → SX → Prop} {f_tokenCount f_planCount f_next f_wrongToken f_looseJump f_latestPlace f_openLoopCount f_codeCount f_labelCount f_functionCount f_registerCount f_activeCalls f_stackCount f_nextCode f_running f_ending f_endingPlace f_resultValue f_ticksUsed f_printedCount : Int32} {a_tokenKind a_tokenValue a_planKind a_planValue a_planPlace a_argumentCount a_openLoop a_codeKind a_codeValue a_codePlace a_labelTarget a_functionStart a_functionParameters a_register a_frame a_returnTo a_stack a_element a_outputValue : Nat → Int32} {s : Nat} (hs : s ≤ 1000000) (hr : f_running = 0) (H : post f_ending (f_tokenCount, f_planCount, f_next, f_wrongToken, f_looseJump, f_latestPlace, f_openLoopCount, f_codeCount, f_labelCount, f_functionCount, f_registerCount, f_activeCalls, f_stackCount, f_nextCode, f_running, f_ending, f_endingPlace, f_resultValue, f_ticksUsed, f_printedCount, a_tokenKind, a_tokenValue, a_planKind, a_planValue, a_planPlace, a_argumentCount, a_openLoop, a_codeKind, a_codeValue, a_codePlace, a_labelTarget, a_functionStart, a_functionParameters, a_register, a_frame, a_returnTo, a_stack, a_element, a_outputValue)) : zL post s (f_tokenCount, f_planCount, f_next, f_wrongToken, f_looseJump, f_latestPlace, f_openLoopCount, f_codeCount, f_labelCount, f_functionCount, f_registerCount, f_activeCalls, f_stackCount, f_nextCode, f_running, f_ending, f_endingPlace, f_resultValue, f_ticksUsed, f_printedCount, a_tokenKind, a_tokenValue, a_planKind, a_planValue, a_planPlace, a_argumentCount, a_openLoop, a_codeKind, a_codeValue, a_codePlace, a_labelTarget, a_functionStart, a_functionParameters, a_register, a_frame, a_returnTo, a_stack, a_element, a_outputValue) := by
  intro m hm
  obtain ⟨m, rfl⟩ : ∃ m', m = m' + 1 := ⟨m - 1, by omega⟩
  exact br_c (fun _ => H) (fun _ => br_t hr H)
theorem zm_push {post : SX → Prop} {f_tokenCount f_planCount f_next f_wrongToken f_looseJump f_latestPlace f_openLoopCount f_codeCount f_labelCount f_functionCount f_registerCount f_activeCalls f_stackCount f_nextCode f_running f_ending f_endingPlace f_resultValue f_ticksUsed f_printedCount : Int32} {a_tokenKind a_tokenValue a_planKind a_planValue a_planPlace a_argumentCount a_openLoop a_codeKind a_codeValue a_codePlace a_labelTarget a_functionStart a_functionParameters a_register a_frame a_returnTo a_stack a_element a_outputValue : Nat → Int32} {vs : List Int32} {v : Int32} (hc : f_stackCount = nI vs.length) (hl : vs.length < 960) (hv : zp_V a_stack vs)
    (H : ∀ st, zp_V st (v :: vs) → post (f_tokenCount, f_planCount, f_next, f_wrongToken, f_looseJump, f_latestPlace, f_openLoopCount, f_codeCount, f_labelCount, f_functionCount, f_registerCount, f_activeCalls, nI (v :: vs).length, f_nextCode, f_running, f_ending, f_endingPlace, f_resultValue, f_ticksUsed, f_printedCount, a_tokenKind, a_tokenValue, a_planKind, a_planValue, a_planPlace, a_argumentCount, a_openLoop, a_codeKind, a_codeValue, a_codePlace, a_labelTarget, a_functionStart, a_functionParameters, a_register, a_frame, a_returnTo, st, a_element, a_outputValue)) : wpX_push post (f_tokenCount, f_planCount, f_next, f_wrongToken, f_looseJump, f_latestPlace, f_openLoopCount, f_codeCount, f_labelCount, f_functionCount, f_registerCount, f_activeCalls, f_stackCount, f_nextCode, f_running, f_ending, f_endingPlace, f_resultValue, f_ticksUsed, f_printedCount, a_tokenKind, a_tokenValue, a_planKind, a_planValue, a_planPlace, a_argumentCount, a_openLoop, a_codeKind, a_codeValue, a_codePlace, a_labelTarget, a_functionStart, a_functionParameters, a_register, a_frame, a_returnTo, a_stack, a_element, a_outputValue) v := by
  subst hc
  have h3 : (nI vs.length).toNatClampNeg = vs.length := nI_clamp (by omega)
  refine br_f (nI_ge (b := 960) hl (by decide)) ⟨vp_in_nI hl (by decide), nm_r (by rw [h3]) (nm_r (nI_1 _) ?_)⟩
  exact H _ ⟨pk_us, zp_V_up hv (Nat.le_refl _)⟩
theorem zm_pop {post : Int32 → SX → Prop} {f_tokenCount f_planCount f_next f_wrongToken f_looseJump f_latestPlace f_openLoopCount f_codeCount f_labelCount f_functionCount f_registerCount f_activeCalls f_stackCount f_nextCode f_running f_ending f_endingPlace f_resultValue f_ticksUsed f_printedCount : Int32} {a_tokenKind a_tokenValue a_planKind a_planValue a_planPlace a_argumentCount a_openLoop a_codeKind a_codeValue a_codePlace a_labelTarget a_functionStart a_functionParameters a_register a_frame a_returnTo a_stack a_element a_outputValue : Nat → Int32} {vs : List Int32} {v : Int32} (hc : f_stackCount = nI (v :: vs).length) (hl : vs.length < 960) (hv : zp_V a_stack (v :: vs))
    (H : post v (f_tokenCount, f_planCount, f_next, f_wrongToken, f_looseJump, f_latestPlace, f_openLoopCount, f_codeCount, f_labelCount, f_functionCount, f_registerCount, f_activeCalls, nI vs.length, f_nextCode, f_running, f_ending, f_endingPlace, f_resultValue, f_ticksUsed, f_printedCount, a_tokenKind, a_tokenValue, a_planKind, a_planValue, a_planPlace, a_argumentCount, a_openLoop, a_codeKind, a_codeValue, a_codePlace, a_labelTarget, a_functionStart, a_functionParameters, a_register, a_frame, a_returnTo, a_stack, a_element, a_outputValue)) : wpX_pop post (f_tokenCount, f_planCount, f_next, f_wrongToken, f_looseJump, f_latestPlace, f_openLoopCount, f_codeCount, f_labelCount, f_functionCount, f_registerCount, f_activeCalls, f_stackCount, f_nextCode, f_running, f_ending, f_endingPlace, f_resultValue, f_ticksUsed, f_printedCount, a_tokenKind, a_tokenValue, a_planKind, a_planValue, a_planPlace, a_argumentCount, a_openLoop, a_codeKind, a_codeValue, a_codePlace, a_labelTarget, a_functionStart, a_functionParameters, a_register, a_frame, a_returnTo, a_stack, a_element, a_outputValue) := by
  subst hc
  have h3 : (nI vs.length).toNatClampNeg = vs.length := nI_clamp (by omega)
  refine br_t (nI_lt (a := 0) (by simp) (by simp; omega)) (nm_r (nI_pred _) ⟨vp_in_nI hl (by decide), ?_⟩)
  rw [h3, hv.1]
  exact H
theorem ze_0 {post : SX → Prop} {f_tokenCount f_planCount f_next f_wrongToken f_looseJump f_latestPlace f_openLoopCount f_codeCount f_labelCount f_functionCount f_registerCount f_activeCalls f_stackCount f_nextCode f_running f_ending f_endingPlace f_resultValue f_ticksUsed f_printedCount : Int32} {a_tokenKind a_tokenValue a_planKind a_planValue a_planPlace a_argumentCount a_openLoop a_codeKind a_codeValue a_codePlace a_labelTarget a_functionStart a_functionParameters a_register a_frame a_returnTo a_stack a_element a_outputValue : Nat → Int32} {pc : Nat} (hpc : f_nextCode = nI pc) (hp : pc < 360) {k : Nat} (hk : a_codeKind pc = nI k) (hk' : k < 15 ∨ 31 < k) (hk2 : k < 100) (H : wX_executeNext_84 post (nI k) (a_codeValue pc) (a_codePlace pc) f_tokenCount f_planCount f_next f_wrongToken f_looseJump f_latestPlace f_openLoopCount f_codeCount f_labelCount f_functionCount f_registerCount f_activeCalls f_stackCount (nI (pc + 1)) f_running f_ending f_endingPlace f_resultValue f_ticksUsed f_printedCount a_tokenKind a_tokenValue a_planKind a_planValue a_planPlace a_argumentCount a_openLoop a_codeKind a_codeValue a_codePlace a_labelTarget a_functionStart a_functionParameters a_register a_frame a_returnTo a_stack a_element a_outputValue) : wpX_executeNext post (f_tokenCount, f_planCount, f_next, f_wrongToken, f_looseJump, f_latestPlace, f_openLoopCount, f_codeCount, f_labelCount, f_functionCount, f_registerCount, f_activeCalls, f_stackCount, f_nextCode, f_running, f_ending, f_endingPlace, f_resultValue, f_ticksUsed, f_printedCount, a_tokenKind, a_tokenValue, a_planKind, a_planValue, a_planPlace, a_argumentCount, a_openLoop, a_codeKind, a_codeValue, a_codePlace, a_labelTarget, a_functionStart, a_functionParameters, a_register, a_frame, a_returnTo, a_stack, a_element, a_outputValue) := by
  subst hpc
  have h3 : (nI pc).toNatClampNeg = pc := nI_clamp (by omega)
  have h2 : vp_in (nI pc) 360 := vp_in_nI hp (by decide)
  refine br_f (nI_pos (by omega)) (br_t (nI_lt (b := 360) hp (by decide)) ?_)
  rw [h3, hk]
  refine ⟨h2, nm_e ⟨h2, nm_e ⟨h2, nm_e (nm_r (nI_1 _) ?_)⟩⟩⟩
  rcases hk' with h | h
  · exact br_t (nI_lt (b := 15) h (by decide)) H
  · exact br_f (nI_nlt (b := 15) (by omega) (by omega)) (br_t (nI_lt (a := 31) h (by omega)) H)
theorem ze_bin {post : SX → Prop} {f_tokenCount f_planCount f_next f_wrongToken f_looseJump f_latestPlace f_openLoopCount f_codeCount f_labelCount f_functionCount f_registerCount f_activeCalls f_stackCount f_nextCode f_running f_ending f_endingPlace f_resultValue f_ticksUsed f_printedCount : Int32} {a_tokenKind a_tokenValue a_planKind a_planValue a_planPlace a_argumentCount a_openLoop a_codeKind a_codeValue a_codePlace a_labelTarget a_functionStart a_functionParameters a_register a_frame a_returnTo a_stack a_element a_outputValue : Nat → Int32} {pc : Nat} (hpc : f_nextCode = nI pc) (hp : pc < 360) {k : Nat} (hk : a_codeKind pc = nI k) (hk1 : 15 ≤ k) (hk2 : k ≤ 31) (H : wpX_combineTop post (f_tokenCount, f_planCount, f_next, f_wrongToken, f_looseJump, f_latestPlace, f_openLoopCount, f_codeCount, f_labelCount, f_functionCount, f_registerCount, f_activeCalls, f_stackCount, nI (pc + 1), f_running, f_ending, f_endingPlace, f_resultValue, f_ticksUsed, f_printedCount, a_tokenKind, a_tokenValue, a_planKind, a_planValue, a_planPlace, a_argumentCount, a_openLoop, a_codeKind, a_codeValue, a_codePlace, a_labelTarget, a_functionStart, a_functionParameters, a_register, a_frame, a_returnTo, a_stack, a_element, a_outputValue) (nI k) (a_codePlace pc)) : wpX_executeNext post (f_tokenCount, f_planCount, f_next, f_wrongToken, f_looseJump, f_latestPlace, f_openLoopCount, f_codeCount, f_labelCount, f_functionCount, f_registerCount, f_activeCalls, f_stackCount, f_nextCode, f_running, f_ending, f_endingPlace, f_resultValue, f_ticksUsed, f_printedCount, a_tokenKind, a_tokenValue, a_planKind, a_planValue, a_planPlace, a_argumentCount, a_openLoop, a_codeKind, a_codeValue, a_codePlace, a_labelTarget, a_functionStart, a_functionParameters, a_register, a_frame, a_returnTo, a_stack, a_element, a_outputValue) := by
  subst hpc
  have h3 : (nI pc).toNatClampNeg = pc := nI_clamp (by omega)
  have h2 : vp_in (nI pc) 360 := vp_in_nI hp (by decide)
  refine br_f (nI_pos (by omega)) (br_t (nI_lt (b := 360) hp (by decide)) ?_)
  rw [h3, hk]
  refine ⟨h2, nm_e ⟨h2, nm_e ⟨h2, nm_e (nm_r (nI_1 _) ?_)⟩⟩⟩
  exact br_f (nI_nlt (b := 15) hk1 (by omega)) (br_f (nI_nlt (a := 31) hk2 (by decide)) H)
theorem ze_move {post : SX → Prop} {f_tokenCount f_planCount f_next f_wrongToken f_looseJump f_latestPlace f_openLoopCount f_codeCount f_labelCount f_functionCount f_registerCount f_activeCalls f_stackCount f_nextCode f_running f_ending f_endingPlace f_resultValue f_ticksUsed f_printedCount : Int32} {a_tokenKind a_tokenValue a_planKind a_planValue a_planPlace a_argumentCount a_openLoop a_codeKind a_codeValue a_codePlace a_labelTarget a_functionStart a_functionParameters a_register a_frame a_returnTo a_stack a_element a_outputValue : Nat → Int32} {pc : Nat} (hpc : f_nextCode = nI pc) (hp : pc < 360) {k : Nat} (hk : a_codeKind pc = nI k) (hk' : k = 39 ∨ k = 40 ∨ k = 51 ∨ k = 52 ∨ k = 53 ∨ k = 54 ∨ k = 55 ∨ k = 56 ∨ k = 62 ∨ k = 63 ∨ k = 64) (H : wpX_move post (f_tokenCount, f_planCount, f_next, f_wrongToken, f_looseJump, f_latestPlace, f_openLoopCount, f_codeCount, f_labelCount, f_functionCount, f_registerCount, f_activeCalls, f_stackCount, nI (pc + 1), f_running, f_ending, f_endingPlace, f_resultValue, f_ticksUsed, f_printedCount, a_tokenKind, a_tokenValue, a_planKind, a_planValue, a_planPlace, a_argumentCount, a_openLoop, a_codeKind, a_codeValue, a_codePlace, a_labelTarget, a_functionStart, a_functionParameters, a_register, a_frame, a_returnTo, a_stack, a_element, a_outputValue) (nI k) (a_codeValue pc) (a_codePlace pc)) : wpX_executeNext post (f_tokenCount, f_planCount, f_next, f_wrongToken, f_looseJump, f_latestPlace, f_openLoopCount, f_codeCount, f_labelCount, f_functionCount, f_registerCount, f_activeCalls, f_stackCount, f_nextCode, f_running, f_ending, f_endingPlace, f_resultValue, f_ticksUsed, f_printedCount, a_tokenKind, a_tokenValue, a_planKind, a_planValue, a_planPlace, a_argumentCount, a_openLoop, a_codeKind, a_codeValue, a_codePlace, a_labelTarget, a_functionStart, a_functionParameters, a_register, a_frame, a_returnTo, a_stack, a_element, a_outputValue) := by
  refine ze_0 hpc hp hk (by omega) (by omega) ?_
  unfold wX_executeNext_84
  rcases hk' with h | h | h | h | h | h | h | h | h | h | h <;> subst h
  all_goals first
    | exact br_f (by decide) (br_f (by decide) (br_f (by decide) (br_f (by decide) (br_t (by decide) H))))
    | exact br_f (by decide) (br_f (by decide) (br_f (by decide) (br_f (by decide) (br_f (by decide) (br_t (by decide) H)))))
theorem ze_change {post : SX → Prop} {f_tokenCount f_planCount f_next f_wrongToken f_looseJump f_latestPlace f_openLoopCount f_codeCount f_labelCount f_functionCount f_registerCount f_activeCalls f_stackCount f_nextCode f_running f_ending f_endingPlace f_resultValue f_ticksUsed f_printedCount : Int32} {a_tokenKind a_tokenValue a_planKind a_planValue a_planPlace a_argumentCount a_openLoop a_codeKind a_codeValue a_codePlace a_labelTarget a_functionStart a_functionParameters a_register a_frame a_returnTo a_stack a_element a_outputValue : Nat → Int32} {pc : Nat} (hpc : f_nextCode = nI pc) (hp : pc < 360) {k : Nat} (hk : a_codeKind pc = nI k) (hk' : k = 50 ∨ k = 32 ∨ k = 33 ∨ k = 57) (H : wpX_changeTop post (f_tokenCount, f_planCount, f_next, f_wrongToken, f_looseJump, f_latestPlace, f_openLoopCount, f_codeCount, f_labelCount, f_functionCount, f_registerCount, f_activeCalls, f_stackCount, nI (pc + 1), f_running, f_ending, f_endingPlace, f_resultValue, f_ticksUsed, f_printedCount, a_tokenKind, a_tokenValue, a_planKind, a_planValue, a_planPlace, a_argumentCount, a_openLoop, a_codeKind, a_codeValue, a_codePlace, a_labelTarget, a_functionStart, a_functionParameters, a_register, a_frame, a_returnTo, a_stack, a_element, a_outputValue) (nI k)) : wpX_executeNext post (f_tokenCount, f_planCount, f_next, f_wrongToken, f_looseJump, f_latestPlace, f_openLoopCount, f_codeCount, f_labelCount, f_functionCount, f_registerCount, f_activeCalls, f_stackCount, f_nextCode, f_running, f_ending, f_endingPlace, f_resultValue, f_ticksUsed, f_printedCount, a_tokenKind, a_tokenValue, a_planKind, a_planValue, a_planPlace, a_argumentCount, a_openLoop, a_codeKind, a_codeValue, a_codePlace, a_labelTarget, a_functionStart, a_functionParameters, a_register, a_frame, a_returnTo, a_stack, a_element, a_outputValue) := by
  refine ze_0 hpc hp hk (by omega) (by omega) ?_
  unfold wX_executeNext_84
  rcases hk' with h | h | h | h <;> subst h
  · exact br_t (by decide) H
  · exact br_f (by decide) (br_t (by decide) H)
  · exact br_f (by decide) (br_f (by decide) (br_t (by decide) H))
  · exact br_f (by decide) (br_f (by decide) (br_f (by decide) (br_t (by decide) H)))
theorem ze_jump {post : SX → Prop} {f_tokenCount f_planCount f_next f_wrongToken f_looseJump f_latestPlace f_openLoopCount f_codeCount f_labelCount f_functionCount f_registerCount f_activeCalls f_stackCount f_nextCode f_running f_ending f_endingPlace f_resultValue f_ticksUsed f_printedCount : Int32} {a_tokenKind a_tokenValue a_planKind a_planValue a_planPlace a_argumentCount a_openLoop a_codeKind a_codeValue a_codePlace a_labelTarget a_functionStart a_functionParameters a_register a_frame a_returnTo a_stack a_element a_outputValue : Nat → Int32} {pc : Nat} (hpc : f_nextCode = nI pc) (hp : pc < 360) {k : Nat} (hk : a_codeKind pc = nI k) (hk1 : 58 ≤ k) (hk2 : k ≤ 61) (H : wpX_jump post (f_tokenCount, f_planCount, f_next, f_wrongToken, f_looseJump, f_latestPlace, f_openLoopCount, f_codeCount, f_labelCount, f_functionCount, f_registerCount, f_activeCalls, f_stackCount, nI (pc + 1), f_running, f_ending, f_endingPlace, f_resultValue, f_ticksUsed, f_printedCount, a_tokenKind, a_tokenValue, a_planKind, a_planValue, a_planPlace, a_argumentCount, a_openLoop, a_codeKind, a_codeValue, a_codePlace, a_labelTarget, a_functionStart, a_functionParameters, a_register, a_frame, a_returnTo, a_stack, a_element, a_outputValue) (nI k) (a_codeValue pc)) : wpX_executeNext post (f_tokenCount, f_planCount, f_next, f_wrongToken, f_looseJump, f_latestPlace, f_openLoopCount, f_codeCount, f_labelCount, f_functionCount, f_registerCount, f_activeCalls, f_stackCount, f_nextCode, f_running, f_ending, f_endingPlace, f_resultValue, f_ticksUsed, f_printedCount, a_tokenKind, a_tokenValue, a_planKind, a_planValue, a_planPlace, a_argumentCount, a_openLoop, a_codeKind, a_codeValue, a_codePlace, a_labelTarget, a_functionStart, a_functionParameters, a_register, a_frame, a_returnTo, a_stack, a_element, a_outputValue) := by
  refine ze_0 hpc hp hk (by omega) (by omega) ?_
  unfold wX_executeNext_84
  have hk' : k = 58 ∨ k = 59 ∨ k = 60 ∨ k = 61 := by omega
  rcases hk' with h | h | h | h <;> subst h <;> exact br_f (by decide) (br_f (by decide) (br_f (by decide) (br_f (by decide) (br_f (by decide) (br_f (by decide) H)))))
theorem zz_push {post : SX → Prop} {f_tokenCount f_planCount f_next f_wrongToken f_looseJump f_latestPlace f_openLoopCount f_codeCount f_labelCount f_functionCount f_registerCount f_activeCalls f_stackCount f_nextCode f_running f_ending f_endingPlace f_resultValue f_ticksUsed f_printedCount : Int32} {a_tokenKind a_tokenValue a_planKind a_planValue a_planPlace a_argumentCount a_openLoop a_codeKind a_codeValue a_codePlace a_labelTarget a_functionStart a_functionParameters a_register a_frame a_returnTo a_stack a_element a_outputValue : Nat → Int32} {pc : Nat} (hpc : f_nextCode = nI pc) (hp : pc < 360) {vs : List Int32} (hk : a_codeKind pc = nI 51) (hc : f_stackCount = nI vs.length) (hl : vs.length < 960) (hv : zp_V a_stack vs)
    (H : ∀ st, zp_V st (a_codeValue pc :: vs) → post (f_tokenCount, f_planCount, f_next, f_wrongToken, f_looseJump, f_latestPlace, f_openLoopCount, f_codeCount, f_labelCount, f_functionCount, f_registerCount, f_activeCalls, nI (a_codeValue pc :: vs).length, nI (pc + 1), f_running, f_ending, f_endingPlace, f_resultValue, f_ticksUsed, f_printedCount, a_tokenKind, a_tokenValue, a_planKind, a_planValue, a_planPlace, a_argumentCount, a_openLoop, a_codeKind, a_codeValue, a_codePlace, a_labelTarget, a_functionStart, a_functionParameters, a_register, a_frame, a_returnTo, st, a_element, a_outputValue)) : wpX_executeNext post (f_tokenCount, f_planCount, f_next, f_wrongToken, f_looseJump, f_latestPlace, f_openLoopCount, f_codeCount, f_labelCount, f_functionCount, f_registerCount, f_activeCalls, f_stackCount, f_nextCode, f_running, f_ending, f_endingPlace, f_resultValue, f_ticksUsed, f_printedCount, a_tokenKind, a_tokenValue, a_planKind, a_planValue, a_planPlace, a_argumentCount, a_openLoop, a_codeKind, a_codeValue, a_codePlace, a_labelTarget, a_functionStart, a_functionParameters, a_register, a_frame, a_returnTo, a_stack, a_element, a_outputValue) :=
  ze_move hpc hp hk (by omega) (br_f (by decide) (br_f (by decide) (br_f (by decide) (br_f (by decide) (br_f (by decide) (br_f (by decide) (br_f (by decide) (br_f (by decide) (br_f (by decide) (br_f (by decide) (br_f (by decide) (br_f (by decide) (br_f (by decide) (br_f (by decide) (br_t (by decide) (zm_push hc hl hv H))))))))))))))))
theorem zz_drop {post : SX → Prop} {f_tokenCount f_planCount f_next f_wrongToken f_looseJump f_latestPlace f_openLoopCount f_codeCount f_labelCount f_functionCount f_registerCount f_activeCalls f_stackCount f_nextCode f_running f_ending f_endingPlace f_resultValue f_ticksUsed f_printedCount : Int32} {a_tokenKind a_tokenValue a_planKind a_planValue a_planPlace a_argumentCount a_openLoop a_codeKind a_codeValue a_codePlace a_labelTarget a_functionStart a_functionParameters a_register a_frame a_returnTo a_stack a_element a_outputValue : Nat → Int32} {pc : Nat} (hpc : f_nextCode = nI pc) (hp : pc < 360) {vs : List Int32} {v : Int32} (hk : a_codeKind pc = nI 56) (hc : f_stackCount = nI (v :: vs).length) (hl : vs.length < 960) (hv : zp_V a_stack (v :: vs))
    (H : post (f_tokenCount, f_planCount, f_next, f_wrongToken, f_looseJump, f_latestPlace, f_openLoopCount, f_codeCount, f_labelCount, f_functionCount, f_registerCount, f_activeCalls, nI vs.length, nI (pc + 1), f_running, f_ending, f_endingPlace, f_resultValue, f_ticksUsed, f_printedCount, a_tokenKind, a_tokenValue, a_planKind, a_planValue, a_planPlace, a_argumentCount, a_openLoop, a_codeKind, a_codeValue, a_codePlace, a_labelTarget, a_functionStart, a_functionParameters, a_register, a_frame, a_returnTo, a_stack, a_element, a_outputValue)) : wpX_executeNext post (f_tokenCount, f_planCount, f_next, f_wrongToken, f_looseJump, f_latestPlace, f_openLoopCount, f_codeCount, f_labelCount, f_functionCount, f_registerCount, f_activeCalls, f_stackCount, f_nextCode, f_running, f_ending, f_endingPlace, f_resultValue, f_ticksUsed, f_printedCount, a_tokenKind, a_tokenValue, a_planKind, a_planValue, a_planPlace, a_argumentCount, a_openLoop, a_codeKind, a_codeValue, a_codePlace, a_labelTarget, a_functionStart, a_functionParameters, a_register, a_frame, a_returnTo, a_stack, a_element, a_outputValue) :=
  ze_move hpc hp hk (by omega) (br_f (by decide) (br_f (by decide) (br_f (by decide) (br_f (by decide) (br_f (by decide) (br_f (by decide) (br_f (by decide) (br_f (by decide) (br_f (by decide) (br_f (by decide) (br_f (by decide) (br_f (by decide) (br_f (by decide) (br_f (by decide) (br_f (by decide) (br_f (by decide) (br_f (by decide) (br_f (by decide) (br_f (by decide) (br_t (by decide) (zm_pop hc hl hv H)))))))))))))))))))))
theorem zz_print {post : SX → Prop} {f_tokenCount f_planCount f_next f_wrongToken f_looseJump f_latestPlace f_openLoopCount f_codeCount f_labelCount f_functionCount f_registerCount f_activeCalls f_stackCount f_nextCode f_running f_ending f_endingPlace f_resultValue f_ticksUsed f_printedCount : Int32} {a_tokenKind a_tokenValue a_planKind a_planValue a_planPlace a_argumentCount a_openLoop a_codeKind a_codeValue a_codePlace a_labelTarget a_functionStart a_functionParameters a_register a_frame a_returnTo a_stack a_element a_outputValue : Nat → Int32} {pc : Nat} (hpc : f_nextCode = nI pc) (hp : pc < 360) {vs : List Int32} {v : Int32} {pr : Nat} (hk : a_codeKind pc = nI 40) (hc : f_stackCount = nI (v :: vs).length) (hl : vs.length < 960) (hv : zp_V a_stack (v :: vs)) (hpr : f_printedCount = nI pr) (hpr' : pr < 2 ^ 30)
    (H : post (f_tokenCount, f_planCount, f_next, f_wrongToken, f_looseJump, f_latestPlace, f_openLoopCount, f_codeCount, f_labelCount, f_functionCount, f_registerCount, f_activeCalls, nI vs.length, nI (pc + 1), f_running, f_ending, f_endingPlace, f_resultValue, f_ticksUsed, nI (pr + 1), a_tokenKind, a_tokenValue, a_planKind, a_planValue, a_planPlace, a_argumentCount, a_openLoop, a_codeKind, a_codeValue, a_codePlace, a_labelTarget, a_functionStart, a_functionParameters, a_register, a_frame, a_returnTo, a_stack, a_element, if pr < 24 then upd a_outputValue pr v else a_outputValue)) : wpX_executeNext post (f_tokenCount, f_planCount, f_next, f_wrongToken, f_looseJump, f_latestPlace, f_openLoopCount, f_codeCount, f_labelCount, f_functionCount, f_registerCount, f_activeCalls, f_stackCount, f_nextCode, f_running, f_ending, f_endingPlace, f_resultValue, f_ticksUsed, f_printedCount, a_tokenKind, a_tokenValue, a_planKind, a_planValue, a_planPlace, a_argumentCount, a_openLoop, a_codeKind, a_codeValue, a_codePlace, a_labelTarget, a_functionStart, a_functionParameters, a_register, a_frame, a_returnTo, a_stack, a_element, a_outputValue) := by
  refine ze_move hpc hp hk (by omega) (br_f (by decide) (br_f (by decide) (br_f (by decide) (br_t (by decide) (?_)))))
  unfold wpX_printTop
  refine zm_pop hc hl hv ?_
  subst hpr
  refine pk_le 24 pr (fun h => nm_r (nI_1 _) ?_) (fun h => ⟨vp_in_nI h (by decide), nm_r (e' := upd a_outputValue pr v) (by rw [nI_clamp (by omega)]) (nm_r (nI_1 _) ?_)⟩)
  · rw [if_neg (by omega)] at H; exact H
  · rw [if_pos h] at H; exact H
theorem zz_room {post : SX → Prop} {f_tokenCount f_planCount f_next f_wrongToken f_looseJump f_latestPlace f_openLoopCount f_codeCount f_labelCount f_functionCount f_registerCount f_activeCalls f_stackCount f_nextCode f_running f_ending f_endingPlace f_resultValue f_ticksUsed f_printedCount : Int32} {a_tokenKind a_tokenValue a_planKind a_planValue a_planPlace a_argumentCount a_openLoop a_codeKind a_codeValue a_codePlace a_labelTarget a_functionStart a_functionParameters a_register a_frame a_returnTo a_stack a_element a_outputValue : Nat → Int32} {pc : Nat} (hpc : f_nextCode = nI pc) (hp : pc < 360) {a : Nat} (hk : a_codeKind pc = nI 62) (ha : f_activeCalls = nI a) (ha' : a ≤ 8)
    (H1 : a < 8 → post (f_tokenCount, f_planCount, f_next, f_wrongToken, f_looseJump, f_latestPlace, f_openLoopCount, f_codeCount, f_labelCount, f_functionCount, f_registerCount, f_activeCalls, f_stackCount, nI (pc + 1), f_running, f_ending, f_endingPlace, f_resultValue, f_ticksUsed, f_printedCount, a_tokenKind, a_tokenValue, a_planKind, a_planValue, a_planPlace, a_argumentCount, a_openLoop, a_codeKind, a_codeValue, a_codePlace, a_labelTarget, a_functionStart, a_functionParameters, a_register, a_frame, a_returnTo, a_stack, a_element, a_outputValue)) (H2 : a = 8 → post (f_tokenCount, f_planCount, f_next, f_wrongToken, f_looseJump, f_latestPlace, f_openLoopCount, f_codeCount, f_labelCount, f_functionCount, f_registerCount, f_activeCalls, f_stackCount, nI (pc + 1), 0, 3, a_codePlace pc, f_resultValue, f_ticksUsed, f_printedCount, a_tokenKind, a_tokenValue, a_planKind, a_planValue, a_planPlace, a_argumentCount, a_openLoop, a_codeKind, a_codeValue, a_codePlace, a_labelTarget, a_functionStart, a_functionParameters, a_register, a_frame, a_returnTo, a_stack, a_element, a_outputValue)) : wpX_executeNext post (f_tokenCount, f_planCount, f_next, f_wrongToken, f_looseJump, f_latestPlace, f_openLoopCount, f_codeCount, f_labelCount, f_functionCount, f_registerCount, f_activeCalls, f_stackCount, f_nextCode, f_running, f_ending, f_endingPlace, f_resultValue, f_ticksUsed, f_printedCount, a_tokenKind, a_tokenValue, a_planKind, a_planValue, a_planPlace, a_argumentCount, a_openLoop, a_codeKind, a_codeValue, a_codePlace, a_labelTarget, a_functionStart, a_functionParameters, a_register, a_frame, a_returnTo, a_stack, a_element, a_outputValue) := by
  refine ze_move hpc hp hk (by omega) (br_f (by decide) (br_f (by decide) (br_f (by decide) (br_f (by decide) (br_f (by decide) (br_f (by decide) (br_f (by decide) (br_f (by decide) (br_f (by decide) (br_f (by decide) (br_f (by decide) (br_f (by decide) (br_f (by decide) (br_f (by decide) (br_f (by decide) (br_f (by decide) (br_f (by decide) (br_f (by decide) (br_f (by decide) (br_f (by decide) (br_f (by decide) (br_f (by decide) (br_f (by decide) (br_f (by decide) (br_f (by decide) (br_t (by decide) (?_)))))))))))))))))))))))))))
  unfold wpX_testRoom
  subst ha
  exact pk_lt a 8 (fun h => H1 h) (fun h => H2 (by omega))
theorem zz_tick {post : SX → Prop} {f_tokenCount f_planCount f_next f_wrongToken f_looseJump f_latestPlace f_openLoopCount f_codeCount f_labelCount f_functionCount f_registerCount f_activeCalls f_stackCount f_nextCode f_running f_ending f_endingPlace f_resultValue f_ticksUsed f_printedCount : Int32} {a_tokenKind a_tokenValue a_planKind a_planValue a_planPlace a_argumentCount a_openLoop a_codeKind a_codeValue a_codePlace a_labelTarget a_functionStart a_functionParameters a_register a_frame a_returnTo a_stack a_element a_outputValue : Nat → Int32} {pc : Nat} (hpc : f_nextCode = nI pc) (hp : pc < 360) {t : Nat} (hk : a_codeKind pc = nI 63) (ht : f_ticksUsed = nI (120 - t)) (ht' : t ≤ 120)
    (H1 : 0 < t → post (f_tokenCount, f_planCount, f_next, f_wrongToken, f_looseJump, f_latestPlace, f_openLoopCount, f_codeCount, f_labelCount, f_functionCount, f_registerCount, f_activeCalls, f_stackCount, nI (pc + 1), f_running, f_ending, f_endingPlace, f_resultValue, nI (120 - (t - 1)), f_printedCount, a_tokenKind, a_tokenValue, a_planKind, a_planValue, a_planPlace, a_argumentCount, a_openLoop, a_codeKind, a_codeValue, a_codePlace, a_labelTarget, a_functionStart, a_functionParameters, a_register, a_frame, a_returnTo, a_stack, a_element, a_outputValue)) (H2 : t = 0 → post (f_tokenCount, f_planCount, f_next, f_wrongToken, f_looseJump, f_latestPlace, f_openLoopCount, f_codeCount, f_labelCount, f_functionCount, f_registerCount, f_activeCalls, f_stackCount, nI (pc + 1), 0, 4, a_codePlace pc, f_resultValue, f_ticksUsed, f_printedCount, a_tokenKind, a_tokenValue, a_planKind, a_planValue, a_planPlace, a_argumentCount, a_openLoop, a_codeKind, a_codeValue, a_codePlace, a_labelTarget, a_functionStart, a_functionParameters, a_register, a_frame, a_returnTo, a_stack, a_element, a_outputValue)) : wpX_executeNext post (f_tokenCount, f_planCount, f_next, f_wrongToken, f_looseJump, f_latestPlace, f_openLoopCount, f_codeCount, f_labelCount, f_functionCount, f_registerCount, f_activeCalls, f_stackCount, f_nextCode, f_running, f_ending, f_endingPlace, f_resultValue, f_ticksUsed, f_printedCount, a_tokenKind, a_tokenValue, a_planKind, a_planValue, a_planPlace, a_argumentCount, a_openLoop, a_codeKind, a_codeValue, a_codePlace, a_labelTarget, a_functionStart, a_functionParameters, a_register, a_frame, a_returnTo, a_stack, a_element, a_outputValue) := by
  refine ze_move hpc hp hk (by omega) (br_f (by decide) (br_f (by decide) (br_f (by decide) (br_f (by decide) (br_f (by decide) (br_f (by decide) (br_f (by decide) (br_f (by decide) (br_f (by decide) (br_f (by decide) (br_f (by decide) (br_f (by decide) (br_f (by decide) (br_f (by decide) (br_f (by decide) (br_f (by decide) (br_f (by decide) (br_f (by decide) (br_f (by decide) (br_f (by decide) (br_f (by decide) (br_f (by decide) (br_f (by decide) (br_f (by decide) (br_f (by decide) (br_f (by decide) (br_t (by decide) (?_))))))))))))))))))))))))))))
  unfold wpX_useTick
  subst ht
  refine pk_lt (120 - t) 120 (fun h => nm_r ((nI_1 _).trans (congrArg nI (by omega))) (H1 (by omega))) (fun h => H2 (by omega))
theorem zz_lde {post : SX → Prop} {f_tokenCount f_planCount f_next f_wrongToken f_looseJump f_latestPlace f_openLoopCount f_codeCount f_labelCount f_functionCount f_registerCount f_activeCalls f_stackCount f_nextCode f_running f_ending f_endingPlace f_resultValue f_ticksUsed f_printedCount : Int32} {a_tokenKind a_tokenValue a_planKind a_planValue a_planPlace a_argumentCount a_openLoop a_codeKind a_codeValue a_codePlace a_labelTarget a_functionStart a_functionParameters a_register a_frame a_returnTo a_stack a_element a_outputValue : Nat → Int32} {pc : Nat} (hpc : f_nextCode = nI pc) (hp : pc < 360) {vs : List Int32} {i : Int32} (hk : a_codeKind pc = nI 54) (hc : f_stackCount = nI (i :: vs).length) (hl : vs.length < 960) (hv : zp_V a_stack (i :: vs))
    (H1 : ¬ i < 0 → i ≤ 15 → ∀ st, zp_V st (a_element i.toNatClampNeg :: vs) → post (f_tokenCount, f_planCount, f_next, f_wrongToken, f_looseJump, f_latestPlace, f_openLoopCount, f_codeCount, f_labelCount, f_functionCount, f_registerCount, f_activeCalls, nI (a_element i.toNatClampNeg :: vs).length, nI (pc + 1), f_running, f_ending, f_endingPlace, f_resultValue, f_ticksUsed, f_printedCount, a_tokenKind, a_tokenValue, a_planKind, a_planValue, a_planPlace, a_argumentCount, a_openLoop, a_codeKind, a_codeValue, a_codePlace, a_labelTarget, a_functionStart, a_functionParameters, a_register, a_frame, a_returnTo, st, a_element, a_outputValue))
    (H2 : (i < 0 ∨ ¬ i ≤ 15) → post (f_tokenCount, f_planCount, f_next, f_wrongToken, f_looseJump, f_latestPlace, f_openLoopCount, f_codeCount, f_labelCount, f_functionCount, f_registerCount, f_activeCalls, nI vs.length, nI (pc + 1), 0, 2, a_codePlace pc, f_resultValue, f_ticksUsed, f_printedCount, a_tokenKind, a_tokenValue, a_planKind, a_planValue, a_planPlace, a_argumentCount, a_openLoop, a_codeKind, a_codeValue, a_codePlace, a_labelTarget, a_functionStart, a_functionParameters, a_register, a_frame, a_returnTo, a_stack, a_element, a_outputValue)) : wpX_executeNext post (f_tokenCount, f_planCount, f_next, f_wrongToken, f_looseJump, f_latestPlace, f_openLoopCount, f_codeCount, f_labelCount, f_functionCount, f_registerCount, f_activeCalls, f_stackCount, f_nextCode, f_running, f_ending, f_endingPlace, f_resultValue, f_ticksUsed, f_printedCount, a_tokenKind, a_tokenValue, a_planKind, a_planValue, a_planPlace, a_argumentCount, a_openLoop, a_codeKind, a_codeValue, a_codePlace, a_labelTarget, a_functionStart, a_functionParameters, a_register, a_frame, a_returnTo, a_stack, a_element, a_outputValue) := by
  refine ze_move hpc hp hk (by omega) (br_f (by decide) (br_f (by decide) (br_f (by decide) (br_f (by decide) (br_f (by decide) (br_f (by decide) (br_f (by decide) (br_f (by decide) (br_f (by decide) (br_f (by decide) (br_f (by decide) (br_f (by decide) (br_f (by decide) (br_f (by decide) (br_f (by decide) (br_f (by decide) (br_f (by decide) (br_t (by decide) (?_)))))))))))))))))))
  unfold wpX_loadElement
  refine zm_pop hc hl hv ?_
  refine xm_isE (fun h => br_t rfl (H2 h)) (fun h h2 => br_f (by decide) ⟨rl_in (N := 15) (by decide) h h2 (by decide), zm_push rfl hl hv.2 (H1 h h2)⟩)
theorem zz_ste {post : SX → Prop} {f_tokenCount f_planCount f_next f_wrongToken f_looseJump f_latestPlace f_openLoopCount f_codeCount f_labelCount f_functionCount f_registerCount f_activeCalls f_stackCount f_nextCode f_running f_ending f_endingPlace f_resultValue f_ticksUsed f_printedCount : Int32} {a_tokenKind a_tokenValue a_planKind a_planValue a_planPlace a_argumentCount a_openLoop a_codeKind a_codeValue a_codePlace a_labelTarget a_functionStart a_functionParameters a_register a_frame a_returnTo a_stack a_element a_outputValue : Nat → Int32} {pc : Nat} (hpc : f_nextCode = nI pc) (hp : pc < 360) {vs : List Int32} {v i : Int32} (hk : a_codeKind pc = nI 55) (hc : f_stackCount = nI (v :: i :: vs).length) (hl : vs.length + 1 < 960) (hv : zp_V a_stack (v :: i :: vs))
    (H1 : ¬ i < 0 → i ≤ 15 → post (f_tokenCount, f_planCount, f_next, f_wrongToken, f_looseJump, f_latestPlace, f_openLoopCount, f_codeCount, f_labelCount, f_functionCount, f_registerCount, f_activeCalls, nI vs.length, nI (pc + 1), f_running, f_ending, f_endingPlace, f_resultValue, f_ticksUsed, f_printedCount, a_tokenKind, a_tokenValue, a_planKind, a_planValue, a_planPlace, a_argumentCount, a_openLoop, a_codeKind, a_codeValue, a_codePlace, a_labelTarget, a_functionStart, a_functionParameters, a_register, a_frame, a_returnTo, a_stack, upd a_element i.toNatClampNeg v, a_outputValue))
    (H2 : (i < 0 ∨ ¬ i ≤ 15) → post (f_tokenCount, f_planCount, f_next, f_wrongToken, f_looseJump, f_latestPlace, f_openLoopCount, f_codeCount, f_labelCount, f_functionCount, f_registerCount, f_activeCalls, nI vs.length, nI (pc + 1), 0, 2, a_codePlace pc, f_resultValue, f_ticksUsed, f_printedCount, a_tokenKind, a_tokenValue, a_planKind, a_planValue, a_planPlace, a_argumentCount, a_openLoop, a_codeKind, a_codeValue, a_codePlace, a_labelTarget, a_functionStart, a_functionParameters, a_register, a_frame, a_returnTo, a_stack, a_element, a_outputValue)) : wpX_executeNext post (f_tokenCount, f_planCount, f_next, f_wrongToken, f_looseJump, f_latestPlace, f_openLoopCount, f_codeCount, f_labelCount, f_functionCount, f_registerCount, f_activeCalls, f_stackCount, f_nextCode, f_running, f_ending, f_endingPlace, f_resultValue, f_ticksUsed, f_printedCount, a_tokenKind, a_tokenValue, a_planKind, a_planValue, a_planPlace, a_argumentCount, a_openLoop, a_codeKind, a_codeValue, a_codePlace, a_labelTarget, a_functionStart, a_functionParameters, a_register, a_frame, a_returnTo, a_stack, a_element, a_outputValue) := by
  refine ze_move hpc hp hk (by omega) (br_f (by decide) (br_f (by decide) (br_f (by decide) (br_f (by decide) (br_f (by decide) (br_f (by decide) (br_f (by decide) (br_f (by decide) (br_f (by decide) (br_f (by decide) (br_f (by decide) (br_f (by decide) (br_f (by decide) (br_f (by decide) (br_f (by decide) (br_f (by decide) (br_f (by decide) (br_f (by decide) (br_t (by decide) (?_))))))))))))))))))))
  unfold wpX_setElement
  refine zm_pop hc hl hv ?_
  refine zm_pop rfl (by omega) hv.2 ?_
  refine xm_isE (fun h => br_t rfl (H2 h)) (fun h h2 => br_f (by decide) ⟨rl_in (N := 15) (by decide) h h2 (by decide), nm_e (H1 h h2)⟩)
/-- ! ~ - and the truth of a value -/
def zv_u (k : Nat) (v : Int32) : Int32 := if k = 50 then -v else if k = 33 then v ^^^ (-1) else if k = 32 then (if v = 0 then 1 else 0) else (if v = 0 then 0 else 1)
theorem zz_un {post : SX → Prop} {f_tokenCount f_planCount f_next f_wrongToken f_looseJump f_latestPlace f_openLoopCount f_codeCount f_labelCount f_functionCount f_registerCount f_activeCalls f_stackCount f_nextCode f_running f_ending f_endingPlace f_resultValue f_ticksUsed f_printedCount : Int32} {a_tokenKind a_tokenValue a_planKind a_planValue a_planPlace a_argumentCount a_openLoop a_codeKind a_codeValue a_codePlace a_labelTarget a_functionStart a_functionParameters a_register a_frame a_returnTo a_stack a_element a_outputValue : Nat → Int32} {pc : Nat} (hpc : f_nextCode = nI pc) (hp : pc < 360) {vs : List Int32} {v : Int32} {k : Nat} (hk : a_codeKind pc = nI k) (hk' : k = 50 ∨ k = 32 ∨ k = 33 ∨ k = 57) (hc : f_stackCount = nI (v :: vs).length) (hl : vs.length < 960) (hv : zp_V a_stack (v :: vs))
    (H : ∀ st, zp_V st (zv_u k v :: vs) → post (f_tokenCount, f_planCount, f_next, f_wrongToken, f_looseJump, f_latestPlace, f_openLoopCount, f_codeCount, f_labelCount, f_functionCount, f_registerCount, f_activeCalls, nI (zv_u k v :: vs).length, nI (pc + 1), f_running, f_ending, f_endingPlace, f_resultValue, f_ticksUsed, f_printedCount, a_tokenKind, a_tokenValue, a_planKind, a_planValue, a_planPlace, a_argumentCount, a_openLoop, a_codeKind, a_codeValue, a_codePlace, a_labelTarget, a_functionStart, a_functionParameters, a_register, a_frame, a_returnTo, st, a_element, a_outputValue)) : wpX_executeNext post (f_tokenCount, f_planCount, f_next, f_wrongToken, f_looseJump, f_latestPlace, f_openLoopCount, f_codeCount, f_labelCount, f_functionCount, f_registerCount, f_activeCalls, f_stackCount, f_nextCode, f_running, f_ending, f_endingPlace, f_resultValue, f_ticksUsed, f_printedCount, a_tokenKind, a_tokenValue, a_planKind, a_planValue, a_planPlace, a_argumentCount, a_openLoop, a_codeKind, a_codeValue, a_codePlace, a_labelTarget, a_functionStart, a_functionParameters, a_register, a_frame, a_returnTo, a_stack, a_element, a_outputValue) := by
  refine ze_change hpc hp hk hk' ?_
  unfold wpX_changeTop
  refine zm_pop hc hl hv ?_
  rcases hk' with h | h | h | h <;> subst h
  · exact br_f (by decide) (br_f (by decide) (br_t (by decide) (zm_push rfl hl hv.2 H)))
  · refine br_t (by decide) (br_c (fun z => ?_) (fun z => ?_))
    · rw [show zv_u 32 v = 1 from if_pos z] at H; exact zm_push rfl hl hv.2 H
    · rw [show zv_u 32 v = 0 from if_neg z] at H; exact zm_push rfl hl hv.2 H
  · exact br_f (by decide) (br_t (by decide) (zm_push rfl hl hv.2 H))
  · refine br_f (by decide) (br_f (by decide) (br_f (by decide) (br_c (fun z => ?_) (fun z => ?_))))
    · rw [show zv_u 57 v = 0 from if_pos z] at H; exact zm_push rfl hl hv.2 H
    · rw [show zv_u 57 v = 1 from if_neg z] at H; exact zm_push rfl hl hv.2 H
theorem zm_j60 {post : SX → Prop} {f_tokenCount f_planCount f_next f_wrongToken f_looseJump f_latestPlace f_openLoopCount f_codeCount f_labelCount f_functionCount f_registerCount f_activeCalls f_stackCount f_nextCode f_running f_ending f_endingPlace f_resultValue f_ticksUsed f_printedCount : Int32} {a_tokenKind a_tokenValue a_planKind a_planValue a_planPlace a_argumentCount a_openLoop a_codeKind a_codeValue a_codePlace a_labelTarget a_functionStart a_functionParameters a_register a_frame a_returnTo a_stack a_element a_outputValue : Nat → Int32} {l : Nat} {x y : Int32} (hx : x = nI l) (hl : l < 240) (hy : ¬ y = 0) (H : post (f_tokenCount, f_planCount, f_next, f_wrongToken, f_looseJump, f_latestPlace, f_openLoopCount, f_codeCount, f_labelCount, f_functionCount, f_registerCount, f_activeCalls, f_stackCount, a_labelTarget l, f_running, f_ending, f_endingPlace, f_resultValue, f_ticksUsed, f_printedCount, a_tokenKind, a_tokenValue, a_planKind, a_planValue, a_planPlace, a_argumentCount, a_openLoop, a_codeKind, a_codeValue, a_codePlace, a_labelTarget, a_functionStart, a_functionParameters, a_register, a_frame, a_returnTo, a_stack, a_element, a_outputValue)) : wX_jump_60 post x y f_tokenCount f_planCount f_next f_wrongToken f_looseJump f_latestPlace f_openLoopCount f_codeCount f_labelCount f_functionCount f_registerCount f_activeCalls f_stackCount f_nextCode f_running f_ending f_endingPlace f_resultValue f_ticksUsed f_printedCount a_tokenKind a_tokenValue a_planKind a_planValue a_planPlace a_argumentCount a_openLoop a_codeKind a_codeValue a_codePlace a_labelTarget a_functionStart a_functionParameters a_register a_frame a_returnTo a_stack a_element a_outputValue := by
  subst hx
  refine br_f hy (br_f (nI_pos (by omega)) (br_f (nI_ge (b := 240) hl (by decide)) ⟨vp_in_nI hl (by decide), nm_r (by rw [nI_clamp (by omega)]) H⟩))
theorem zz_j58 {post : SX → Prop} {f_tokenCount f_planCount f_next f_wrongToken f_looseJump f_latestPlace f_openLoopCount f_codeCount f_labelCount f_functionCount f_registerCount f_activeCalls f_stackCount f_nextCode f_running f_ending f_endingPlace f_resultValue f_ticksUsed f_printedCount : Int32} {a_tokenKind a_tokenValue a_planKind a_planValue a_planPlace a_argumentCount a_openLoop a_codeKind a_codeValue a_codePlace a_labelTarget a_functionStart a_functionParameters a_register a_frame a_returnTo a_stack a_element a_outputValue : Nat → Int32} {pc : Nat} (hpc : f_nextCode = nI pc) (hp : pc < 360) {l : Nat} (hk : a_codeKind pc = nI 58) (hx : a_codeValue pc = nI l) (hl : l < 240) (H : post (f_tokenCount, f_planCount, f_next, f_wrongToken, f_looseJump, f_latestPlace, f_openLoopCount, f_codeCount, f_labelCount, f_functionCount, f_registerCount, f_activeCalls, f_stackCount, a_labelTarget l, f_running, f_ending, f_endingPlace, f_resultValue, f_ticksUsed, f_printedCount, a_tokenKind, a_tokenValue, a_planKind, a_planValue, a_planPlace, a_argumentCount, a_openLoop, a_codeKind, a_codeValue, a_codePlace, a_labelTarget, a_functionStart, a_functionParameters, a_register, a_frame, a_returnTo, a_stack, a_element, a_outputValue)) : wpX_executeNext post (f_tokenCount, f_planCount, f_next, f_wrongToken, f_looseJump, f_latestPlace, f_openLoopCount, f_codeCount, f_labelCount, f_functionCount, f_registerCount, f_activeCalls, f_stackCount, f_nextCode, f_running, f_ending, f_endingPlace, f_resultValue, f_ticksUsed, f_printedCount, a_tokenKind, a_tokenValue, a_planKind, a_planValue, a_planPlace, a_argumentCount, a_openLoop, a_codeKind, a_codeValue, a_codePlace, a_labelTarget, a_functionStart, a_functionParameters, a_register, a_frame, a_returnTo, a_stack, a_element, a_outputValue) := by
  refine ze_jump hpc hp hk (by decide) (by decide) ?_
  unfold wpX_jump
  exact br_t (by decide) (zm_j60 hx hl (by decide) H)
theorem zz_j59 {post : SX → Prop} {f_tokenCount f_planCount f_next f_wrongToken f_looseJump f_latestPlace f_openLoopCount f_codeCount f_labelCount f_functionCount f_registerCount f_activeCalls f_stackCount f_nextCode f_running f_ending f_endingPlace f_resultValue f_ticksUsed f_printedCount : Int32} {a_tokenKind a_tokenValue a_planKind a_planValue a_planPlace a_argumentCount a_openLoop a_codeKind a_codeValue a_codePlace a_labelTarget a_functionStart a_functionParameters a_register a_frame a_returnTo a_stack a_element a_outputValue : Nat → Int32} {pc : Nat} (hpc : f_nextCode = nI pc) (hp : pc < 360) {l : Nat} {vs : List Int32} {v : Int32} (hk : a_codeKind pc = nI 59) (hx : a_codeValue pc = nI l) (hl : l < 240) (hc : f_stackCount = nI (v :: vs).length) (hl2 : vs.length < 960) (hv : zp_V a_stack (v :: vs))
    (H1 : v = 0 → post (f_tokenCount, f_planCount, f_next, f_wrongToken, f_looseJump, f_latestPlace, f_openLoopCount, f_codeCount, f_labelCount, f_functionCount, f_registerCount, f_activeCalls, nI vs.length, a_labelTarget l, f_running, f_ending, f_endingPlace, f_resultValue, f_ticksUsed, f_printedCount, a_tokenKind, a_tokenValue, a_planKind, a_planValue, a_planPlace, a_argumentCount, a_openLoop, a_codeKind, a_codeValue, a_codePlace, a_labelTarget, a_functionStart, a_functionParameters, a_register, a_frame, a_returnTo, a_stack, a_element, a_outputValue)) (H2 : ¬ v = 0 → post (f_tokenCount, f_planCount, f_next, f_wrongToken, f_looseJump, f_latestPlace, f_openLoopCount, f_codeCount, f_labelCount, f_functionCount, f_registerCount, f_activeCalls, nI vs.length, nI (pc + 1), f_running, f_ending, f_endingPlace, f_resultValue, f_ticksUsed, f_printedCount, a_tokenKind, a_tokenValue, a_planKind, a_planValue, a_planPlace, a_argumentCount, a_openLoop, a_codeKind, a_codeValue, a_codePlace, a_labelTarget, a_functionStart, a_functionParameters, a_register, a_frame, a_returnTo, a_stack, a_element, a_outputValue)) : wpX_executeNext post (f_tokenCount, f_planCount, f_next, f_wrongToken, f_looseJump, f_latestPlace, f_openLoopCount, f_codeCount, f_labelCount, f_functionCount, f_registerCount, f_activeCalls, f_stackCount, f_nextCode, f_running, f_ending, f_endingPlace, f_resultValue, f_ticksUsed, f_printedCount, a_tokenKind, a_tokenValue, a_planKind, a_planValue, a_planPlace, a_argumentCount, a_openLoop, a_codeKind, a_codeValue, a_codePlace, a_labelTarget, a_functionStart, a_functionParameters, a_register, a_frame, a_returnTo, a_stack, a_element, a_outputValue) := by
  refine ze_jump hpc hp hk (by decide) (by decide) ?_
  unfold wpX_jump
  refine br_f (by decide) ?_
  refine zm_pop hc hl2 hv ?_
  refine br_f (by decide) (br_c (fun z => ?_) (fun z => ?_))
  · exact br_f (by decide) (br_t (by decide) (zm_j60 hx hl (by decide) (H1 z)))
  · exact br_t rfl (br_t rfl (H2 z))
theorem zz_j60 {post : SX → Prop} {f_tokenCount f_planCount f_next f_wrongToken f_looseJump f_latestPlace f_openLoopCount f_codeCount f_labelCount f_functionCount f_registerCount f_activeCalls f_stackCount f_nextCode f_running f_ending f_endingPlace f_resultValue f_ticksUsed f_printedCount : Int32} {a_tokenKind a_tokenValue a_planKind a_planValue a_planPlace a_argumentCount a_openLoop a_codeKind a_codeValue a_codePlace a_labelTarget a_functionStart a_functionParameters a_register a_frame a_returnTo a_stack a_element a_outputValue : Nat → Int32} {pc : Nat} (hpc : f_nextCode = nI pc) (hp : pc < 360) {l : Nat} {vs : List Int32} {v : Int32} (hk : a_codeKind pc = nI 60) (hx : a_codeValue pc = nI l) (hl : l < 240) (hc : f_stackCount = nI (v :: vs).length) (hl2 : vs.length < 960) (hv : zp_V a_stack (v :: vs))
    (H1 : v = 0 → ∀ st, zp_V st (v :: vs) → post (f_tokenCount, f_planCount, f_next, f_wrongToken, f_looseJump, f_latestPlace, f_openLoopCount, f_codeCount, f_labelCount, f_functionCount, f_registerCount, f_activeCalls, nI (v :: vs).length, a_labelTarget l, f_running, f_ending, f_endingPlace, f_resultValue, f_ticksUsed, f_printedCount, a_tokenKind, a_tokenValue, a_planKind, a_planValue, a_planPlace, a_argumentCount, a_openLoop, a_codeKind, a_codeValue, a_codePlace, a_labelTarget, a_functionStart, a_functionParameters, a_register, a_frame, a_returnTo, st, a_element, a_outputValue)) (H2 : ¬ v = 0 → post (f_tokenCount, f_planCount, f_next, f_wrongToken, f_looseJump, f_latestPlace, f_openLoopCount, f_codeCount, f_labelCount, f_functionCount, f_registerCount, f_activeCalls, nI vs.length, nI (pc + 1), f_running, f_ending, f_endingPlace, f_resultValue, f_ticksUsed, f_printedCount, a_tokenKind, a_tokenValue, a_planKind, a_planValue, a_planPlace, a_argumentCount, a_openLoop, a_codeKind, a_codeValue, a_codePlace, a_labelTarget, a_functionStart, a_functionParameters, a_register, a_frame, a_returnTo, a_stack, a_element, a_outputValue)) : wpX_executeNext post (f_tokenCount, f_planCount, f_next, f_wrongToken, f_looseJump, f_latestPlace, f_openLoopCount, f_codeCount, f_labelCount, f_functionCount, f_registerCount, f_activeCalls, f_stackCount, f_nextCode, f_running, f_ending, f_endingPlace, f_resultValue, f_ticksUsed, f_printedCount, a_tokenKind, a_tokenValue, a_planKind, a_planValue, a_planPlace, a_argumentCount, a_openLoop, a_codeKind, a_codeValue, a_codePlace, a_labelTarget, a_functionStart, a_functionParameters, a_register, a_frame, a_returnTo, a_stack, a_element, a_outputValue) := by
  refine ze_jump hpc hp hk (by decide) (by decide) ?_
  unfold wpX_jump
  refine br_f (by decide) ?_
  refine zm_pop hc hl2 hv ?_
  refine br_f (by decide) (br_c (fun z => ?_) (fun z => ?_))
  · exact br_f (by decide) (br_f (by decide) (zm_push rfl hl2 hv.2 fun st hs => zm_j60 hx hl (by decide) (H1 z st hs)))
  · exact br_t rfl (br_t rfl (H2 z))
theorem zz_j61 {post : SX → Prop} {f_tokenCount f_planCount f_next f_wrongToken f_looseJump f_latestPlace f_openLoopCount f_codeCount f_labelCount f_functionCount f_registerCount f_activeCalls f_stackCount f_nextCode f_running f_ending f_endingPlace f_resultValue f_ticksUsed f_printedCount : Int32} {a_tokenKind a_tokenValue a_planKind a_planValue a_planPlace a_argumentCount a_openLoop a_codeKind a_codeValue a_codePlace a_labelTarget a_functionStart a_functionParameters a_register a_frame a_returnTo a_stack a_element a_outputValue : Nat → Int32} {pc : Nat} (hpc : f_nextCode = nI pc) (hp : pc < 360) {l : Nat} {vs : List Int32} {v : Int32} (hk : a_codeKind pc = nI 61) (hx : a_codeValue pc = nI l) (hl : l < 240) (hc : f_stackCount = nI (v :: vs).length) (hl2 : vs.length < 960) (hv : zp_V a_stack (v :: vs))
    (H1 : ¬ v = 0 → ∀ st, zp_V st (v :: vs) → post (f_tokenCount, f_planCount, f_next, f_wrongToken, f_looseJump, f_latestPlace, f_openLoopCount, f_codeCount, f_labelCount, f_functionCount, f_registerCount, f_activeCalls, nI (v :: vs).length, a_labelTarget l, f_running, f_ending, f_endingPlace, f_resultValue, f_ticksUsed, f_printedCount, a_tokenKind, a_tokenValue, a_planKind, a_planValue, a_planPlace, a_argumentCount, a_openLoop, a_codeKind, a_codeValue, a_codePlace, a_labelTarget, a_functionStart, a_functionParameters, a_register, a_frame, a_returnTo, st, a_element, a_outputValue)) (H2 : v = 0 → post (f_tokenCount, f_planCount, f_next, f_wrongToken, f_looseJump, f_latestPlace, f_openLoopCount, f_codeCount, f_labelCount, f_functionCount, f_registerCount, f_activeCalls, nI vs.length, nI (pc + 1), f_running, f_ending, f_endingPlace, f_resultValue, f_ticksUsed, f_printedCount, a_tokenKind, a_tokenValue, a_planKind, a_planValue, a_planPlace, a_argumentCount, a_openLoop, a_codeKind, a_codeValue, a_codePlace, a_labelTarget, a_functionStart, a_functionParameters, a_register, a_frame, a_returnTo, a_stack, a_element, a_outputValue)) : wpX_executeNext post (f_tokenCount, f_planCount, f_next, f_wrongToken, f_looseJump, f_latestPlace, f_openLoopCount, f_codeCount, f_labelCount, f_functionCount, f_registerCount, f_activeCalls, f_stackCount, f_nextCode, f_running, f_ending, f_endingPlace, f_resultValue, f_ticksUsed, f_printedCount, a_tokenKind, a_tokenValue, a_planKind, a_planValue, a_planPlace, a_argumentCount, a_openLoop, a_codeKind, a_codeValue, a_codePlace, a_labelTarget, a_functionStart, a_functionParameters, a_register, a_frame, a_returnTo, a_stack, a_element, a_outputValue) := by
  refine ze_jump hpc hp hk (by decide) (by decide) ?_
  unfold wpX_jump
  refine br_f (by decide) ?_
  refine zm_pop hc hl2 hv ?_
  refine br_t (by decide) (br_c (fun z => ?_) (fun z => ?_))
  · exact br_t rfl (br_t rfl (H2 z))
  · exact br_f (by decide) (br_f (by decide) (zm_push rfl hl2 hv.2 fun st hs => zm_j60 hx hl (by decide) (H1 z st hs)))
end
section
/-! X, run: variables, calls, returns -/
def zp_R (r b : Nat) (reg fr vr : Nat → Int32) : Prop :=
  (∀ v, v < 6 → (v < r → reg v = vr (6 * b + v)) ∧ (r ≤ v → fr (6 * b + v) = vr (6 * b + v))) ∧ (∀ w, w < 6 * b → fr w = vr w)
theorem zp_slot (b u : Nat) : (nI (b + 1) - 1) * 6 + nI u = nI (6 * b + u) := by
  rw [nI_pred, show (6 : Int32) = nI 6 from rfl, pk_mul, nI_add]
  exact congrArg nI (by omega)
theorem zz_load {post : SX → Prop} {f_tokenCount f_planCount f_next f_wrongToken f_looseJump f_latestPlace f_openLoopCount f_codeCount f_labelCount f_functionCount f_registerCount f_activeCalls f_stackCount f_nextCode f_running f_ending f_endingPlace f_resultValue f_ticksUsed f_printedCount : Int32} {a_tokenKind a_tokenValue a_planKind a_planValue a_planPlace a_argumentCount a_openLoop a_codeKind a_codeValue a_codePlace a_labelTarget a_functionStart a_functionParameters a_register a_frame a_returnTo a_stack a_element a_outputValue : Nat → Int32} {pc : Nat} (hpc : f_nextCode = nI pc) (hp : pc < 360) {r : Nat} (hr : f_registerCount = nI r) (hr1 : 1 ≤ r) (hr6 : r ≤ 6) {vs : List Int32} {u b : Nat} {vr : Nat → Int32} (hk : a_codeKind pc = nI 52) (hu : a_codeValue pc = nI u) (hu' : u ≤ 5) (ha : f_activeCalls = nI (b + 1)) (hb : b ≤ 7) (hR : zp_R r b a_register a_frame vr)
    (hc : f_stackCount = nI vs.length) (hl : vs.length < 960) (hv : zp_V a_stack vs)
    (H : ∀ st, zp_V st (vr (6 * b + u) :: vs) → post (f_tokenCount, f_planCount, f_next, f_wrongToken, f_looseJump, f_latestPlace, f_openLoopCount, f_codeCount, f_labelCount, f_functionCount, f_registerCount, f_activeCalls, nI (vr (6 * b + u) :: vs).length, nI (pc + 1), f_running, f_ending, f_endingPlace, f_resultValue, f_ticksUsed, f_printedCount, a_tokenKind, a_tokenValue, a_planKind, a_planValue, a_planPlace, a_argumentCount, a_openLoop, a_codeKind, a_codeValue, a_codePlace, a_labelTarget, a_functionStart, a_functionParameters, a_register, a_frame, a_returnTo, st, a_element, a_outputValue)) : wpX_executeNext post (f_tokenCount, f_planCount, f_next, f_wrongToken, f_looseJump, f_latestPlace, f_openLoopCount, f_codeCount, f_labelCount, f_functionCount, f_registerCount, f_activeCalls, f_stackCount, f_nextCode, f_running, f_ending, f_endingPlace, f_resultValue, f_ticksUsed, f_printedCount, a_tokenKind, a_tokenValue, a_planKind, a_planValue, a_planPlace, a_argumentCount, a_openLoop, a_codeKind, a_codeValue, a_codePlace, a_labelTarget, a_functionStart, a_functionParameters, a_register, a_frame, a_returnTo, a_stack, a_element, a_outputValue) := by
  refine ze_move hpc hp hk (by omega) (br_f (by decide) (br_f (by decide) (br_f (by decide) (br_f (by decide) (br_f (by decide) (br_f (by decide) (br_f (by decide) (br_f (by decide) (br_f (by decide) (br_f (by decide) (br_f (by decide) (br_f (by decide) (br_f (by decide) (br_f (by decide) (br_f (by decide) (br_t (by decide) (?_)))))))))))))))))
  unfold wpX_pushVariable
  rw [hu]
  have hu2 : (nI u).toNatClampNeg = u := nI_clamp (by omega)
  refine br_f (nI_pos (by omega)) (br_f (nI_ge (b := 6) (by omega) (by decide)) ?_)
  rw [hr]
  refine pk_le r u (fun h => ?_) (fun h => ?_)
  · rw [← hr]
    unfold wX_pushVariable_29
    rw [ha, zp_slot]
    refine nm_e (br_f (nI_pos (by omega)) (br_f (nI_ge (b := 48) (by omega) (by decide)) ⟨vp_in_nI (by omega) (by decide), ?_⟩))
    rw [nI_clamp (by omega), (hR.1 u (by omega)).2 h, ← ha]
    exact zm_push hc hl hv H
  · refine ⟨vp_in_nI (by omega) (by decide), ?_⟩
    rw [hu2, (hR.1 u (by omega)).1 h, ← hr]
    exact zm_push hc hl hv H
theorem zm_set {post : SX → Prop} {f_tokenCount f_planCount f_next f_wrongToken f_looseJump f_latestPlace f_openLoopCount f_codeCount f_labelCount f_functionCount f_registerCount f_activeCalls f_stackCount f_nextCode f_running f_ending f_endingPlace f_resultValue f_ticksUsed f_printedCount : Int32} {a_tokenKind a_tokenValue a_planKind a_planValue a_planPlace a_argumentCount a_openLoop a_codeKind a_codeValue a_codePlace a_labelTarget a_functionStart a_functionParameters a_register a_frame a_returnTo a_stack a_element a_outputValue : Nat → Int32} {r : Nat} (hr : f_registerCount = nI r) (hr1 : 1 ≤ r) (hr6 : r ≤ 6) {u b : Nat} {x v : Int32} {vr : Nat → Int32} (hu : x = nI u) (hu' : u ≤ 5) (ha : f_activeCalls = nI (b + 1)) (hb : b ≤ 7) (hR : zp_R r b a_register a_frame vr)
    (H : ∀ reg fr, zp_R r b reg fr (upd vr (6 * b + u) v) → post (f_tokenCount, f_planCount, f_next, f_wrongToken, f_looseJump, f_latestPlace, f_openLoopCount, f_codeCount, f_labelCount, f_functionCount, f_registerCount, f_activeCalls, f_stackCount, f_nextCode, f_running, f_ending, f_endingPlace, f_resultValue, f_ticksUsed, f_printedCount, a_tokenKind, a_tokenValue, a_planKind, a_planValue, a_planPlace, a_argumentCount, a_openLoop, a_codeKind, a_codeValue, a_codePlace, a_labelTarget, a_functionStart, a_functionParameters, reg, fr, a_returnTo, a_stack, a_element, a_outputValue)) : wpX_setVariable post (f_tokenCount, f_planCount, f_next, f_wrongToken, f_looseJump, f_latestPlace, f_openLoopCount, f_codeCount, f_labelCount, f_functionCount, f_registerCount, f_activeCalls, f_stackCount, f_nextCode, f_running, f_ending, f_endingPlace, f_resultValue, f_ticksUsed, f_printedCount, a_tokenKind, a_tokenValue, a_planKind, a_planValue, a_planPlace, a_argumentCount, a_openLoop, a_codeKind, a_codeValue, a_codePlace, a_labelTarget, a_functionStart, a_functionParameters, a_register, a_frame, a_returnTo, a_stack, a_element, a_outputValue) x v := by
  subst hu
  have hu2 : (nI u).toNatClampNeg = u := nI_clamp (by omega)
  refine br_f (nI_pos (by omega)) (br_f (nI_ge (b := 6) (by omega) (by decide)) ?_)
  rw [hr]
  refine pk_le r u (fun h => ?_) (fun h => ?_)
  · unfold wX_setVariable_26
    rw [ha, zp_slot]
    refine nm_e (br_f (nI_pos (by omega)) (br_f (nI_ge (b := 48) (by omega) (by decide)) ⟨vp_in_nI (by omega) (by decide), nm_r (e' := upd a_frame (6 * b + u) v) (by rw [nI_clamp (by omega)]) ?_⟩))
    rw [← ha, ← hr]
    refine H _ _ ⟨fun w hw => ⟨fun h1 => ?_, fun h1 => ?_⟩, fun w hw => ?_⟩
    · rw [pk_un (by omega)]; exact (hR.1 w hw).1 h1
    · by_cases e : w = u
      · subst e; rw [pk_us, pk_us]
      · rw [pk_un (by omega), pk_un (by omega)]; exact (hR.1 w hw).2 h1
    · rw [pk_un (by omega), pk_un (by omega)]; exact hR.2 w hw
  · refine ⟨vp_in_nI (by omega) (by decide), nm_r (e' := upd a_register u v) (by rw [hu2]) ?_⟩
    rw [← hr]
    refine H _ _ ⟨fun w hw => ⟨fun h1 => ?_, fun h1 => ?_⟩, fun w hw => ?_⟩
    · by_cases e : w = u
      · subst e; rw [pk_us, pk_us]
      · rw [pk_un e, pk_un (by omega)]; exact (hR.1 w hw).1 h1
    · rw [pk_un (by omega)]; exact (hR.1 w hw).2 h1
    · rw [pk_un (by omega)]; exact hR.2 w hw
theorem zz_set {post : SX → Prop} {f_tokenCount f_planCount f_next f_wrongToken f_looseJump f_latestPlace f_openLoopCount f_codeCount f_labelCount f_functionCount f_registerCount f_activeCalls f_stackCount f_nextCode f_running f_ending f_endingPlace f_resultValue f_ticksUsed f_printedCount : Int32} {a_tokenKind a_tokenValue a_planKind a_planValue a_planPlace a_argumentCount a_openLoop a_codeKind a_codeValue a_codePlace a_labelTarget a_functionStart a_functionParameters a_register a_frame a_returnTo a_stack a_element a_outputValue : Nat → Int32} {pc : Nat} (hpc : f_nextCode = nI pc) (hp : pc < 360) {r : Nat} (hr : f_registerCount = nI r) (hr1 : 1 ≤ r) (hr6 : r ≤ 6) {vs : List Int32} {v : Int32} {u b : Nat} {vr : Nat → Int32} (hk : a_codeKind pc = nI 53) (hu : a_codeValue pc = nI u) (hu' : u ≤ 5) (ha : f_activeCalls = nI (b + 1)) (hb : b ≤ 7) (hR : zp_R r b a_register a_frame vr)
    (hc : f_stackCount = nI (v :: vs).length) (hl : vs.length < 960) (hv : zp_V a_stack (v :: vs))
    (H : ∀ reg fr, zp_R r b reg fr (upd vr (6 * b + u) v) → post (f_tokenCount, f_planCount, f_next, f_wrongToken, f_looseJump, f_latestPlace, f_openLoopCount, f_codeCount, f_labelCount, f_functionCount, f_registerCount, f_activeCalls, nI vs.length, nI (pc + 1), f_running, f_ending, f_endingPlace, f_resultValue, f_ticksUsed, f_printedCount, a_tokenKind, a_tokenValue, a_planKind, a_planValue, a_planPlace, a_argumentCount, a_openLoop, a_codeKind, a_codeValue, a_codePlace, a_labelTarget, a_functionStart, a_functionParameters, reg, fr, a_returnTo, a_stack, a_element, a_outputValue)) : wpX_executeNext post (f_tokenCount, f_planCount, f_next, f_wrongToken, f_looseJump, f_latestPlace, f_openLoopCount, f_codeCount, f_labelCount, f_functionCount, f_registerCount, f_activeCalls, f_stackCount, f_nextCode, f_running, f_ending, f_endingPlace, f_resultValue, f_ticksUsed, f_printedCount, a_tokenKind, a_tokenValue, a_planKind, a_planValue, a_planPlace, a_argumentCount, a_openLoop, a_codeKind, a_codeValue, a_codePlace, a_labelTarget, a_functionStart, a_functionParameters, a_register, a_frame, a_returnTo, a_stack, a_element, a_outputValue) := by
  refine ze_move hpc hp hk (by omega) (br_f (by decide) (br_f (by decide) (br_f (by decide) (br_f (by decide) (br_f (by decide) (br_f (by decide) (br_f (by decide) (br_f (by decide) (br_f (by decide) (br_f (by decide) (br_f (by decide) (br_f (by decide) (br_f (by decide) (br_f (by decide) (br_f (by decide) (br_f (by decide) (br_t (by decide) (?_))))))))))))))))))
  unfold wpX_popVariable
  refine zm_pop hc hl hv ?_
  exact zm_set hr hr1 hr6 hu hu' ha hb hR H
theorem zm_save {post : SX → Prop} {f_tokenCount f_planCount f_next f_wrongToken f_looseJump f_latestPlace f_openLoopCount f_codeCount f_labelCount f_functionCount f_registerCount f_activeCalls f_stackCount f_nextCode f_running f_ending f_endingPlace f_resultValue f_ticksUsed f_printedCount : Int32} {a_tokenKind a_tokenValue a_planKind a_planValue a_planPlace a_argumentCount a_openLoop a_codeKind a_codeValue a_codePlace a_labelTarget a_functionStart a_functionParameters a_register a_frame a_returnTo a_stack a_element a_outputValue : Nat → Int32} {r : Nat} (hr : f_registerCount = nI r) (hr1 : 1 ≤ r) (hr6 : r ≤ 6) {b : Nat} {vr : Nat → Int32} (ha : f_activeCalls = nI (b + 1)) (hb : b ≤ 7) (hR : zp_R r b a_register a_frame vr)
    (H : ∀ fr, (∀ w, w < 6 * (b + 1) → fr w = vr w) → post (f_tokenCount, f_planCount, f_next, f_wrongToken, f_looseJump, f_latestPlace, f_openLoopCount, f_codeCount, f_labelCount, f_functionCount, f_registerCount, f_activeCalls, f_stackCount, f_nextCode, f_running, f_ending, f_endingPlace, f_resultValue, f_ticksUsed, f_printedCount, a_tokenKind, a_tokenValue, a_planKind, a_planValue, a_planPlace, a_argumentCount, a_openLoop, a_codeKind, a_codeValue, a_codePlace, a_labelTarget, a_functionStart, a_functionParameters, a_register, fr, a_returnTo, a_stack, a_element, a_outputValue)) : wpX_saveRegisters post (f_tokenCount, f_planCount, f_next, f_wrongToken, f_looseJump, f_latestPlace, f_openLoopCount, f_codeCount, f_labelCount, f_functionCount, f_registerCount, f_activeCalls, f_stackCount, f_nextCode, f_running, f_ending, f_endingPlace, f_resultValue, f_ticksUsed, f_printedCount, a_tokenKind, a_tokenValue, a_planKind, a_planValue, a_planPlace, a_argumentCount, a_openLoop, a_codeKind, a_codeValue, a_codePlace, a_labelTarget, a_functionStart, a_functionParameters, a_register, a_frame, a_returnTo, a_stack, a_element, a_outputValue) := by
  have key : ∀ d v fr, v + d = 6 → (∀ w, w < 6 * b → fr w = vr w) → (∀ w, w < 6 → (w < v ∨ r ≤ w) → fr (6 * b + w) = vr (6 * b + w)) → wX_saveRegisters_2 post f_tokenCount f_planCount f_next f_wrongToken f_looseJump f_latestPlace f_openLoopCount f_codeCount f_labelCount f_functionCount f_registerCount f_activeCalls f_stackCount f_nextCode f_running f_ending f_endingPlace f_resultValue f_ticksUsed f_printedCount (d + 1) (nI v) a_tokenKind a_tokenValue a_planKind a_planValue a_planPlace a_argumentCount a_openLoop a_codeKind a_codeValue a_codePlace a_labelTarget a_functionStart a_functionParameters a_register fr a_returnTo a_stack a_element a_outputValue := by
    intro d
    induction d with
    | zero =>
      intro v fr hv h1 h2
      have : v = 6 := by omega
      subst this
      refine br_t (by decide) (H fr fun w hw => ?_)
      by_cases z : w < 6 * b
      · exact h1 w z
      · have := h2 (w - 6 * b) (by omega) (Or.inl (by omega))
        rw [show 6 * b + (w - 6 * b) = w by omega] at this
        exact this
    | succ d ih =>
      intro v fr hv h1 h2
      refine br_f (nI_ge (b := 6) (by omega) (by decide)) ?_
      rw [hr]
      refine pk_le r v (fun h => ?_) (fun h => ?_)
      · rw [← hr]
        refine H fr fun w hw => ?_
        by_cases z : w < 6 * b
        · exact h1 w z
        · have := h2 (w - 6 * b) (by omega) (by omega)
          rw [show 6 * b + (w - 6 * b) = w by omega] at this
          exact this
      · rw [← hr, ha, zp_slot]
        refine nm_e (br_f (nI_pos (by omega)) (br_f (nI_ge (b := 48) (by omega) (by decide)) ⟨vp_in_nI (by omega) (by decide), vp_in_nI (by omega) (by decide), nm_r (e' := upd fr (6 * b + v) (a_register v)) (by rw [nI_clamp (by omega), nI_clamp (by omega)]) (nm_r (nI_1 _) ?_)⟩))
        rw [← ha]
        refine ih (v + 1) _ (by omega) (fun w hw => ?_) (fun w hw hw2 => ?_)
        · rw [pk_un (by omega)]; exact h1 w hw
        · by_cases e : w = v
          · subst e; rw [pk_us]; exact (hR.1 w hw).1 h
          · rw [pk_un (by omega)]; exact h2 w hw (by omega)
  unfold wpX_saveRegisters
  refine ⟨7, ?_⟩
  exact key 6 0 a_frame rfl hR.2 (fun w hw hw2 => (hR.1 w hw).2 (by omega))
theorem zm_save0 {post : SX → Prop} {f_tokenCount f_planCount f_next f_wrongToken f_looseJump f_latestPlace f_openLoopCount f_codeCount f_labelCount f_functionCount f_registerCount f_activeCalls f_stackCount f_nextCode f_running f_ending f_endingPlace f_resultValue f_ticksUsed f_printedCount : Int32} {a_tokenKind a_tokenValue a_planKind a_planValue a_planPlace a_argumentCount a_openLoop a_codeKind a_codeValue a_codePlace a_labelTarget a_functionStart a_functionParameters a_register a_frame a_returnTo a_stack a_element a_outputValue : Nat → Int32} {r : Nat} (hr : f_registerCount = nI r) (hr1 : 1 ≤ r) (hr6 : r ≤ 6) (ha : f_activeCalls = 0) (H : post (f_tokenCount, f_planCount, f_next, f_wrongToken, f_looseJump, f_latestPlace, f_openLoopCount, f_codeCount, f_labelCount, f_functionCount, f_registerCount, f_activeCalls, f_stackCount, f_nextCode, f_running, f_ending, f_endingPlace, f_resultValue, f_ticksUsed, f_printedCount, a_tokenKind, a_tokenValue, a_planKind, a_planValue, a_planPlace, a_argumentCount, a_openLoop, a_codeKind, a_codeValue, a_codePlace, a_labelTarget, a_functionStart, a_functionParameters, a_register, a_frame, a_returnTo, a_stack, a_element, a_outputValue)) : wpX_saveRegisters post (f_tokenCount, f_planCount, f_next, f_wrongToken, f_looseJump, f_latestPlace, f_openLoopCount, f_codeCount, f_labelCount, f_functionCount, f_registerCount, f_activeCalls, f_stackCount, f_nextCode, f_running, f_ending, f_endingPlace, f_resultValue, f_ticksUsed, f_printedCount, a_tokenKind, a_tokenValue, a_planKind, a_planValue, a_planPlace, a_argumentCount, a_openLoop, a_codeKind, a_codeValue, a_codePlace, a_labelTarget, a_functionStart, a_functionParameters, a_register, a_frame, a_returnTo, a_stack, a_element, a_outputValue) := by
  have key : ∀ d v, v + d = 6 → wX_saveRegisters_2 post f_tokenCount f_planCount f_next f_wrongToken f_looseJump f_latestPlace f_openLoopCount f_codeCount f_labelCount f_functionCount f_registerCount f_activeCalls f_stackCount f_nextCode f_running f_ending f_endingPlace f_resultValue f_ticksUsed f_printedCount (d + 1) (nI v) a_tokenKind a_tokenValue a_planKind a_planValue a_planPlace a_argumentCount a_openLoop a_codeKind a_codeValue a_codePlace a_labelTarget a_functionStart a_functionParameters a_register a_frame a_returnTo a_stack a_element a_outputValue := by
    intro d
    induction d with
    | zero =>
      intro v hv
      have : v = 6 := by omega
      subst this
      exact br_t (by decide) H
    | succ d ih =>
      intro v hv
      refine br_f (nI_ge (b := 6) (by omega) (by decide)) (br_c (fun _ => H) (fun _ => nm_e (br_t ?_ (nm_r (nI_1 _) (ih (v + 1) (by omega))))))
      have hv5 : v < 6 := by omega
      have : ∀ v : Fin 6, ((0 : Int32) - 1) * 6 + nI v.val < 0 := by decide
      rw [ha]
      exact this ⟨v, hv5⟩
  unfold wpX_saveRegisters
  exact ⟨7, key 6 0 rfl⟩
theorem zm_restore {post : SX → Prop} {f_tokenCount f_planCount f_next f_wrongToken f_looseJump f_latestPlace f_openLoopCount f_codeCount f_labelCount f_functionCount f_registerCount f_activeCalls f_stackCount f_nextCode f_running f_ending f_endingPlace f_resultValue f_ticksUsed f_printedCount : Int32} {a_tokenKind a_tokenValue a_planKind a_planValue a_planPlace a_argumentCount a_openLoop a_codeKind a_codeValue a_codePlace a_labelTarget a_functionStart a_functionParameters a_register a_frame a_returnTo a_stack a_element a_outputValue : Nat → Int32} {r : Nat} (hr : f_registerCount = nI r) (hr1 : 1 ≤ r) (hr6 : r ≤ 6) {b : Nat} {vr : Nat → Int32} (ha : f_activeCalls = nI (b + 1)) (hb : b ≤ 7) (hR : ∀ w, w < 6 * (b + 1) → a_frame w = vr w)
    (H : ∀ reg, zp_R r b reg a_frame vr → post (f_tokenCount, f_planCount, f_next, f_wrongToken, f_looseJump, f_latestPlace, f_openLoopCount, f_codeCount, f_labelCount, f_functionCount, f_registerCount, f_activeCalls, f_stackCount, f_nextCode, f_running, f_ending, f_endingPlace, f_resultValue, f_ticksUsed, f_printedCount, a_tokenKind, a_tokenValue, a_planKind, a_planValue, a_planPlace, a_argumentCount, a_openLoop, a_codeKind, a_codeValue, a_codePlace, a_labelTarget, a_functionStart, a_functionParameters, reg, a_frame, a_returnTo, a_stack, a_element, a_outputValue)) : wpX_restoreRegisters post (f_tokenCount, f_planCount, f_next, f_wrongToken, f_looseJump, f_latestPlace, f_openLoopCount, f_codeCount, f_labelCount, f_functionCount, f_registerCount, f_activeCalls, f_stackCount, f_nextCode, f_running, f_ending, f_endingPlace, f_resultValue, f_ticksUsed, f_printedCount, a_tokenKind, a_tokenValue, a_planKind, a_planValue, a_planPlace, a_argumentCount, a_openLoop, a_codeKind, a_codeValue, a_codePlace, a_labelTarget, a_functionStart, a_functionParameters, a_register, a_frame, a_returnTo, a_stack, a_element, a_outputValue) := by
  have fin : ∀ reg : Nat → Int32, (∀ w, w < r → reg w = vr (6 * b + w)) → zp_R r b reg a_frame vr := fun reg h => ⟨fun w hw => ⟨fun h1 => h w h1, fun h1 => hR _ (by omega)⟩, fun w hw => hR _ (by omega)⟩
  have key : ∀ d v reg, v + d = 6 → (∀ w, w < v → reg w = vr (6 * b + w)) → wX_restoreRegisters_2 post f_tokenCount f_planCount f_next f_wrongToken f_looseJump f_latestPlace f_openLoopCount f_codeCount f_labelCount f_functionCount f_registerCount f_activeCalls f_stackCount f_nextCode f_running f_ending f_endingPlace f_resultValue f_ticksUsed f_printedCount (d + 1) (nI v) a_tokenKind a_tokenValue a_planKind a_planValue a_planPlace a_argumentCount a_openLoop a_codeKind a_codeValue a_codePlace a_labelTarget a_functionStart a_functionParameters reg a_frame a_returnTo a_stack a_element a_outputValue := by
    intro d
    induction d with
    | zero =>
      intro v reg hv h1
      have : v = 6 := by omega
      subst this
      exact br_t (by decide) (H reg (fin reg fun w hw => h1 w (by omega)))
    | succ d ih =>
      intro v reg hv h1
      refine br_f (nI_ge (b := 6) (by omega) (by decide)) ?_
      rw [hr]
      refine pk_le r v (fun h => ?_) (fun h => ?_)
      · rw [← hr]
        exact H reg (fin reg fun w hw => h1 w (by omega))
      · rw [← hr, ha, zp_slot]
        refine nm_e (br_f (nI_pos (by omega)) (br_f (nI_ge (b := 48) (by omega) (by decide)) ⟨vp_in_nI (by omega) (by decide), vp_in_nI (by omega) (by decide), nm_r (e' := upd reg v (vr (6 * b + v))) (by rw [nI_clamp (by omega), nI_clamp (by omega), hR _ (by omega)]) (nm_r (nI_1 _) ?_)⟩))
        rw [← ha]
        refine ih (v + 1) _ (by omega) (fun w hw => ?_)
        by_cases e : w = v
        · subst e; rw [pk_us]
        · rw [pk_un e]; exact h1 w (by omega)
  unfold wpX_restoreRegisters
  exact ⟨7, key 6 0 a_register rfl (fun w hw => by omega)⟩
theorem zz_ret0 {post : SX → Prop} {f_tokenCount f_planCount f_next f_wrongToken f_looseJump f_latestPlace f_openLoopCount f_codeCount f_labelCount f_functionCount f_registerCount f_activeCalls f_stackCount f_nextCode f_running f_ending f_endingPlace f_resultValue f_ticksUsed f_printedCount : Int32} {a_tokenKind a_tokenValue a_planKind a_planValue a_planPlace a_argumentCount a_openLoop a_codeKind a_codeValue a_codePlace a_labelTarget a_functionStart a_functionParameters a_register a_frame a_returnTo a_stack a_element a_outputValue : Nat → Int32} {pc : Nat} (hpc : f_nextCode = nI pc) (hp : pc < 360) {vs : List Int32} {v : Int32} (hk : a_codeKind pc = nI 39) (ha : f_activeCalls = nI 1) (hc : f_stackCount = nI (v :: vs).length) (hl : vs.length < 960) (hv : zp_V a_stack (v :: vs))
    (H : post (f_tokenCount, f_planCount, f_next, f_wrongToken, f_looseJump, f_latestPlace, f_openLoopCount, f_codeCount, f_labelCount, f_functionCount, f_registerCount, nI 0, nI vs.length, nI (pc + 1), 0, f_ending, f_endingPlace, v, f_ticksUsed, f_printedCount, a_tokenKind, a_tokenValue, a_planKind, a_planValue, a_planPlace, a_argumentCount, a_openLoop, a_codeKind, a_codeValue, a_codePlace, a_labelTarget, a_functionStart, a_functionParameters, a_register, a_frame, a_returnTo, a_stack, a_element, a_outputValue)) : wpX_executeNext post (f_tokenCount, f_planCount, f_next, f_wrongToken, f_looseJump, f_latestPlace, f_openLoopCount, f_codeCount, f_labelCount, f_functionCount, f_registerCount, f_activeCalls, f_stackCount, f_nextCode, f_running, f_ending, f_endingPlace, f_resultValue, f_ticksUsed, f_printedCount, a_tokenKind, a_tokenValue, a_planKind, a_planValue, a_planPlace, a_argumentCount, a_openLoop, a_codeKind, a_codeValue, a_codePlace, a_labelTarget, a_functionStart, a_functionParameters, a_register, a_frame, a_returnTo, a_stack, a_element, a_outputValue) := by
  refine ze_move hpc hp hk (by omega) (br_f (by decide) (br_f (by decide) (br_t (by decide) (?_))))
  unfold wpX_leave
  refine zm_pop hc hl hv ?_
  subst ha
  exact nm_r (e' := nI 0) (by decide) (br_t (by decide) H)
theorem zz_ret {post : SX → Prop} {f_tokenCount f_planCount f_next f_wrongToken f_looseJump f_latestPlace f_openLoopCount f_codeCount f_labelCount f_functionCount f_registerCount f_activeCalls f_stackCount f_nextCode f_running f_ending f_endingPlace f_resultValue f_ticksUsed f_printedCount : Int32} {a_tokenKind a_tokenValue a_planKind a_planValue a_planPlace a_argumentCount a_openLoop a_codeKind a_codeValue a_codePlace a_labelTarget a_functionStart a_functionParameters a_register a_frame a_returnTo a_stack a_element a_outputValue : Nat → Int32} {pc : Nat} (hpc : f_nextCode = nI pc) (hp : pc < 360) {r : Nat} (hr : f_registerCount = nI r) (hr1 : 1 ≤ r) (hr6 : r ≤ 6) {vs : List Int32} {v : Int32} {b : Nat} {vr : Nat → Int32} (hk : a_codeKind pc = nI 39) (ha : f_activeCalls = nI (b + 2)) (hb : b ≤ 6) (hR : ∀ w, w < 6 * (b + 1) → a_frame w = vr w)
    (hc : f_stackCount = nI (v :: vs).length) (hl : vs.length < 960) (hv : zp_V a_stack (v :: vs))
    (H : ∀ reg st, zp_R r b reg a_frame vr → zp_V st (v :: vs) → post (f_tokenCount, f_planCount, f_next, f_wrongToken, f_looseJump, f_latestPlace, f_openLoopCount, f_codeCount, f_labelCount, f_functionCount, f_registerCount, nI (b + 1), nI (v :: vs).length, a_returnTo (b + 1), f_running, f_ending, f_endingPlace, f_resultValue, f_ticksUsed, f_printedCount, a_tokenKind, a_tokenValue, a_planKind, a_planValue, a_planPlace, a_argumentCount, a_openLoop, a_codeKind, a_codeValue, a_codePlace, a_labelTarget, a_functionStart, a_functionParameters, reg, a_frame, a_returnTo, st, a_element, a_outputValue)) : wpX_executeNext post (f_tokenCount, f_planCount, f_next, f_wrongToken, f_looseJump, f_latestPlace, f_openLoopCount, f_codeCount, f_labelCount, f_functionCount, f_registerCount, f_activeCalls, f_stackCount, f_nextCode, f_running, f_ending, f_endingPlace, f_resultValue, f_ticksUsed, f_printedCount, a_tokenKind, a_tokenValue, a_planKind, a_planValue, a_planPlace, a_argumentCount, a_openLoop, a_codeKind, a_codeValue, a_codePlace, a_labelTarget, a_functionStart, a_functionParameters, a_register, a_frame, a_returnTo, a_stack, a_element, a_outputValue) := by
  refine ze_move hpc hp hk (by omega) (br_f (by decide) (br_f (by decide) (br_t (by decide) (?_))))
  unfold wpX_leave
  refine zm_pop hc hl hv ?_
  subst ha
  refine nm_r (nI_pred _) (br_f (nI_nle (by omega) (by omega)) (br_t (nI_lt (b := 8) (by omega) (by decide)) ?_))
  refine zm_restore hr hr1 hr6 rfl (by omega) hR fun reg hreg => ?_
  refine ⟨vp_in_nI (by omega) (by decide), nm_r (e' := a_returnTo (b + 1)) (by rw [nI_clamp (by omega)]) ?_⟩
  exact zm_push rfl hl hv.2 fun st hs => H reg st hreg hs
/-- the variables of a call: the arguments from the top of the stack, the last first -/
def zp_ent (b c : Nat) : Nat → (Nat → Int32) → List Int32 → Nat → Int32
  | 0, vr, _ => vr
  | v + 1, vr, vs => if v < c then (match vs with | [] => vr | w :: l => zp_ent b c v (upd vr (6 * b + v) w) l) else zp_ent b c v (upd vr (6 * b + v) 0) vs
theorem zm_ent {post : SX → Prop} {b c f r : Nat} (hr1 : 1 ≤ r) (hr6 : r ≤ 6) (hb : b ≤ 7) (hf : f < 4) (hc3 : c ≤ 3) : ∀ (v : Nat) {f_tokenCount f_planCount f_next f_wrongToken f_looseJump f_latestPlace f_openLoopCount f_codeCount f_labelCount f_functionCount f_registerCount f_activeCalls f_stackCount f_nextCode f_running f_ending f_endingPlace f_resultValue f_ticksUsed f_printedCount : Int32} {a_tokenKind a_tokenValue a_planKind a_planValue a_planPlace a_argumentCount a_openLoop a_codeKind a_codeValue a_codePlace a_labelTarget a_functionStart a_functionParameters a_register a_frame a_returnTo a_stack a_element a_outputValue : Nat → Int32} {vr : Nat → Int32} {vs : List Int32} {x : Int32}, v ≤ 6 → f_registerCount = nI r → a_functionParameters f = nI c → (0 < v → x = nI (v - 1)) → (v = 0 → x = -1) → f_activeCalls = nI (b + 1) → zp_R r b a_register a_frame vr →
    f_stackCount = nI vs.length → vs.length < 960 → zp_V a_stack vs → (if v < c then v else c) ≤ vs.length →
    (∀ reg fr, zp_R r b reg fr (zp_ent b c v vr vs) → zp_V a_stack (vs.drop (if v < c then v else c)) → post (f_tokenCount, f_planCount, f_next, f_wrongToken, f_looseJump, f_latestPlace, f_openLoopCount, f_codeCount, f_labelCount, f_functionCount, f_registerCount, f_activeCalls, nI (vs.drop (if v < c then v else c)).length, a_functionStart f, f_running, f_ending, f_endingPlace, f_resultValue, f_ticksUsed, f_printedCount, a_tokenKind, a_tokenValue, a_planKind, a_planValue, a_planPlace, a_argumentCount, a_openLoop, a_codeKind, a_codeValue, a_codePlace, a_labelTarget, a_functionStart, a_functionParameters, reg, fr, a_returnTo, a_stack, a_element, a_outputValue)) → wX_enter_60 post (nI f) (v + 1) x f_tokenCount f_planCount f_next f_wrongToken f_looseJump f_latestPlace f_openLoopCount f_codeCount f_labelCount f_functionCount f_registerCount f_activeCalls f_stackCount f_nextCode f_running f_ending f_endingPlace f_resultValue f_ticksUsed f_printedCount a_tokenKind a_tokenValue a_planKind a_planValue a_planPlace a_argumentCount a_openLoop a_codeKind a_codeValue a_codePlace a_labelTarget a_functionStart a_functionParameters a_register a_frame a_returnTo a_stack a_element a_outputValue := by
  intro v
  induction v with
  | zero =>
    intro f_tokenCount f_planCount f_next f_wrongToken f_looseJump f_latestPlace f_openLoopCount f_codeCount f_labelCount f_functionCount f_registerCount f_activeCalls f_stackCount f_nextCode f_running f_ending f_endingPlace f_resultValue f_ticksUsed f_printedCount a_tokenKind a_tokenValue a_planKind a_planValue a_planPlace a_argumentCount a_openLoop a_codeKind a_codeValue a_codePlace a_labelTarget a_functionStart a_functionParameters a_register a_frame a_returnTo a_stack a_element a_outputValue vr vs x hv6 hr hfp hx hx0 ha hR hc hl hv hle H
    have := hx0 rfl
    subst this
    refine br_t (by decide) ⟨vp_in_nI hf (by decide), nm_r (e' := a_functionStart f) (by rw [nI_clamp (by omega)]) ?_⟩
    have e : (if 0 < c then 0 else c) = 0 := by split <;> omega
    rw [e] at H
    have H := H a_register a_frame hR hv
    rw [List.drop_zero, ← hc] at H
    exact H
  | succ v ih =>
    intro f_tokenCount f_planCount f_next f_wrongToken f_looseJump f_latestPlace f_openLoopCount f_codeCount f_labelCount f_functionCount f_registerCount f_activeCalls f_stackCount f_nextCode f_running f_ending f_endingPlace f_resultValue f_ticksUsed f_printedCount a_tokenKind a_tokenValue a_planKind a_planValue a_planPlace a_argumentCount a_openLoop a_codeKind a_codeValue a_codePlace a_labelTarget a_functionStart a_functionParameters a_register a_frame a_returnTo a_stack a_element a_outputValue vr vs x hv6 hr hfp hx hx0 ha hR hc hl hv hle H
    have hxx := hx (by omega)
    rw [Nat.add_sub_cancel] at hxx
    subst hxx
    refine br_f (nI_pos (by omega)) ⟨vp_in_nI hf (by decide), ?_⟩
    rw [nI_clamp (n := f) (by omega), hfp]
    have nx0 : 0 < v → nI v + (-1) = nI (v - 1) := fun h => by
      obtain ⟨w, rfl⟩ : ∃ w, v = w + 1 := ⟨v - 1, by omega⟩
      exact pk_m1 w
    have nx1 : v = 0 → nI v + (-1) = -1 := fun h => by subst h; decide
    refine pk_le c v (fun h => ?_) (fun h => ?_)
    · unfold wX_enter_81
      refine zm_set hr hr1 hr6 rfl (by omega) ha hb hR fun reg fr hR' => ?_
      refine nm_e ?_
      have e1 : (if v + 1 < c then v + 1 else c) = c := if_neg (by omega)
      have e2 : (if v < c then v else c) = c := if_neg (by omega)
      rw [e1] at hle H
      refine ih (by omega) hr hfp nx0 nx1 ha hR' hc hl hv (by rw [e2]; exact hle) ?_
      rw [e2]
      have e3 : zp_ent b c (v + 1) vr vs = zp_ent b c v (upd vr (6 * b + v) 0) vs := if_neg (by omega)
      rw [e3] at H
      exact H
    · have e2 : (if v < c then v else c) = v := if_pos h
      have e1 : (if v + 1 < c then v + 1 else c) = v + 1 := by split <;> omega
      rw [e1] at hle H
      cases vs with
      | nil => simp at hle
      | cons w l =>
        simp only [List.length_cons] at hl hle
        refine zm_pop hc (by omega) hv ?_
        unfold wX_enter_81
        refine zm_set hr hr1 hr6 rfl (by omega) ha hb hR fun reg fr hR' => ?_
        refine nm_e ?_
        refine ih (by omega) hr hfp nx0 nx1 ha hR' rfl (by omega) hv.2 (by rw [e2]; omega) ?_
        rw [e2]
        have e3 : zp_ent b c (v + 1) vr (w :: l) = zp_ent b c v (upd vr (6 * b + v) w) l := if_pos h
        rw [e3] at H
        exact H
theorem zp_ent_eq {a c : Nat} : ∀ (v : Nat) (X Y : Nat → Int32) (vs : List Int32), v ≤ 6 → (if v < c then v else c) ≤ vs.length → (∀ j, (j < 6 * a ∨ (6 * a + v ≤ j ∧ j < 6 * a + 6)) → X j = Y j) → ∀ j, j < 6 * a + 6 → zp_ent a c v X vs j = zp_ent a c v Y vs j := by
  intro v
  induction v with
  | zero => intro X Y vs _ _ h j hj; exact h j (by omega)
  | succ v ih =>
    intro X Y vs hv hle h j hj
    have up : ∀ (w : Int32) j, (j < 6 * a ∨ (6 * a + v ≤ j ∧ j < 6 * a + 6)) → upd X (6 * a + v) w j = upd Y (6 * a + v) w j := by
      intro w j hj
      by_cases e : j = 6 * a + v
      · rw [e, pk_us, pk_us]
      · rw [pk_un e, pk_un e]; exact h j (by omega)
    unfold zp_ent
    by_cases hc : v < c
    · rw [if_pos hc, if_pos hc]
      have hle' : v + 1 ≤ vs.length := by
        have : (if v + 1 < c then v + 1 else c) = v + 1 := by split <;> omega
        omega
      cases vs with
      | nil => simp at hle'
      | cons w l =>
        simp only [List.length_cons] at hle'
        exact ih _ _ l (by omega) (by rw [if_pos hc]; omega) (up w) j hj
    · rw [if_neg hc, if_neg hc]
      rw [if_neg (by omega)] at hle
      exact ih _ _ vs (by omega) (by rw [if_neg hc]; exact hle) (up 0) j hj
theorem zp_R_eq {r b : Nat} {reg fr X Y : Nat → Int32} (h : ∀ j, j < 6 * b + 6 → X j = Y j) (hR : zp_R r b reg fr X) : zp_R r b reg fr Y :=
  ⟨fun v hv => ⟨fun h1 => ((hR.1 v hv).1 h1).trans (h _ (by omega)), fun h1 => ((hR.1 v hv).2 h1).trans (h _ (by omega))⟩, fun w hw => (hR.2 w hw).trans (h _ (by omega))⟩
theorem zm_enter {post : SX → Prop} {f_tokenCount f_planCount f_next f_wrongToken f_looseJump f_latestPlace f_openLoopCount f_codeCount f_labelCount f_functionCount f_registerCount f_activeCalls f_stackCount f_nextCode f_running f_ending f_endingPlace f_resultValue f_ticksUsed f_printedCount : Int32} {a_tokenKind a_tokenValue a_planKind a_planValue a_planPlace a_argumentCount a_openLoop a_codeKind a_codeValue a_codePlace a_labelTarget a_functionStart a_functionParameters a_register a_frame a_returnTo a_stack a_element a_outputValue : Nat → Int32} {r : Nat} (hr : f_registerCount = nI r) (hr1 : 1 ≤ r) (hr6 : r ≤ 6) {a c f : Nat} {vr : Nat → Int32} {vs : List Int32} {x : Int32} (hx : x = nI f) (hf : f < 4) (hfp : a_functionParameters f = nI c) (hc3 : c ≤ 3) (ha : f_activeCalls = nI a) (ha8 : a < 8)
    (hR : ∀ b, a = b + 1 → zp_R r b a_register a_frame vr) (hc : f_stackCount = nI vs.length) (hl : vs.length < 960) (hv : zp_V a_stack vs) (hle : c ≤ vs.length)
    (H : ∀ reg fr, zp_R r a reg fr (zp_ent a c 6 vr vs) → zp_V a_stack (vs.drop c) → post (f_tokenCount, f_planCount, f_next, f_wrongToken, f_looseJump, f_latestPlace, f_openLoopCount, f_codeCount, f_labelCount, f_functionCount, f_registerCount, nI (a + 1), nI (vs.drop c).length, a_functionStart f, f_running, f_ending, f_endingPlace, f_resultValue, f_ticksUsed, f_printedCount, a_tokenKind, a_tokenValue, a_planKind, a_planValue, a_planPlace, a_argumentCount, a_openLoop, a_codeKind, a_codeValue, a_codePlace, a_labelTarget, a_functionStart, a_functionParameters, reg, fr, upd a_returnTo a f_nextCode, a_stack, a_element, a_outputValue)) : wpX_enter post (f_tokenCount, f_planCount, f_next, f_wrongToken, f_looseJump, f_latestPlace, f_openLoopCount, f_codeCount, f_labelCount, f_functionCount, f_registerCount, f_activeCalls, f_stackCount, f_nextCode, f_running, f_ending, f_endingPlace, f_resultValue, f_ticksUsed, f_printedCount, a_tokenKind, a_tokenValue, a_planKind, a_planValue, a_planPlace, a_argumentCount, a_openLoop, a_codeKind, a_codeValue, a_codePlace, a_labelTarget, a_functionStart, a_functionParameters, a_register, a_frame, a_returnTo, a_stack, a_element, a_outputValue) x := by
  subst hx
  have e : (if 6 < c then 6 else c) = c := if_neg (by omega)
  have tail : ∀ fr, (∀ w, w < 6 * a → fr w = vr w) → (∃ n60 : Nat, wX_enter_60 post (nI f) n60 5 f_tokenCount f_planCount f_next f_wrongToken f_looseJump f_latestPlace f_openLoopCount f_codeCount f_labelCount f_functionCount f_registerCount (nI (a + 1)) f_stackCount f_nextCode f_running f_ending f_endingPlace f_resultValue f_ticksUsed f_printedCount a_tokenKind a_tokenValue a_planKind a_planValue a_planPlace a_argumentCount a_openLoop a_codeKind a_codeValue a_codePlace a_labelTarget a_functionStart a_functionParameters a_register fr (upd a_returnTo a f_nextCode) a_stack a_element a_outputValue) := by
    intro fr hfr
    -- any start serves: all six variables are set
    refine ⟨7, ?_⟩
    have h0 : zp_R r a a_register fr (fun j => if j < 6 * a then vr j else if j - 6 * a < r then a_register (j - 6 * a) else fr j) := by
      refine ⟨fun w hw => ⟨fun h1 => ?_, fun h1 => ?_⟩, fun w hw => ?_⟩
      · show _ = if 6 * a + w < 6 * a then _ else _
        rw [if_neg (by omega), if_pos (by omega)]
        exact congrArg _ (by omega)
      · show _ = if 6 * a + w < 6 * a then _ else _
        rw [if_neg (by omega), if_neg (by omega)]
      · show _ = if w < 6 * a then _ else _
        rw [if_pos hw]; exact hfr w hw
    refine zm_ent hr1 hr6 (by omega) hf hc3 6 (by omega) hr hfp (fun _ => rfl) (fun h => absurd h (by decide)) rfl h0 hc hl hv (by rw [e]; exact hle) ?_
    rw [e]
    intro reg fr' hR' hv'
    refine H reg fr' ?_ hv'
    refine zp_R_eq (fun j hj => ?_) hR'
    refine zp_ent_eq 6 _ _ vs (by omega) (by rw [e]; exact hle) (fun j hj => ?_) j hj
    show (if j < 6 * a then _ else _) = _
    rw [if_pos (by omega)]
  refine br_f (nI_pos (by omega)) (br_f (nI_ge (b := 4) hf (by decide)) ?_)
  rw [ha]
  refine br_f (nI_pos (by omega)) (br_t (nI_lt (b := 8) ha8 (by decide)) ?_)
  have e3 : (nI a).toNatClampNeg = a := nI_clamp (by omega)
  cases a with
  | zero =>
    refine zm_save0 hr hr1 hr6 rfl ⟨vp_in_nI ha8 (by decide), nm_r (e' := upd a_returnTo 0 f_nextCode) rfl (nm_r (nI_1 _) ?_)⟩
    exact tail a_frame (fun w hw => by omega)
  | succ b =>
    refine zm_save hr hr1 hr6 rfl (by omega) (hR b rfl) fun fr hfr => ⟨vp_in_nI ha8 (by decide), nm_r (e' := upd a_returnTo (b + 1) f_nextCode) (by rw [e3]) (nm_r (nI_1 _) ?_)⟩
    exact tail fr hfr
end
section
/-! the operators with two sides -/
def zv_b (k : Nat) (x y : Int32) : Int32 :=
  if k = 15 then x ||| y else if k = 16 then x ^^^ y else if k = 17 then x &&& y else if k = 18 then (if x = y then 1 else 0) else if k = 19 then (if x = y then 0 else 1) else if k = 20 then (if y ≤ x then 0 else 1) else if k = 21 then (if x ≤ y then 0 else 1)
  else if k = 22 then (if y < x then 0 else 1) else if k = 23 then (if x < y then 0 else 1) else if k = 24 then x <<< (y &&& 31) else if k = 25 then x >>> (y &&& 31) else if k = 26 then (x.toUInt32 >>> (y.toUInt32 &&& Int32.toUInt32 31)).toInt32
  else if k = 27 then x + y else if k = 28 then x - y else if k = 29 then x * y else if k = 30 then x / y else x - x / y * y
theorem zx_34 {post : SX → Prop} {f_tokenCount f_planCount f_next f_wrongToken f_looseJump f_latestPlace f_openLoopCount f_codeCount f_labelCount f_functionCount f_registerCount f_activeCalls f_stackCount f_nextCode f_running f_ending f_endingPlace f_resultValue f_ticksUsed f_printedCount : Int32} {a_tokenKind a_tokenValue a_planKind a_planValue a_planPlace a_argumentCount a_openLoop a_codeKind a_codeValue a_codePlace a_labelTarget a_functionStart a_functionParameters a_register a_frame a_returnTo a_stack a_element a_outputValue : Nat → Int32} {k : Nat} {x y : Int32} (hk1 : 15 ≤ k) (hk2 : k ≤ 31) (h0 : ¬ (y = 0 ∧ 30 ≤ k)) (H : wX_combineTop_63 post (zv_b k x y) f_tokenCount f_planCount f_next f_wrongToken f_looseJump f_latestPlace f_openLoopCount f_codeCount f_labelCount f_functionCount f_registerCount f_activeCalls f_stackCount f_nextCode f_running f_ending f_endingPlace f_resultValue f_ticksUsed f_printedCount a_tokenKind a_tokenValue a_planKind a_planValue a_planPlace a_argumentCount a_openLoop a_codeKind a_codeValue a_codePlace a_labelTarget a_functionStart a_functionParameters a_register a_frame a_returnTo a_stack a_element a_outputValue) : wX_combineTop_34 post (nI k) y x f_tokenCount f_planCount f_next f_wrongToken f_looseJump f_latestPlace f_openLoopCount f_codeCount f_labelCount f_functionCount f_registerCount f_activeCalls f_stackCount f_nextCode f_running f_ending f_endingPlace f_resultValue f_ticksUsed f_printedCount a_tokenKind a_tokenValue a_planKind a_planValue a_planPlace a_argumentCount a_openLoop a_codeKind a_codeValue a_codePlace a_labelTarget a_functionStart a_functionParameters a_register a_frame a_returnTo a_stack a_element a_outputValue := by
  have hk : k = 15 ∨ k = 16 ∨ k = 17 ∨ k = 18 ∨ k = 19 ∨ k = 20 ∨ k = 21 ∨ k = 22 ∨ k = 23 ∨ k = 24 ∨ k = 25 ∨ k = 26 ∨ k = 27 ∨ k = 28 ∨ k = 29 ∨ k = 30 ∨ k = 31 := by omega
  unfold wX_combineTop_34 wX_combineTop_56
  rcases hk with h | h | h | h | h | h | h | h | h | h | h | h | h | h | h | h | h <;> subst h
  · exact br_f (by decide) (br_t (by decide) (br_f (by decide) (br_f (by decide) (br_t (by decide) (H)))))
  · exact br_f (by decide) (br_t (by decide) (br_f (by decide) (br_f (by decide) (br_f (by decide) (br_t (by decide) (H))))))
  · exact br_f (by decide) (br_t (by decide) (br_f (by decide) (br_f (by decide) (br_f (by decide) (br_f (by decide) (br_t (by decide) (H)))))))
  · exact br_f (by decide) (br_f (by decide) (br_f (by decide) (br_f (by decide) (br_t (by decide) (br_c (fun z => br_f (by decide) (by rw [show zv_b 18 x y = 1 from if_pos z] at H; exact H)) (fun z => br_t rfl (by rw [show zv_b 18 x y = 0 from if_neg z] at H; exact H)))))))
  · exact br_f (by decide) (br_f (by decide) (br_f (by decide) (br_f (by decide) (br_f (by decide) (br_t (by decide) (br_c (fun z => br_t rfl (by rw [show zv_b 19 x y = 0 from if_pos z] at H; exact H)) (fun z => br_f (by decide) (by rw [show zv_b 19 x y = 1 from if_neg z] at H; exact H))))))))
  · exact br_f (by decide) (br_f (by decide) (br_f (by decide) (br_f (by decide) (br_f (by decide) (br_f (by decide) (br_t (by decide) (br_c (fun z => br_t rfl (by rw [show zv_b 20 x y = 0 from if_pos z] at H; exact H)) (fun z => br_f (by decide) (by rw [show zv_b 20 x y = 1 from if_neg z] at H; exact H)))))))))
  · exact br_f (by decide) (br_f (by decide) (br_f (by decide) (br_f (by decide) (br_f (by decide) (br_f (by decide) (br_f (by decide) (br_t (by decide) (br_c (fun z => br_t rfl (by rw [show zv_b 21 x y = 0 from if_pos z] at H; exact H)) (fun z => br_f (by decide) (by rw [show zv_b 21 x y = 1 from if_neg z] at H; exact H))))))))))
  · exact br_f (by decide) (br_f (by decide) (br_f (by decide) (br_f (by decide) (br_f (by decide) (br_f (by decide) (br_f (by decide) (br_f (by decide) (br_t (by decide) (br_c (fun z => br_t rfl (by rw [show zv_b 22 x y = 0 from if_pos z] at H; exact H)) (fun z => br_f (by decide) (by rw [show zv_b 22 x y = 1 from if_neg z] at H; exact H)))))))))))
  · exact br_f (by decide) (br_f (by decide) (br_f (by decide) (br_t (by decide) (br_c (fun z => br_t rfl (by rw [show zv_b 23 x y = 0 from if_pos z] at H; exact H)) (fun z => br_f (by decide) (by rw [show zv_b 23 x y = 1 from if_neg z] at H; exact H))))))
  · exact br_t (by decide) (br_f (by decide) (br_f (by decide) (br_f (by decide) (br_f (by decide) (br_f (by decide) (br_f (by decide) (br_f (by decide) (br_f (by decide) (br_f (by decide) (br_f (by decide) (br_f (by decide) (br_t (by decide) (H)))))))))))))
  · exact br_t (by decide) (br_f (by decide) (br_f (by decide) (br_f (by decide) (br_f (by decide) (br_f (by decide) (br_f (by decide) (br_f (by decide) (br_f (by decide) (br_f (by decide) (br_f (by decide) (br_f (by decide) (br_f (by decide) (br_t (by decide) (H))))))))))))))
  · exact br_t (by decide) (br_f (by decide) (br_f (by decide) (br_f (by decide) (br_f (by decide) (br_f (by decide) (br_f (by decide) (br_f (by decide) (br_f (by decide) (br_f (by decide) (br_f (by decide) (br_f (by decide) (br_f (by decide) (br_f (by decide) (br_t (by decide) (H)))))))))))))))
  · exact br_t (by decide) (br_f (by decide) (br_f (by decide) (br_f (by decide) (br_f (by decide) (br_f (by decide) (br_f (by decide) (br_f (by decide) (br_f (by decide) (br_f (by decide) (br_f (by decide) (br_f (by decide) (br_f (by decide) (br_f (by decide) (br_f (by decide) (br_t (by decide) (H))))))))))))))))
  · exact br_t (by decide) (br_f (by decide) (br_f (by decide) (br_f (by decide) (br_f (by decide) (br_f (by decide) (br_f (by decide) (br_f (by decide) (br_f (by decide) (br_f (by decide) (br_f (by decide) (br_f (by decide) (br_f (by decide) (br_f (by decide) (br_f (by decide) (br_f (by decide) (br_t (by decide) (H)))))))))))))))))
  · exact br_t (by decide) (br_f (by decide) (br_f (by decide) (br_f (by decide) (br_f (by decide) (br_f (by decide) (br_f (by decide) (br_f (by decide) (br_f (by decide) (br_f (by decide) (br_f (by decide) (br_f (by decide) (br_f (by decide) (br_f (by decide) (br_f (by decide) (br_f (by decide) (br_f (by decide) (br_t (by decide) (H))))))))))))))))))
  · exact br_t (by decide) (br_f (by decide) (br_f (by decide) (br_f (by decide) (br_f (by decide) (br_f (by decide) (br_f (by decide) (br_f (by decide) (br_f (by decide) (br_f (by decide) (br_f (by decide) (br_f (by decide) (br_f (by decide) (br_f (by decide) (br_f (by decide) (br_f (by decide) (br_f (by decide) (br_f (by decide) (br_t (by decide) (br_f (fun z => h0 ⟨z, by decide⟩) ⟨fun z => h0 ⟨z, by decide⟩, H⟩)))))))))))))))))))
  · exact br_t (by decide) (br_f (by decide) (br_f (by decide) (br_f (by decide) (br_f (by decide) (br_f (by decide) (br_f (by decide) (br_f (by decide) (br_f (by decide) (br_f (by decide) (br_f (by decide) (br_f (by decide) (br_f (by decide) (br_f (by decide) (br_f (by decide) (br_f (by decide) (br_f (by decide) (br_f (by decide) (br_f (by decide) (br_t (by decide) (br_f (fun z => h0 ⟨z, by decide⟩) ⟨fun z => h0 ⟨z, by decide⟩, H⟩))))))))))))))))))))
theorem zz_bin {post : SX → Prop} {f_tokenCount f_planCount f_next f_wrongToken f_looseJump f_latestPlace f_openLoopCount f_codeCount f_labelCount f_functionCount f_registerCount f_activeCalls f_stackCount f_nextCode f_running f_ending f_endingPlace f_resultValue f_ticksUsed f_printedCount : Int32} {a_tokenKind a_tokenValue a_planKind a_planValue a_planPlace a_argumentCount a_openLoop a_codeKind a_codeValue a_codePlace a_labelTarget a_functionStart a_functionParameters a_register a_frame a_returnTo a_stack a_element a_outputValue : Nat → Int32} {pc : Nat} (hpc : f_nextCode = nI pc) (hp : pc < 360) {vs : List Int32} {x y : Int32} {k : Nat} (hk : a_codeKind pc = nI k) (hk1 : 15 ≤ k) (hk2 : k ≤ 31) (hc : f_stackCount = nI (y :: x :: vs).length) (hl : vs.length + 1 < 960) (hv : zp_V a_stack (y :: x :: vs))
    (H1 : y = 0 ∧ 30 ≤ k → post (f_tokenCount, f_planCount, f_next, f_wrongToken, f_looseJump, f_latestPlace, f_openLoopCount, f_codeCount, f_labelCount, f_functionCount, f_registerCount, f_activeCalls, nI vs.length, nI (pc + 1), 0, 1, a_codePlace pc, f_resultValue, f_ticksUsed, f_printedCount, a_tokenKind, a_tokenValue, a_planKind, a_planValue, a_planPlace, a_argumentCount, a_openLoop, a_codeKind, a_codeValue, a_codePlace, a_labelTarget, a_functionStart, a_functionParameters, a_register, a_frame, a_returnTo, a_stack, a_element, a_outputValue))
    (H2 : ¬ (y = 0 ∧ 30 ≤ k) → ∀ st, zp_V st (zv_b k x y :: vs) → post (f_tokenCount, f_planCount, f_next, f_wrongToken, f_looseJump, f_latestPlace, f_openLoopCount, f_codeCount, f_labelCount, f_functionCount, f_registerCount, f_activeCalls, nI (zv_b k x y :: vs).length, nI (pc + 1), f_running, f_ending, f_endingPlace, f_resultValue, f_ticksUsed, f_printedCount, a_tokenKind, a_tokenValue, a_planKind, a_planValue, a_planPlace, a_argumentCount, a_openLoop, a_codeKind, a_codeValue, a_codePlace, a_labelTarget, a_functionStart, a_functionParameters, a_register, a_frame, a_returnTo, st, a_element, a_outputValue)) : wpX_executeNext post (f_tokenCount, f_planCount, f_next, f_wrongToken, f_looseJump, f_latestPlace, f_openLoopCount, f_codeCount, f_labelCount, f_functionCount, f_registerCount, f_activeCalls, f_stackCount, f_nextCode, f_running, f_ending, f_endingPlace, f_resultValue, f_ticksUsed, f_printedCount, a_tokenKind, a_tokenValue, a_planKind, a_planValue, a_planPlace, a_argumentCount, a_openLoop, a_codeKind, a_codeValue, a_codePlace, a_labelTarget, a_functionStart, a_functionParameters, a_register, a_frame, a_returnTo, a_stack, a_element, a_outputValue) := by
  refine ze_bin hpc hp hk hk1 hk2 ?_
  unfold wpX_combineTop
  refine zm_pop hc hl hv ?_
  refine zm_pop rfl (by omega) hv.2 ?_
  have fin : ¬ (y = 0 ∧ 30 ≤ k) → wX_combineTop_34 post (nI k) y x f_tokenCount f_planCount f_next f_wrongToken f_looseJump f_latestPlace f_openLoopCount f_codeCount f_labelCount f_functionCount f_registerCount f_activeCalls (nI vs.length) (nI (pc + 1)) f_running f_ending f_endingPlace f_resultValue f_ticksUsed f_printedCount a_tokenKind a_tokenValue a_planKind a_planValue a_planPlace a_argumentCount a_openLoop a_codeKind a_codeValue a_codePlace a_labelTarget a_functionStart a_functionParameters a_register a_frame a_returnTo a_stack a_element a_outputValue := fun h => zx_34 hk1 hk2 h (zm_push rfl (by omega) hv.2.2 (H2 h))
  refine br_c (fun z => pk_eq k 30 (fun e => H1 ⟨z, by omega⟩) (fun e => pk_eq k 31 (fun e' => H1 ⟨z, by omega⟩) (fun e' => fin (by omega)))) (fun z => fin (fun w => z w.1))
theorem ym_55 {post : SY → Prop} {f_count f_place f_length f_functions f_loaded f_loops f_outside f_tt f_vt f_pos f_bad f_checking f_live f_pending f_carry f_active f_ticks f_status f_result f_endedAt f_used f_printed : Int32} {a_kind a_value a_code a_number a_given a_begins a_params a_todo a_val a_vars a_output a_memory : Nat → Int32} {k h : Nat} {x y : Int32} (hk1 : 15 ≤ k) (hk2 : k ≤ 31) (h0 : ¬ (y = 0 ∧ 30 ≤ k)) (hv : f_vt = nI (h + 1)) (hh : h < 600) (H : post (f_count, f_place, f_length, f_functions, f_loaded, f_loops, f_outside, f_tt, f_vt, f_pos, f_bad, f_checking, f_live, f_pending, f_carry, f_active, f_ticks, f_status, f_result, f_endedAt, f_used, f_printed, a_kind, a_value, a_code, a_number, a_given, a_begins, a_params, a_todo, upd a_val h (zv_b k x y), a_vars, a_output, a_memory)) : wY_compute_55 post y x (nI k) f_count f_place f_length f_functions f_loaded f_loops f_outside f_tt f_vt f_pos f_bad f_checking f_live f_pending f_carry f_active f_ticks f_status f_result f_endedAt f_used f_printed a_kind a_value a_code a_number a_given a_begins a_params a_todo a_val a_vars a_output a_memory := by
  have hk : k = 15 ∨ k = 16 ∨ k = 17 ∨ k = 18 ∨ k = 19 ∨ k = 20 ∨ k = 21 ∨ k = 22 ∨ k = 23 ∨ k = 24 ∨ k = 25 ∨ k = 26 ∨ k = 27 ∨ k = 28 ∨ k = 29 ∨ k = 30 ∨ k = 31 := by omega
  unfold wY_compute_55
  have e1 : f_vt - 1 = nI h := by rw [hv]; exact nI_pred h
  have K : ∀ r, r = zv_b k x y → vp_in (f_vt - 1) 600 ∧ ∀ a : Nat → Int32, a = upd a_val (f_vt - 1).toNatClampNeg r → post (f_count, f_place, f_length, f_functions, f_loaded, f_loops, f_outside, f_tt, f_vt, f_pos, f_bad, f_checking, f_live, f_pending, f_carry, f_active, f_ticks, f_status, f_result, f_endedAt, f_used, f_printed, a_kind, a_value, a_code, a_number, a_given, a_begins, a_params, a_todo, a, a_vars, a_output, a_memory) := by
    intro r hr
    rw [e1, nI_clamp (by omega), hr]
    exact ⟨vp_in_nI hh (by decide), nm_e H⟩
  rcases hk with h | h | h | h | h | h | h | h | h | h | h | h | h | h | h | h | h <;> subst h
  · exact br_f (by decide) (br_f (by decide) (br_f (by decide) (br_t (by decide) (K _ rfl))))
  · exact br_f (by decide) (br_f (by decide) (br_f (by decide) (br_f (by decide) (br_t (by decide) (K _ rfl)))))
  · exact br_f (by decide) (br_f (by decide) (br_f (by decide) (br_f (by decide) (br_f (by decide) (br_t (by decide) (K _ rfl))))))
  · exact br_f (by decide) (br_f (by decide) (br_f (by decide) (br_f (by decide) (br_f (by decide) (br_f (by decide) (br_t (by decide) (br_c (fun z => K _ (if_pos z).symm) (fun z => K _ (if_neg z).symm))))))))
  · exact br_f (by decide) (br_f (by decide) (br_f (by decide) (br_f (by decide) (br_f (by decide) (br_f (by decide) (br_f (by decide) (br_t (by decide) (br_c (fun z => K _ (if_pos z).symm) (fun z => K _ (if_neg z).symm)))))))))
  · exact br_f (by decide) (br_f (by decide) (br_f (by decide) (br_f (by decide) (br_f (by decide) (br_f (by decide) (br_f (by decide) (br_f (by decide) (br_t (by decide) (br_c (fun z => K _ (if_pos z).symm) (fun z => K _ (if_neg z).symm))))))))))
  · exact br_f (by decide) (br_f (by decide) (br_f (by decide) (br_f (by decide) (br_f (by decide) (br_f (by decide) (br_f (by decide) (br_f (by decide) (br_f (by decide) (br_t (by decide) (br_c (fun z => K _ (if_pos z).symm) (fun z => K _ (if_neg z).symm)))))))))))
  · exact br_f (by decide) (br_f (by decide) (br_f (by decide) (br_f (by decide) (br_f (by decide) (br_f (by decide) (br_f (by decide) (br_f (by decide) (br_f (by decide) (br_f (by decide) (br_t (by decide) (br_c (fun z => K _ (if_pos z).symm) (fun z => K _ (if_neg z).symm))))))))))))
  · exact br_f (by decide) (br_f (by decide) (br_t (by decide) (br_c (fun z => K _ (if_pos z).symm) (fun z => K _ (if_neg z).symm))))
  · exact br_t (by decide) (br_f (by decide) (br_f (by decide) (br_t (by decide) (K _ rfl))))
  · exact br_t (by decide) (br_f (by decide) (br_f (by decide) (br_f (by decide) (br_t (by decide) (K _ rfl)))))
  · exact br_t (by decide) (br_f (by decide) (br_f (by decide) (br_f (by decide) (br_f (by decide) (br_t (by decide) (K _ rfl))))))
  · exact br_t (by decide) (br_f (by decide) (br_f (by decide) (br_f (by decide) (br_f (by decide) (br_f (by decide) (br_t (by decide) (K _ rfl)))))))
  · exact br_t (by decide) (br_f (by decide) (br_f (by decide) (br_f (by decide) (br_f (by decide) (br_f (by decide) (br_f (by decide) (br_t (by decide) (K _ rfl))))))))
  · exact br_t (by decide) (br_f (by decide) (br_f (by decide) (br_f (by decide) (br_f (by decide) (br_f (by decide) (br_f (by decide) (br_f (by decide) (br_t (by decide) (K _ rfl)))))))))
  · exact br_t (by decide) (br_f (by decide) (br_f (by decide) (br_f (by decide) (br_f (by decide) (br_f (by decide) (br_f (by decide) (br_f (by decide) (br_f (by decide) (br_t (by decide) (br_f (fun z => h0 ⟨z, by decide⟩) ⟨fun z => h0 ⟨z, by decide⟩, K _ rfl⟩))))))))))
  · exact br_t (by decide) (br_f (by decide) (br_t (by decide) (br_f (fun z => h0 ⟨z, by decide⟩) ⟨fun z => h0 ⟨z, by decide⟩, K _ rfl⟩)))
end
section
/-! Y, live -/
def yR (post : SY → Prop) (W : SY) (g a : Nat) (vs : List Int32) (p t pr : Nat) (T : List Nat) (vr mem out : Nat → Int32) : Prop :=
  ∀ td va ca, yp_Td td T → zp_V va vs → yL post g (W.1, W.2.1, W.2.2.1, W.2.2.2.1, W.2.2.2.2.1, W.2.2.2.2.2.1, W.2.2.2.2.2.2.1, nI T.length, nI vs.length, nI p, 0, W.2.2.2.2.2.2.2.2.2.2.2.1, 1, 0, ca, nI a, nI t, 0, W.2.2.2.2.2.2.2.2.2.2.2.2.2.2.2.2.2.2.1, -1, W.2.2.2.2.2.2.2.2.2.2.2.2.2.2.2.2.2.2.2.2.1, nI pr, W.2.2.2.2.2.2.2.2.2.2.2.2.2.2.2.2.2.2.2.2.2.2.1, W.2.2.2.2.2.2.2.2.2.2.2.2.2.2.2.2.2.2.2.2.2.2.2.1, W.2.2.2.2.2.2.2.2.2.2.2.2.2.2.2.2.2.2.2.2.2.2.2.2.1, W.2.2.2.2.2.2.2.2.2.2.2.2.2.2.2.2.2.2.2.2.2.2.2.2.2.1, W.2.2.2.2.2.2.2.2.2.2.2.2.2.2.2.2.2.2.2.2.2.2.2.2.2.2.1, W.2.2.2.2.2.2.2.2.2.2.2.2.2.2.2.2.2.2.2.2.2.2.2.2.2.2.2.1, W.2.2.2.2.2.2.2.2.2.2.2.2.2.2.2.2.2.2.2.2.2.2.2.2.2.2.2.2.1, td, va, vr, out, mem)
def ySt (post : SY → Prop) (W : SY) (g a : Nat) (vs : List Int32) (p t pr : Nat) (T : List Nat) (vr mem out : Nat → Int32) : Prop :=
  ∀ Q : SY → Prop, (∀ v, yL post (g + 1) v → Q v) → ∀ td va ca, yp_Td td T → zp_V va vs → wpY_statement Q (W.1, W.2.1, W.2.2.1, W.2.2.2.1, W.2.2.2.2.1, W.2.2.2.2.2.1, W.2.2.2.2.2.2.1, nI T.length, nI vs.length, nI p, 0, W.2.2.2.2.2.2.2.2.2.2.2.1, 1, 0, ca, nI a, nI t, 0, W.2.2.2.2.2.2.2.2.2.2.2.2.2.2.2.2.2.2.1, -1, W.2.2.2.2.2.2.2.2.2.2.2.2.2.2.2.2.2.2.2.2.1, nI pr, W.2.2.2.2.2.2.2.2.2.2.2.2.2.2.2.2.2.2.2.2.2.2.1, W.2.2.2.2.2.2.2.2.2.2.2.2.2.2.2.2.2.2.2.2.2.2.2.1, W.2.2.2.2.2.2.2.2.2.2.2.2.2.2.2.2.2.2.2.2.2.2.2.2.1, W.2.2.2.2.2.2.2.2.2.2.2.2.2.2.2.2.2.2.2.2.2.2.2.2.2.1, W.2.2.2.2.2.2.2.2.2.2.2.2.2.2.2.2.2.2.2.2.2.2.2.2.2.2.1, W.2.2.2.2.2.2.2.2.2.2.2.2.2.2.2.2.2.2.2.2.2.2.2.2.2.2.2.1, W.2.2.2.2.2.2.2.2.2.2.2.2.2.2.2.2.2.2.2.2.2.2.2.2.2.2.2.2.1, td, va, vr, out, mem)
def yUn (post : SY → Prop) (W : SY) (g a : Nat) (vs : List Int32) (p t pr : Nat) (T : List Nat) (vr mem out : Nat → Int32) : Prop :=
  ∀ Q : SY → Prop, (∀ v, yL post (g + 1) v → Q v) → ∀ td va ca, yp_Td td T → zp_V va vs → wpY_unary Q (W.1, W.2.1, W.2.2.1, W.2.2.2.1, W.2.2.2.2.1, W.2.2.2.2.2.1, W.2.2.2.2.2.2.1, nI T.length, nI vs.length, nI p, 0, W.2.2.2.2.2.2.2.2.2.2.2.1, 1, 0, ca, nI a, nI t, 0, W.2.2.2.2.2.2.2.2.2.2.2.2.2.2.2.2.2.2.1, -1, W.2.2.2.2.2.2.2.2.2.2.2.2.2.2.2.2.2.2.2.2.1, nI pr, W.2.2.2.2.2.2.2.2.2.2.2.2.2.2.2.2.2.2.2.2.2.2.1, W.2.2.2.2.2.2.2.2.2.2.2.2.2.2.2.2.2.2.2.2.2.2.2.1, W.2.2.2.2.2.2.2.2.2.2.2.2.2.2.2.2.2.2.2.2.2.2.2.2.1, W.2.2.2.2.2.2.2.2.2.2.2.2.2.2.2.2.2.2.2.2.2.2.2.2.2.1, W.2.2.2.2.2.2.2.2.2.2.2.2.2.2.2.2.2.2.2.2.2.2.2.2.2.2.1, W.2.2.2.2.2.2.2.2.2.2.2.2.2.2.2.2.2.2.2.2.2.2.2.2.2.2.2.1, W.2.2.2.2.2.2.2.2.2.2.2.2.2.2.2.2.2.2.2.2.2.2.2.2.2.2.2.2.1, td, va, vr, out, mem)
def wD (W : SY) (h : Nat) (pd ca : Int32) (a t pr : Nat) (va vr mem out : Nat → Int32) : SY := (W.1, W.2.1, W.2.2.1, W.2.2.2.1, W.2.2.2.2.1, W.2.2.2.2.2.1, W.2.2.2.2.2.2.1, W.2.2.2.2.2.2.2.1, nI h, W.2.2.2.2.2.2.2.2.2.1, W.2.2.2.2.2.2.2.2.2.2.1, W.2.2.2.2.2.2.2.2.2.2.2.1, W.2.2.2.2.2.2.2.2.2.2.2.2.1, pd, ca, nI a, nI t, W.2.2.2.2.2.2.2.2.2.2.2.2.2.2.2.2.2.1, W.2.2.2.2.2.2.2.2.2.2.2.2.2.2.2.2.2.2.1, -1, W.2.2.2.2.2.2.2.2.2.2.2.2.2.2.2.2.2.2.2.2.1, nI pr, W.2.2.2.2.2.2.2.2.2.2.2.2.2.2.2.2.2.2.2.2.2.2.1, W.2.2.2.2.2.2.2.2.2.2.2.2.2.2.2.2.2.2.2.2.2.2.2.1, W.2.2.2.2.2.2.2.2.2.2.2.2.2.2.2.2.2.2.2.2.2.2.2.2.1, W.2.2.2.2.2.2.2.2.2.2.2.2.2.2.2.2.2.2.2.2.2.2.2.2.2.1, W.2.2.2.2.2.2.2.2.2.2.2.2.2.2.2.2.2.2.2.2.2.2.2.2.2.2.1, W.2.2.2.2.2.2.2.2.2.2.2.2.2.2.2.2.2.2.2.2.2.2.2.2.2.2.2.1, W.2.2.2.2.2.2.2.2.2.2.2.2.2.2.2.2.2.2.2.2.2.2.2.2.2.2.2.2.1, W.2.2.2.2.2.2.2.2.2.2.2.2.2.2.2.2.2.2.2.2.2.2.2.2.2.2.2.2.2.1, va, vr, out, mem)
def yA0 : gm_A := (fun _ => 0, fun _ => 0, fun _ => 0, fun _ => 0, fun _ => 0, fun _ => 0, fun _ => 0, fun _ => 0)
def yD (post : SY → Prop) (W : SY) (g p : Nat) (T : List Nat) (h : Nat) (pd ca : Int32) (a t pr : Nat) (va vr mem out : Nat → Int32) : Prop := yQ post (wD W h pd ca a t pr va vr mem out) false g p [] T 0 0 yA0
def yF (Q : SY → Prop) (W : SY) (how pl v : Int32) (t pr : Nat) (mem out : Nat → Int32) : Prop :=
  ∀ (tt vt pos bad live pe ca ac : Int32) (td va vr : Nat → Int32), (how = 0 → va 0 = v) → Q (W.1, W.2.1, W.2.2.1, W.2.2.2.1, W.2.2.2.2.1, W.2.2.2.2.2.1, W.2.2.2.2.2.2.1, tt, vt, pos, bad, W.2.2.2.2.2.2.2.2.2.2.2.1, live, pe, ca, ac, nI t, how, W.2.2.2.2.2.2.2.2.2.2.2.2.2.2.2.2.2.2.1, pl, W.2.2.2.2.2.2.2.2.2.2.2.2.2.2.2.2.2.2.2.2.1, nI pr, W.2.2.2.2.2.2.2.2.2.2.2.2.2.2.2.2.2.2.2.2.2.2.1, W.2.2.2.2.2.2.2.2.2.2.2.2.2.2.2.2.2.2.2.2.2.2.2.1, W.2.2.2.2.2.2.2.2.2.2.2.2.2.2.2.2.2.2.2.2.2.2.2.2.1, W.2.2.2.2.2.2.2.2.2.2.2.2.2.2.2.2.2.2.2.2.2.2.2.2.2.1, W.2.2.2.2.2.2.2.2.2.2.2.2.2.2.2.2.2.2.2.2.2.2.2.2.2.2.1, W.2.2.2.2.2.2.2.2.2.2.2.2.2.2.2.2.2.2.2.2.2.2.2.2.2.2.2.1, W.2.2.2.2.2.2.2.2.2.2.2.2.2.2.2.2.2.2.2.2.2.2.2.2.2.2.2.2.1, td, va, vr, out, mem)
def yb (W : SY) (n : Nat) : Prop := W.2.2.1 = nI n ∧ n ≤ 120 ∧ gm_tok W.2.2.2.2.2.2.2.2.2.2.2.2.2.2.2.2.2.2.2.2.2.2.2.2.1 W.2.2.2.2.2.2.2.2.2.2.2.2.2.2.2.2.2.2.2.2.2.2.2.2.2.1 n ∧ W.2.2.2.2.2.2.2.2.2.2.2.1 = 0
theorem yb_h {W : SY} {n h a t pr : Nat} {pd ca : Int32} {va vr mem out : Nat → Int32} (hW : yb W n) (hh : h < 1024) : yh (wD W h pd ca a t pr va vr mem out) false n h :=
  ⟨hW.1, hW.2.1, rfl, hh, hW.2.2.1, fun z => (by cases z), fun _ => hW.2.2.2⟩
theorem yf_end {post : SY → Prop} {f_count f_place f_length f_functions f_loaded f_loops f_outside f_tt f_vt f_pos f_bad f_checking f_live f_pending f_carry f_active f_ticks f_status f_result f_endedAt f_used f_printed : Int32} {a_kind a_value a_code a_number a_given a_begins a_params a_todo a_val a_vars a_output a_memory : Nat → Int32} {g : Nat} (hg : g ≤ 400000) (hs : ¬ f_status = 0) (H : post (f_count, f_place, f_length, f_functions, f_loaded, f_loops, f_outside, f_tt, f_vt, f_pos, f_bad, f_checking, f_live, f_pending, f_carry, f_active, f_ticks, f_status, f_result, f_endedAt, f_used, f_printed, a_kind, a_value, a_code, a_number, a_given, a_begins, a_params, a_todo, a_val, a_vars, a_output, a_memory)) : yL post g (f_count, f_place, f_length, f_functions, f_loaded, f_loops, f_outside, f_tt, f_vt, f_pos, f_bad, f_checking, f_live, f_pending, f_carry, f_active, f_ticks, f_status, f_result, f_endedAt, f_used, f_printed, a_kind, a_value, a_code, a_number, a_given, a_begins, a_params, a_todo, a_val, a_vars, a_output, a_memory) := ye_end hg (Or.inr (Or.inr hs)) H
theorem nI_m1 {h : Nat} (hh : 0 < h) : nI h - 1 = nI (h - 1) := by
  obtain ⟨k, rfl⟩ : ∃ k, h = k + 1 := ⟨h - 1, by omega⟩
  exact nI_pred k
/-! statements -/
theorem yl_B9 {post : SY → Prop} {W : SY} {n g a p t pr : Nat} {vs : List Int32} {T : List Nat} {vr mem out : Nat → Int32} (hW : yb W n) (hg : g < 400000) (hp : p ≤ n) (hh : vs.length < 590) (hT : T.length + 10 < 1300) {e : Nat} (he : yp_e e 2) (h9 : gm_tk W.2.2.2.2.2.2.2.2.2.2.2.2.2.2.2.2.2.2.2.2.2.2.2.2.1 n p = 9) (H : yR post W (g + 1) a vs (p + 1) t pr T vr mem out) : yR post W g a vs p t pr (e :: T) vr mem out := by
  have hn := hW.2.1
  intro td va ca hd hv
  refine yi_s 2 0 (by decide) he (by omega) hg rfl (by omega) hd rfl rfl fun Q hQ => ?_
  refine br_f (by decide) (br_f (by decide) (br_f (by decide) (br_t (by decide) (?_))))
  refine ym_tok rfl hW.1 hW.2.1 (by omega) ?_
  exact br_t h9 (nm_r (nI_1 _) (hQ _ (H _ _ _ hd.2 hv)))
theorem yl_B {post : SY → Prop} {W : SY} {n g a p t pr : Nat} {vs : List Int32} {T : List Nat} {vr mem out : Nat → Int32} (hW : yb W n) (hg : g < 400000) (hp : p ≤ n) (hh : vs.length < 590) (hT : T.length + 10 < 1300) {e : Nat} (he : yp_e e 2) (h9 : ¬ gm_tk W.2.2.2.2.2.2.2.2.2.2.2.2.2.2.2.2.2.2.2.2.2.2.2.2.1 n p = 9) (H : ySt post W g a vs p t pr (yp_n 2 0 vs.length :: T) vr mem out) : yR post W g a vs p t pr (e :: T) vr mem out := by
  have hn := hW.2.1
  intro td va ca hd hv
  refine yi_s 2 0 (by decide) he (by omega) hg rfl (by omega) hd rfl rfl fun Q hQ => ?_
  refine br_f (by decide) (br_f (by decide) (br_f (by decide) (br_t (by decide) (?_))))
  refine ym_tok rfl hW.1 hW.2.1 (by omega) ?_
  refine br_f h9 ?_
  exact ym_then 2 0 (by decide) (by decide) rfl (by omega) rfl (by omega) hd.2 fun td hd => H Q hQ td va ca hd hv
theorem yl_S {post : SY → Prop} {W : SY} {n g a p t pr : Nat} {vs : List Int32} {T : List Nat} {vr mem out : Nat → Int32} (hW : yb W n) (hg : g < 400000) (hp : p ≤ n) (hh : vs.length < 590) (hT : T.length + 10 < 1300) {e : Nat} (he : yp_e e 3) (H : ySt post W g a vs p t pr T vr mem out) : yR post W g a vs p t pr (e :: T) vr mem out := by
  intro td va ca hd hv
  refine yi_s 3 0 (by decide) he (by omega) hg rfl (by omega) hd rfl rfl fun Q hQ => ?_
  exact br_f (by decide) (br_f (by decide) (br_f (by decide) (br_f (by decide) (br_t (by decide) (H Q hQ td va ca hd.2 hv)))))
theorem ys_8 {post : SY → Prop} {W : SY} {n g a p t pr : Nat} {vs : List Int32} {T : List Nat} {vr mem out : Nat → Int32} (hW : yb W n) (hg : g < 400000) (hp : p ≤ n) (hh : vs.length < 590) (hT : T.length + 10 < 1300) (h1 : gm_tk W.2.2.2.2.2.2.2.2.2.2.2.2.2.2.2.2.2.2.2.2.2.2.2.2.1 n p = 8) (H : yR post W (g + 1) a vs (p + 1) t pr (yp_n 2 0 vs.length :: T) vr mem out) : ySt post W g a vs p t pr T vr mem out := by
  have hn := hW.2.1
  intro Q hQ td va ca hd hv
  exact ym_st8 rfl hW.1 hW.2.1 (by omega) rfl rfl (by omega) rfl hd (by omega) h1 fun td hd => hQ _ (H _ _ _ hd hv)
theorem ys_1 {post : SY → Prop} {W : SY} {n g a p t pr : Nat} {vs : List Int32} {T : List Nat} {vr mem out : Nat → Int32} (hW : yb W n) (hg : g < 400000) (hp : p ≤ n) (hh : vs.length < 590) (hT : T.length + 10 < 1300) {u : Nat} (h1 : gm_tk W.2.2.2.2.2.2.2.2.2.2.2.2.2.2.2.2.2.2.2.2.2.2.2.2.1 n p = 1) (h2 : gm_tk W.2.2.2.2.2.2.2.2.2.2.2.2.2.2.2.2.2.2.2.2.2.2.2.2.1 n (p + 1) = 12) (hu : W.2.2.2.2.2.2.2.2.2.2.2.2.2.2.2.2.2.2.2.2.2.2.2.2.2.1 p = nI u) (hu' : u ≤ 5) (H : yR post W (g + 1) a vs (p + 2) t pr (yp_n 16 0 vs.length :: yp_n 13 u vs.length :: yp_n 4 10 vs.length :: T) vr mem out) : ySt post W g a vs p t pr T vr mem out := by
  have hn := hW.2.1
  intro Q hQ td va ca hd hv
  exact ym_st1 rfl hW.1 hW.2.1 (by omega) rfl rfl (by omega) rfl hd (by omega) h1 (gm_tk_lt h1 (by decide)) hu hu' (fun _ td hd => hQ _ (H _ _ _ hd hv)) (fun z => absurd h2 z)
theorem ys_2 {post : SY → Prop} {W : SY} {n g a p t pr : Nat} {vs : List Int32} {T : List Nat} {vr mem out : Nat → Int32} (hW : yb W n) (hg : g < 400000) (hp : p ≤ n) (hh : vs.length < 590) (hT : T.length + 10 < 1300) (h1 : gm_tk W.2.2.2.2.2.2.2.2.2.2.2.2.2.2.2.2.2.2.2.2.2.2.2.2.1 n p = 2) (h2 : gm_tk W.2.2.2.2.2.2.2.2.2.2.2.2.2.2.2.2.2.2.2.2.2.2.2.2.1 n (p + 1) = 4) (H : yR post W (g + 1) a vs (p + 2) t pr (yp_n 23 p vs.length :: yp_n 25 p vs.length :: yp_n 15 0 vs.length :: yp_n 4 10 vs.length :: T) vr mem out) : ySt post W g a vs p t pr T vr mem out := by
  have hn := hW.2.1
  intro Q hQ td va ca hd hv
  exact ym_st2 rfl hW.1 hW.2.1 (by omega) rfl rfl (by omega) rfl hd (by omega) h1 (gm_tk_lt h1 (by decide)) (fun _ td hd => hQ _ (H _ _ _ hd hv)) (fun z => absurd h2 z)
theorem ys_3 {post : SY → Prop} {W : SY} {n g a p t pr : Nat} {vs : List Int32} {T : List Nat} {vr mem out : Nat → Int32} (hW : yb W n) (hg : g < 400000) (hp : p ≤ n) (hh : vs.length < 590) (hT : T.length + 10 < 1300) (h1 : gm_tk W.2.2.2.2.2.2.2.2.2.2.2.2.2.2.2.2.2.2.2.2.2.2.2.2.1 n p = 3) (h2 : gm_tk W.2.2.2.2.2.2.2.2.2.2.2.2.2.2.2.2.2.2.2.2.2.2.2.2.1 n (p + 1) = 6) (H : yR post W (g + 1) a vs (p + 2) t pr (yp_n 16 0 vs.length :: yp_n 4 7 vs.length :: yp_n 4 12 vs.length :: yp_n 16 0 vs.length :: yp_n 14 p vs.length :: yp_n 4 10 vs.length :: T) vr mem out) : ySt post W g a vs p t pr T vr mem out := by
  have hn := hW.2.1
  intro Q hQ td va ca hd hv
  exact ym_st3 rfl hW.1 hW.2.1 (by omega) rfl rfl (by omega) rfl hd (by omega) h1 (gm_tk_lt h1 (by decide)) (fun _ td hd => hQ _ (H _ _ _ hd hv)) (fun z => absurd h2 z)
theorem ys_34 {post : SY → Prop} {W : SY} {n g a p t pr : Nat} {vs : List Int32} {T : List Nat} {vr mem out : Nat → Int32} (hW : yb W n) (hg : g < 400000) (hp : p ≤ n) (hh : vs.length < 590) (hT : T.length + 10 < 1300) (h1 : gm_tk W.2.2.2.2.2.2.2.2.2.2.2.2.2.2.2.2.2.2.2.2.2.2.2.2.1 n p = 34) (h2 : gm_tk W.2.2.2.2.2.2.2.2.2.2.2.2.2.2.2.2.2.2.2.2.2.2.2.2.1 n (p + 1) = 4) (H : yR post W (g + 1) a vs (p + 2) t pr (yp_n 16 0 vs.length :: yp_n 4 5 vs.length :: yp_n 6 0 vs.length :: T) vr mem out) : ySt post W g a vs p t pr T vr mem out := by
  have hn := hW.2.1
  intro Q hQ td va ca hd hv
  exact ym_st34 rfl hW.1 hW.2.1 (by omega) rfl rfl (by omega) rfl hd (by omega) h1 (gm_tk_lt h1 (by decide)) (fun _ td hd => hQ _ (H _ _ _ hd hv)) (fun z => absurd h2 z)
theorem ys_39 {post : SY → Prop} {W : SY} {n g a p t pr : Nat} {vs : List Int32} {T : List Nat} {vr mem out : Nat → Int32} (hW : yb W n) (hg : g < 400000) (hp : p ≤ n) (hh : vs.length < 590) (hT : T.length + 10 < 1300) {d e : Nat} (hdd : d = 39 ∧ e = 11 ∨ d = 40 ∧ e = 12) (h1 : gm_tk W.2.2.2.2.2.2.2.2.2.2.2.2.2.2.2.2.2.2.2.2.2.2.2.2.1 n p = nI d) (H : yR post W (g + 1) a vs (p + 1) t pr (yp_n 16 0 vs.length :: yp_n e 0 vs.length :: yp_n 4 10 vs.length :: T) vr mem out) : ySt post W g a vs p t pr T vr mem out := by
  have hn := hW.2.1
  intro Q hQ td va ca hd hv
  exact ym_st39 rfl hW.1 hW.2.1 (by omega) rfl rfl (by omega) rfl hd hdd (by omega) h1 (gm_tk_lt' h1 (by omega)) fun td hd => hQ _ (H _ _ _ hd hv)
theorem ym_tick {post : Int32 → SY → Prop} {f_count f_place f_length f_functions f_loaded f_loops f_outside f_tt f_vt f_pos f_bad f_checking f_live f_pending f_carry f_active f_ticks f_status f_result f_endedAt f_used f_printed : Int32} {a_kind a_value a_code a_number a_given a_begins a_params a_todo a_val a_vars a_output a_memory : Nat → Int32} {t : Nat} {x : Int32} (ht : f_ticks = nI t) (ht' : t ≤ 120) (H1 : 0 < t → post 1 (f_count, f_place, f_length, f_functions, f_loaded, f_loops, f_outside, f_tt, f_vt, f_pos, f_bad, f_checking, f_live, f_pending, f_carry, f_active, nI (t - 1), f_status, f_result, f_endedAt, f_used, f_printed, a_kind, a_value, a_code, a_number, a_given, a_begins, a_params, a_todo, a_val, a_vars, a_output, a_memory)) (H2 : t = 0 → post 0 (f_count, f_place, f_length, f_functions, f_loaded, f_loops, f_outside, f_tt, f_vt, f_pos, f_bad, f_checking, f_live, f_pending, f_carry, f_active, f_ticks, 4, f_result, x, f_used, f_printed, a_kind, a_value, a_code, a_number, a_given, a_begins, a_params, a_todo, a_val, a_vars, a_output, a_memory)) : wpY_tick post (f_count, f_place, f_length, f_functions, f_loaded, f_loops, f_outside, f_tt, f_vt, f_pos, f_bad, f_checking, f_live, f_pending, f_carry, f_active, f_ticks, f_status, f_result, f_endedAt, f_used, f_printed, a_kind, a_value, a_code, a_number, a_given, a_begins, a_params, a_todo, a_val, a_vars, a_output, a_memory) x := by
  subst ht
  refine pk_eq t 0 (fun z => H2 z) (fun z => nm_r (nI_m1 (by omega)) (H1 (by omega)))
theorem ym_loopL {post : SY → Prop} {f_count f_place f_length f_functions f_loaded f_loops f_outside f_tt f_vt f_pos f_bad f_checking f_live f_pending f_carry f_active f_ticks f_status f_result f_endedAt f_used f_printed : Int32} {a_kind a_value a_code a_number a_given a_begins a_params a_todo a_val a_vars a_output a_memory : Nat → Int32} {h q t : Nat} {x : Int32} {T : List Nat} (hli : ¬ f_live = 0) (hq : x = nI q) (hq2 : 2 ≤ q) (hq' : q < 1024) (ht : f_ticks = nI t) (ht' : t ≤ 120) (hv : f_vt = nI h) (hh : h < 1024) (htt : f_tt = nI T.length) (hd : yp_Td a_todo T) (hl : T.length + 4 < 1300)
    (H1 : 0 < t → ∀ td, yp_Td td (yp_n 16 0 h :: yp_n 4 5 h :: yp_n 8 q h :: T) → post (f_count, f_place, f_length, f_functions, f_loaded, f_loops, f_outside, nI (yp_n 16 0 h :: yp_n 4 5 h :: yp_n 8 q h :: T).length, f_vt, nI q, f_bad, f_checking, f_live, f_pending, f_carry, f_active, nI (t - 1), f_status, f_result, f_endedAt, f_used, f_printed, a_kind, a_value, a_code, a_number, a_given, a_begins, a_params, td, a_val, a_vars, a_output, a_memory)) (H2 : t = 0 → post (f_count, f_place, f_length, f_functions, f_loaded, f_loops, f_outside, f_tt, f_vt, f_pos, f_bad, f_checking, f_live, f_pending, f_carry, f_active, f_ticks, 4, f_result, nI (q - 2), f_used, f_printed, a_kind, a_value, a_code, a_number, a_given, a_begins, a_params, a_todo, a_val, a_vars, a_output, a_memory)) : wpY_loop post (f_count, f_place, f_length, f_functions, f_loaded, f_loops, f_outside, f_tt, f_vt, f_pos, f_bad, f_checking, f_live, f_pending, f_carry, f_active, f_ticks, f_status, f_result, f_endedAt, f_used, f_printed, a_kind, a_value, a_code, a_number, a_given, a_begins, a_params, a_todo, a_val, a_vars, a_output, a_memory) x := by
  subst hq
  unfold wpY_loop
  refine br_f hli ?_
  rw [show nI q - 2 = nI (q - 2) from pk_sub (b := 2) hq2]
  refine ym_tick ht ht' (fun z => br_f (by decide) (ym_loop18 rfl hq' hv hh htt hd hl (H1 z))) (fun z => br_t rfl (H2 z))
theorem ys_36 {post : SY → Prop} {W : SY} {n g a p t pr : Nat} {vs : List Int32} {T : List Nat} {vr mem out : Nat → Int32} (hW : yb W n) (hg : g < 400000) (hp : p ≤ n) (hh : vs.length < 590) (hT : T.length + 10 < 1300) (ht : t ≤ 120) (h1 : gm_tk W.2.2.2.2.2.2.2.2.2.2.2.2.2.2.2.2.2.2.2.2.2.2.2.2.1 n p = 36) (h2 : gm_tk W.2.2.2.2.2.2.2.2.2.2.2.2.2.2.2.2.2.2.2.2.2.2.2.2.1 n (p + 1) = 4) (H1 : 0 < t → yR post W (g + 1) a vs (p + 2) (t - 1) pr (yp_n 16 0 vs.length :: yp_n 4 5 vs.length :: yp_n 8 (p + 2) vs.length :: T) vr mem out) (H2 : t = 0 → yF post W 4 (nI p) 0 t pr mem out) : ySt post W g a vs p t pr T vr mem out := by
  have hn := hW.2.1
  intro Q hQ td va ca hd hv
  have hq := gm_tk_lt h1 (by decide)
  unfold wpY_statement
  refine ym_tok rfl hW.1 hW.2.1 (by omega) ?_
  rw [h1]
  refine nm_r (nI_1 _) (br_f (by decide) (br_f (by decide) (br_f (by decide) (br_f (by decide) (br_f (by decide) (br_f (by decide) (br_f (by decide) (br_f (by decide) (br_f (by decide) (br_f (by decide) (br_f (by decide) (br_f (by decide) (br_f (by decide) (br_f (by decide) (br_f (by decide) (br_f (by decide) (br_f (by decide) (br_f (by decide) (br_f (by decide) (br_f (by decide) (br_f (by decide) (br_f (by decide) (br_f (by decide) (br_f (by decide) (br_f (by decide) (br_f (by decide) (br_f (by decide) (br_f (by decide) (br_f (by decide) (br_f (by decide) (br_f (by decide) (br_f (by decide) (br_f (by decide) (br_f (by decide) (br_f (by decide) (br_f (by decide) (br_f (by decide) (br_t (by decide) (?_)))))))))))))))))))))))))))))))))))))))
  refine ym_take 4 rfl hW.1 hW.2.1 (by omega) rfl (fun _ => br_f (by decide) ?_) (fun z => absurd h2 z)
  exact ym_loopL (by decide) rfl (by omega) (by omega) rfl ht rfl (by omega) rfl hd (by omega) (fun z td hd => hQ _ (H1 z _ _ _ hd hv)) (fun z => hQ _ (yf_end (by omega) (by decide) (H2 z _ _ _ _ _ _ _ _ _ _ _ (fun w => absurd w (by decide)))))
theorem ys_37 {post : SY → Prop} {W : SY} {n g a p t pr : Nat} {vs : List Int32} {T : List Nat} {vr mem out : Nat → Int32} (hW : yb W n) (hg : g < 400000) (hp : p ≤ n) (hh : vs.length < 590) (hT : T.length + 10 < 1300) {d : Nat} (hdd : d = 37 ∨ d = 38) (h1 : gm_tk W.2.2.2.2.2.2.2.2.2.2.2.2.2.2.2.2.2.2.2.2.2.2.2.2.1 n p = nI d) (H : ∀ va, zp_V va vs → yD post W (g + 1) (p + 1) (yp_n 4 10 vs.length :: T) vs.length (nI (d - 36)) 0 a t pr va vr mem out) : ySt post W g a vs p t pr T vr mem out := by
  have hn := hW.2.1
  intro Q hQ td va ca hd hv
  have hq := gm_tk_lt' h1 (by omega)
  unfold wpY_statement
  refine ym_tok rfl hW.1 hW.2.1 (by omega) ?_
  rw [h1]
  rcases hdd with rfl | rfl
  · refine nm_r (nI_1 _) (br_f (by decide) (br_f (by decide) (br_f (by decide) (br_f (by decide) (br_f (by decide) (br_f (by decide) (br_f (by decide) (br_f (by decide) (br_f (by decide) (br_f (by decide) (br_f (by decide) (br_f (by decide) (br_f (by decide) (br_f (by decide) (br_f (by decide) (br_f (by decide) (br_f (by decide) (br_f (by decide) (br_f (by decide) (br_f (by decide) (br_f (by decide) (br_f (by decide) (br_f (by decide) (br_f (by decide) (br_f (by decide) (br_f (by decide) (br_f (by decide) (br_f (by decide) (br_f (by decide) (br_f (by decide) (br_f (by decide) (br_f (by decide) (br_f (by decide) (br_f (by decide) (br_f (by decide) (br_f (by decide) (br_f (by decide) (br_f (by decide) (br_t (by decide) (?_))))))))))))))))))))))))))))))))))))))))
    refine br_t hW.2.2.2 (br_f (by decide) ?_)
    exact ym_then 4 10 (by decide) (by decide) rfl (by omega) rfl (by omega) hd fun td hd => hQ _ (H va hv td hd)
  · refine nm_r (nI_1 _) (br_f (by decide) (br_f (by decide) (br_f (by decide) (br_f (by decide) (br_f (by decide) (br_f (by decide) (br_f (by decide) (br_f (by decide) (br_f (by decide) (br_f (by decide) (br_f (by decide) (br_f (by decide) (br_f (by decide) (br_f (by decide) (br_f (by decide) (br_f (by decide) (br_f (by decide) (br_f (by decide) (br_f (by decide) (br_f (by decide) (br_f (by decide) (br_f (by decide) (br_f (by decide) (br_f (by decide) (br_f (by decide) (br_f (by decide) (br_f (by decide) (br_f (by decide) (br_f (by decide) (br_f (by decide) (br_f (by decide) (br_f (by decide) (br_f (by decide) (br_f (by decide) (br_f (by decide) (br_f (by decide) (br_f (by decide) (br_f (by decide) (br_f (by decide) (br_t (by decide) (?_)))))))))))))))))))))))))))))))))))))))))
    refine br_t hW.2.2.2 (br_f (by decide) ?_)
    exact ym_then 4 10 (by decide) (by decide) rfl (by omega) rfl (by omega) hd fun td hd => hQ _ (H va hv td hd)
/-! statement parts -/
theorem yl_X {post : SY → Prop} {W : SY} {n g a p t pr : Nat} {vs : List Int32} {T : List Nat} {vr mem out : Nat → Int32} (hW : yb W n) (hg : g < 400000) (hp : p ≤ n) (hh : vs.length < 590) (hT : T.length + 10 < 1300) {e : Nat} {k : Nat} (he : yp_e e (4 + 32 * k)) (hk : k ≤ 41) (h1 : gm_tk W.2.2.2.2.2.2.2.2.2.2.2.2.2.2.2.2.2.2.2.2.2.2.2.2.1 n p = nI k) (H : yR post W (g + 1) a vs (p + 1) t pr T vr mem out) : yR post W g a vs p t pr (e :: T) vr mem out := by
  have hn := hW.2.1
  intro td va ca hd hv
  refine yi_s 4 k (by decide) he (by omega) hg rfl (by omega) hd rfl rfl fun Q hQ => ?_
  refine br_f (by decide) (br_f (by decide) (br_f (by decide) (br_f (by decide) (br_f (by decide) (br_t (by decide) (?_))))))
  exact ym_take (nI k) rfl hW.1 hW.2.1 (by omega) rfl (fun _ => hQ _ (H _ _ _ hd.2 hv)) (fun z => absurd h1 z)
theorem yl_I {post : SY → Prop} {W : SY} {n g a p t pr : Nat} {vs : List Int32} {T : List Nat} {vr mem out : Nat → Int32} (hW : yb W n) (hg : g < 400000) (hp : p ≤ n) (hh : vs.length < 590) (hT : T.length + 10 < 1300) {e : Nat} {v : Int32} (he : yp_e e 6) (H1 : v = 0 → ∀ va ca, zp_V va vs → yD post W (g + 1) p (yp_n 3 0 vs.length :: yp_n 7 2 vs.length :: T) vs.length 0 ca a t pr va vr mem out) (H2 : ¬ v = 0 → yR post W (g + 1) a vs p t pr (yp_n 3 0 vs.length :: yp_n 7 1 vs.length :: T) vr mem out) : yR post W g a (v :: vs) p t pr (e :: T) vr mem out := by
  have hn := hW.2.1
  intro td va ca hd hv
  have e1 : nI (v :: vs).length - 1 = nI vs.length := nI_pred _
  have e2 : (nI vs.length).toNatClampNeg = vs.length := nI_clamp (by omega)
  have vi : vp_in (nI vs.length) 600 := vp_in_nI (by omega) (by decide)
  refine yi_s 6 0 (by decide) he (by omega) hg rfl (by omega) hd rfl rfl fun Q hQ => ?_
  refine br_f (by decide) (br_f (by decide) (br_f (by decide) (br_f (by decide) (br_f (by decide) (br_f (by decide) (br_f (by decide) (br_t (by decide) (br_f (by decide) ?_))))))))
  rw [e1, e2, hv.1]
  refine nm_e ⟨vi, br_c (fun z => br_t rfl ?_) (fun z => br_f (by decide) ?_)⟩
  · refine ym_then 7 2 (by decide) (by decide) rfl (by omega) rfl (by omega) hd.2 fun td hd => ?_
    exact ym_then 3 0 (by decide) (by decide) rfl (by omega) rfl (by simp only [List.length_cons]; omega) hd fun td hd => hQ _ (H1 z va ca hv.2 td hd)
  · refine ym_then 7 1 (by decide) (by decide) rfl (by omega) rfl (by omega) hd.2 fun td hd => ?_
    exact ym_then 3 0 (by decide) (by decide) rfl (by omega) rfl (by simp only [List.length_cons]; omega) hd fun td hd => hQ _ (H2 z _ _ _ hd hv.2)
theorem yl_L1 {post : SY → Prop} {W : SY} {n g a p t pr : Nat} {vs : List Int32} {T : List Nat} {vr mem out : Nat → Int32} (hW : yb W n) (hg : g < 400000) (hp : p ≤ n) (hh : vs.length < 590) (hT : T.length + 10 < 1300) {e : Nat} (he : yp_e e 39) (H1 : ¬ gm_tk W.2.2.2.2.2.2.2.2.2.2.2.2.2.2.2.2.2.2.2.2.2.2.2.2.1 n p = 35 → yR post W (g + 1) a vs p t pr T vr mem out) (H2 : gm_tk W.2.2.2.2.2.2.2.2.2.2.2.2.2.2.2.2.2.2.2.2.2.2.2.2.1 n p = 35 → ∀ va ca, zp_V va vs → yD post W (g + 1) (p + 1) (yp_n 3 0 vs.length :: yp_n 5 0 vs.length :: T) vs.length 0 ca a t pr va vr mem out) : yR post W g a vs p t pr (e :: T) vr mem out := by
  have hn := hW.2.1
  intro td va ca hd hv
  refine yi_s 7 1 (by decide) he (by omega) hg rfl (by omega) hd rfl rfl fun Q hQ => ?_
  refine br_f (by decide) (br_f (by decide) (br_f (by decide) (br_f (by decide) (br_f (by decide) (br_f (by decide) (br_f (by decide) (br_f (by decide) (br_t (by decide) (br_f (by decide) ?_)))))))))
  refine ym_tok rfl hW.1 hW.2.1 (by omega) ?_
  refine br_c (fun z => nm_r (nI_1 _) (br_t rfl ?_)) (fun z => hQ _ (H1 z _ _ _ hd.2 hv))
  unfold wpY_kill
  refine br_f (by decide) ?_
  refine ym_then 5 0 (by decide) (by decide) rfl (by omega) rfl (by omega) hd.2 fun td hd => ?_
  exact ym_then 3 0 (by decide) (by decide) rfl (by omega) rfl (by simp only [List.length_cons]; omega) hd fun td hd => hQ _ (H2 z va ca hv td hd)
theorem yl_W {post : SY → Prop} {W : SY} {n g a p t pr : Nat} {vs : List Int32} {T : List Nat} {vr mem out : Nat → Int32} (hW : yb W n) (hg : g < 400000) (hp : p ≤ n) (hh : vs.length < 590) (hT : T.length + 10 < 1300) {e : Nat} {v : Int32} {q : Nat} (he : yp_e e (8 + 32 * q)) (hq : q < 1024) (H1 : v = 0 → ∀ va ca, zp_V va vs → yD post W (g + 1) p (yp_n 3 0 vs.length :: yp_n 5 0 vs.length :: T) vs.length 0 ca a t pr va vr mem out) (H2 : ¬ v = 0 → yR post W (g + 1) a vs p t pr (yp_n 3 0 vs.length :: yp_n 9 q vs.length :: T) vr mem out) : yR post W g a (v :: vs) p t pr (e :: T) vr mem out := by
  have hn := hW.2.1
  intro td va ca hd hv
  have e1 : nI (v :: vs).length - 1 = nI vs.length := nI_pred _
  have e2 : (nI vs.length).toNatClampNeg = vs.length := nI_clamp (by omega)
  have vi : vp_in (nI vs.length) 600 := vp_in_nI (by omega) (by decide)
  refine yi_s 8 q (by decide) he (by omega) hg rfl (by omega) hd rfl rfl fun Q hQ => ?_
  refine br_f (by decide) (br_f (by decide) (br_f (by decide) (br_f (by decide) (br_f (by decide) (br_f (by decide) (br_f (by decide) (br_f (by decide) (br_f (by decide) (br_t (by decide) (br_t hW.2.2.2 (br_f (by decide) ?_)))))))))))
  rw [e1, e2, hv.1]
  refine nm_e ⟨vi, br_c (fun z => ?_) (fun z => ?_)⟩
  · unfold wY_statementPart_291 wpY_kill
    refine br_f (by decide) ?_
    refine ym_then 5 0 (by decide) (by decide) rfl (by omega) rfl (by omega) hd.2 fun td hd => ?_
    exact ym_then 3 0 (by decide) (by decide) rfl (by omega) rfl (by simp only [List.length_cons]; omega) hd fun td hd => hQ _ (H1 z va ca hv.2 td hd)
  · refine ym_then 9 q (by decide) hq rfl (by omega) rfl (by omega) hd.2 fun td hd => ?_
    exact ym_then 3 0 (by decide) (by decide) rfl (by omega) rfl (by simp only [List.length_cons]; omega) hd fun td hd => hQ _ (H2 z _ _ _ hd hv.2)
theorem yl_O {post : SY → Prop} {W : SY} {n g a p t pr : Nat} {vs : List Int32} {T : List Nat} {vr mem out : Nat → Int32} (hW : yb W n) (hg : g < 400000) (hp : p ≤ n) (hh : vs.length < 590) (hT : T.length + 10 < 1300) {e : Nat} {q : Nat} (he : yp_e e (9 + 32 * q)) (hq2 : 2 ≤ q) (hq : q < 1024) (ht : t ≤ 120) (H1 : 0 < t → yR post W (g + 1) a vs q (t - 1) pr (yp_n 16 0 vs.length :: yp_n 4 5 vs.length :: yp_n 8 q vs.length :: T) vr mem out) (H2 : t = 0 → yF post W 4 (nI (q - 2)) 0 t pr mem out) : yR post W g a vs p t pr (e :: T) vr mem out := by
  have hn := hW.2.1
  intro td va ca hd hv
  refine yi_s 9 q (by decide) he (by omega) hg rfl (by omega) hd rfl rfl fun Q hQ => ?_
  refine br_f (by decide) (br_f (by decide) (br_f (by decide) (br_f (by decide) (br_f (by decide) (br_f (by decide) (br_f (by decide) (br_f (by decide) (br_f (by decide) (br_f (by decide) (br_t (by decide) (br_f (by decide) (br_f (by decide) (br_f (by decide) (br_f (by decide) ?_))))))))))))))
  exact ym_loopL (by decide) rfl hq2 hq rfl ht rfl (by omega) rfl hd.2 (by omega) (fun z td hd => hQ _ (H1 z _ _ _ hd hv)) (fun z => hQ _ (yf_end (by omega) (by decide) (H2 z _ _ _ _ _ _ _ _ _ _ _ (fun w => absurd w (by decide)))))
theorem yl_ret {post : SY → Prop} {W : SY} {n g a p t pr : Nat} {vs : List Int32} {T : List Nat} {vr mem out : Nat → Int32} (hW : yb W n) (hg : g < 400000) (hp : p ≤ n) (hh : vs.length < 590) (hT : T.length + 10 < 1300) {e : Nat} {v : Int32} (he : yp_e e 11) (H : ∀ va, zp_V va vs → yD post W (g + 1) p T vs.length 3 v a t pr va vr mem out) : yR post W g a (v :: vs) p t pr (e :: T) vr mem out := by
  have hn := hW.2.1
  intro td va ca hd hv
  have e1 : nI (v :: vs).length - 1 = nI vs.length := nI_pred _
  have e2 : (nI vs.length).toNatClampNeg = vs.length := nI_clamp (by omega)
  have vi : vp_in (nI vs.length) 600 := vp_in_nI (by omega) (by decide)
  refine yi_s 11 0 (by decide) he (by omega) hg rfl (by omega) hd rfl rfl fun Q hQ => ?_
  refine br_f (by decide) (br_f (by decide) (br_f (by decide) (br_f (by decide) (br_f (by decide) (br_f (by decide) (br_f (by decide) (br_f (by decide) (br_f (by decide) (br_f (by decide) (br_f (by decide) (br_f (by decide) (br_t (by decide) (br_f (by decide) ?_)))))))))))))
  rw [e1, e2, hv.1]
  exact nm_e ⟨vi, hQ _ (H va hv.2 td hd.2)⟩
theorem yl_print {post : SY → Prop} {W : SY} {n g a p t pr : Nat} {vs : List Int32} {T : List Nat} {vr mem out : Nat → Int32} (hW : yb W n) (hg : g < 400000) (hp : p ≤ n) (hh : vs.length < 590) (hT : T.length + 10 < 1300) {e : Nat} {v : Int32} (he : yp_e e 12) (hpr : pr < 2 ^ 30) (H : yR post W (g + 1) a vs p t (pr + 1) T vr mem (if pr < 24 then upd out pr v else out)) : yR post W g a (v :: vs) p t pr (e :: T) vr mem out := by
  have hn := hW.2.1
  intro td va ca hd hv
  have e1 : nI (v :: vs).length - 1 = nI vs.length := nI_pred _
  have e2 : (nI vs.length).toNatClampNeg = vs.length := nI_clamp (by omega)
  have vi : vp_in (nI vs.length) 600 := vp_in_nI (by omega) (by decide)
  refine yi_s 12 0 (by decide) he (by omega) hg rfl (by omega) hd rfl rfl fun Q hQ => ?_
  refine br_f (by decide) (br_f (by decide) (br_f (by decide) (br_f (by decide) (br_f (by decide) (br_f (by decide) (br_f (by decide) (br_f (by decide) (br_f (by decide) (br_f (by decide) (br_f (by decide) (br_f (by decide) (br_f (by decide) (br_t (by decide) (br_f (by decide) ?_))))))))))))))
  rw [e1, e2, hv.1]
  refine nm_e ⟨vi, ?_⟩
  refine pk_le 24 pr (fun z => nm_r (nI_1 _) ?_) (fun z => ⟨vp_in_nI z (by decide), nm_r (e' := upd out pr v) (by rw [nI_clamp (by omega)]) (nm_r (nI_1 _) ?_)⟩)
  · rw [if_neg (by omega)] at H; exact hQ _ (H _ _ _ hd.2 hv.2)
  · rw [if_pos z] at H; exact hQ _ (H _ _ _ hd.2 hv.2)
theorem yp_slot {b u : Nat} : 6 * nI (b + 1) - 6 + nI u = nI (6 * b + u) := by
  rw [show (6 : Int32) * nI (b + 1) = nI (6 * b + 6) from pk_mul 6 (b + 1), show nI (6 * b + 6) - 6 = nI (6 * b) from (pk_sub (a := 6 * b + 6) (b := 6) (by omega)).trans (congrArg nI (by omega)), nI_add]
theorem yl_set {post : SY → Prop} {W : SY} {n g a p t pr : Nat} {vs : List Int32} {T : List Nat} {vr mem out : Nat → Int32} (hW : yb W n) (hg : g < 400000) (hp : p ≤ n) (hh : vs.length < 590) (hT : T.length + 10 < 1300) {e : Nat} {v : Int32} {u b : Nat} (ha : a = b + 1) (hb : b ≤ 7) (he : yp_e e (13 + 32 * u)) (hu : u ≤ 5) (H : yR post W (g + 1) a vs p t pr T (upd vr (6 * b + u) v) mem out) : yR post W g a (v :: vs) p t pr (e :: T) vr mem out := by
  have hn := hW.2.1
  intro td va ca hd hv
  have e1 : nI (v :: vs).length - 1 = nI vs.length := nI_pred _
  have e2 : (nI vs.length).toNatClampNeg = vs.length := nI_clamp (by omega)
  have vi : vp_in (nI vs.length) 600 := vp_in_nI (by omega) (by decide)
  subst ha
  refine yi_s 13 u (by decide) he (by omega) hg rfl (by omega) hd rfl rfl fun Q hQ => ?_
  refine br_f (by decide) (br_f (by decide) (br_f (by decide) (br_f (by decide) (br_f (by decide) (br_f (by decide) (br_f (by decide) (br_f (by decide) (br_f (by decide) (br_f (by decide) (br_f (by decide) (br_f (by decide) (br_f (by decide) (br_f (by decide) (br_t (by decide) (br_f (by decide) ?_)))))))))))))))
  rw [e1, e2, hv.1, yp_slot]
  exact nm_e ⟨vi, vp_in_nI (by omega) (by decide), nm_r (e' := upd vr (6 * b + u) v) (by rw [nI_clamp (by omega)]) (hQ _ (H _ _ _ hd.2 hv.2))⟩
theorem yl_setc {post : SY → Prop} {W : SY} {n g a p t pr : Nat} {vs : List Int32} {T : List Nat} {vr mem out : Nat → Int32} (hW : yb W n) (hg : g < 400000) (hp : p ≤ n) (hh : vs.length < 590) (hT : T.length + 10 < 1300) {e : Nat} {v i : Int32} {q : Nat} (he : yp_e e (14 + 32 * q)) (hq : q < 1024) (H1 : ¬ i < 0 → i ≤ 15 → yR post W (g + 1) a vs p t pr T vr (upd mem i.toNatClampNeg v) out) (H2 : (i < 0 ∨ ¬ i ≤ 15) → yF post W 2 (nI q) 0 t pr mem out) : yR post W g a (v :: i :: vs) p t pr (e :: T) vr mem out := by
  have hn := hW.2.1
  intro td va ca hd hv
  have e1 : nI (v :: i :: vs).length - 2 = nI vs.length := (pk_sub (a := (v :: i :: vs).length) (b := 2) (by simp)).trans (congrArg nI (by simp))
  have e2 : (nI vs.length).toNatClampNeg = vs.length := nI_clamp (by omega)
  have e3 : (nI (vs.length + 1)).toNatClampNeg = vs.length + 1 := nI_clamp (by omega)
  have vi : vp_in (nI vs.length) 600 := vp_in_nI (by omega) (by decide)
  have vi2 : vp_in (nI (vs.length + 1)) 600 := vp_in_nI (by omega) (by decide)
  have h1 : va (vs.length + 1) = v := hv.1
  refine yi_s 14 q (by decide) he (by omega) hg rfl (by omega) hd rfl rfl fun Q hQ => ?_
  refine br_f (by decide) (br_t (by decide) (br_f (by decide) ?_))
  unfold wpY_setCell
  refine nm_r (e' := nI vs.length) e1 ?_
  rw [nI_1, e2, e3, hv.2.1, h1]
  have bad : (i < 0 ∨ ¬ i ≤ 15) → Q (W.1, W.2.1, W.2.2.1, W.2.2.2.1, W.2.2.2.2.1, W.2.2.2.2.2.1, W.2.2.2.2.2.2.1, nI T.length, nI vs.length, nI p, 0, W.2.2.2.2.2.2.2.2.2.2.2.1, 1, 0, ca, nI a, nI t, 2, W.2.2.2.2.2.2.2.2.2.2.2.2.2.2.2.2.2.2.1, nI q, W.2.2.2.2.2.2.2.2.2.2.2.2.2.2.2.2.2.2.2.2.1, nI pr, W.2.2.2.2.2.2.2.2.2.2.2.2.2.2.2.2.2.2.2.2.2.2.1, W.2.2.2.2.2.2.2.2.2.2.2.2.2.2.2.2.2.2.2.2.2.2.2.1, W.2.2.2.2.2.2.2.2.2.2.2.2.2.2.2.2.2.2.2.2.2.2.2.2.1, W.2.2.2.2.2.2.2.2.2.2.2.2.2.2.2.2.2.2.2.2.2.2.2.2.2.1, W.2.2.2.2.2.2.2.2.2.2.2.2.2.2.2.2.2.2.2.2.2.2.2.2.2.2.1, W.2.2.2.2.2.2.2.2.2.2.2.2.2.2.2.2.2.2.2.2.2.2.2.2.2.2.2.1, W.2.2.2.2.2.2.2.2.2.2.2.2.2.2.2.2.2.2.2.2.2.2.2.2.2.2.2.2.1, td, va, vr, out, mem) := fun z => hQ _ (yf_end (by omega) (by decide) (H2 z _ _ _ _ _ _ _ _ _ _ _ (fun w => absurd w (by decide))))
  refine ⟨vi, br_c (fun z => bad (Or.inl z)) (fun z => ⟨vi, br_c (fun y => ⟨vi, vi2, rl_in (N := 15) (by decide) z y (by decide), nm_e (hQ _ (H1 z y _ _ _ hd.2 hv.2.2))⟩) (fun y => bad (Or.inr y))⟩)⟩
end
section
/-! Y, live: expressions and calls -/
theorem yl_E1 {post : SY → Prop} {W : SY} {n g a p t pr : Nat} {vs : List Int32} {T : List Nat} {vr mem out : Nat → Int32} (hW : yb W n) (hg : g < 400000) (hp : p ≤ n) (hh : vs.length < 590) (hT : T.length + 10 < 1300) {e : Nat} (he : yp_e e 16) (H : yUn post W g a vs p t pr (yp_n 17 1 vs.length :: T) vr mem out) : yR post W g a vs p t pr (e :: T) vr mem out := by
  have hn := hW.2.1
  intro td va ca hd hv
  refine yi_e 16 0 (by decide) (by decide) he (by omega) hg rfl (by omega) hd rfl rfl fun Q hQ => ?_
  refine br_f (by decide) (br_f (by decide) (br_f (by decide) (br_t (by decide) (?_))))
  exact ym_then 17 1 (by decide) (by decide) rfl (by omega) rfl (by omega) hd.2 fun td hd => H Q hQ td va ca hd hv
theorem yl_N {post : SY → Prop} {W : SY} {n g a p t pr : Nat} {vs : List Int32} {T : List Nat} {vr mem out : Nat → Int32} (hW : yb W n) (hg : g < 400000) (hp : p ≤ n) (hh : vs.length < 590) (hT : T.length + 10 < 1300) {e : Nat} (he : yp_e e 18) (H : yUn post W g a vs p t pr T vr mem out) : yR post W g a vs p t pr (e :: T) vr mem out := by
  have hn := hW.2.1
  intro td va ca hd hv
  refine yi_e 18 0 (by decide) (by decide) he (by omega) hg rfl (by omega) hd rfl rfl fun Q hQ => ?_
  exact br_f (by decide) (br_f (by decide) (br_f (by decide) (br_f (by decide) (br_f (by decide) (br_t (by decide) (H Q hQ td va ca hd.2 hv))))))
theorem yu_s {post : SY → Prop} {W : SY} {n g a p t pr : Nat} {vs : List Int32} {T : List Nat} {vr mem out : Nat → Int32} (hW : yb W n) (hg : g < 400000) (hp : p ≤ n) (hh : vs.length < 590) (hT : T.length + 10 < 1300) {d : Nat} (hdd : d = 28 ∨ d = 32 ∨ d = 33) (h1 : gm_tk W.2.2.2.2.2.2.2.2.2.2.2.2.2.2.2.2.2.2.2.2.2.2.2.2.1 n p = nI d) (H : yR post W (g + 1) a vs (p + 1) t pr (yp_n 18 0 vs.length :: yp_n 19 d vs.length :: T) vr mem out) : yUn post W g a vs p t pr T vr mem out := by
  have hn := hW.2.1
  intro Q hQ td va ca hd hv
  exact ym_un rfl hW.1 hW.2.1 (by omega) rfl rfl (by omega) rfl hd hdd (by omega) h1 fun td hd => hQ _ (H _ _ _ hd hv)
theorem yu_2 {post : SY → Prop} {W : SY} {n g a p t pr : Nat} {vs : List Int32} {T : List Nat} {vr mem out : Nat → Int32} (hW : yb W n) (hg : g < 400000) (hp : p ≤ n) (hh : vs.length < 590) (hT : T.length + 10 < 1300) (h1 : gm_tk W.2.2.2.2.2.2.2.2.2.2.2.2.2.2.2.2.2.2.2.2.2.2.2.2.1 n p = 2) (h2 : gm_tk W.2.2.2.2.2.2.2.2.2.2.2.2.2.2.2.2.2.2.2.2.2.2.2.2.1 n (p + 1) = 4) (H : yR post W (g + 1) a vs (p + 2) t pr (yp_n 23 p vs.length :: yp_n 25 p vs.length :: T) vr mem out) : yUn post W g a vs p t pr T vr mem out := by
  have hn := hW.2.1
  intro Q hQ td va ca hd hv
  exact ym_un2 rfl hW.1 hW.2.1 (by omega) rfl rfl (by omega) rfl hd (by omega) h1 (gm_tk_lt h1 (by decide)) (fun _ td hd => hQ _ (H _ _ _ hd hv)) (fun z => absurd h2 z)
theorem yu_3 {post : SY → Prop} {W : SY} {n g a p t pr : Nat} {vs : List Int32} {T : List Nat} {vr mem out : Nat → Int32} (hW : yb W n) (hg : g < 400000) (hp : p ≤ n) (hh : vs.length < 590) (hT : T.length + 10 < 1300) (h1 : gm_tk W.2.2.2.2.2.2.2.2.2.2.2.2.2.2.2.2.2.2.2.2.2.2.2.2.1 n p = 3) (h2 : gm_tk W.2.2.2.2.2.2.2.2.2.2.2.2.2.2.2.2.2.2.2.2.2.2.2.2.1 n (p + 1) = 6) (H : yR post W (g + 1) a vs (p + 2) t pr (yp_n 16 0 vs.length :: yp_n 4 7 vs.length :: yp_n 22 p vs.length :: T) vr mem out) : yUn post W g a vs p t pr T vr mem out := by
  have hn := hW.2.1
  intro Q hQ td va ca hd hv
  exact ym_un3 rfl hW.1 hW.2.1 (by omega) rfl rfl (by omega) rfl hd (by omega) h1 (gm_tk_lt h1 (by decide)) (fun _ td hd => hQ _ (H _ _ _ hd hv)) (fun z => absurd h2 z)
theorem yu_4 {post : SY → Prop} {W : SY} {n g a p t pr : Nat} {vs : List Int32} {T : List Nat} {vr mem out : Nat → Int32} (hW : yb W n) (hg : g < 400000) (hp : p ≤ n) (hh : vs.length < 590) (hT : T.length + 10 < 1300) (h1 : gm_tk W.2.2.2.2.2.2.2.2.2.2.2.2.2.2.2.2.2.2.2.2.2.2.2.2.1 n p = 4) (H : yR post W (g + 1) a vs (p + 1) t pr (yp_n 16 0 vs.length :: yp_n 4 5 vs.length :: T) vr mem out) : yUn post W g a vs p t pr T vr mem out := by
  have hn := hW.2.1
  intro Q hQ td va ca hd hv
  exact ym_un4 rfl hW.1 hW.2.1 (by omega) rfl rfl (by omega) rfl hd (by omega) h1 fun td hd => hQ _ (H _ _ _ hd hv)
theorem yu_0 {post : SY → Prop} {W : SY} {n g a p t pr : Nat} {vs : List Int32} {T : List Nat} {vr mem out : Nat → Int32} (hW : yb W n) (hg : g < 400000) (hp : p ≤ n) (hh : vs.length < 590) (hT : T.length + 10 < 1300) (h1 : gm_tk W.2.2.2.2.2.2.2.2.2.2.2.2.2.2.2.2.2.2.2.2.2.2.2.2.1 n p = 0) (H : yR post W (g + 1) a (W.2.2.2.2.2.2.2.2.2.2.2.2.2.2.2.2.2.2.2.2.2.2.2.2.2.1 p :: vs) (p + 1) t pr T vr mem out) : yUn post W g a vs p t pr T vr mem out := by
  have hn := hW.2.1
  intro Q hQ td va ca hd hv
  have e2 : (nI vs.length).toNatClampNeg = vs.length := nI_clamp (by omega)
  have vi : vp_in (nI vs.length) 600 := vp_in_nI (by omega) (by decide)
  have hq := gm_tk_lt h1 (by decide)
  have vp : vp_in (nI p) 120 := vp_in_nI (by omega) (by decide)
  have e3 : (nI p).toNatClampNeg = p := nI_clamp (by omega)
  unfold wpY_unary
  refine ym_tok rfl hW.1 hW.2.1 (by omega) ?_
  rw [h1]
  refine nm_r (nI_1 _) (br_t (by decide) (br_f (by decide) (nm_r (nI_1 _) ⟨vp, vi, nm_r (e' := upd va vs.length (W.2.2.2.2.2.2.2.2.2.2.2.2.2.2.2.2.2.2.2.2.2.2.2.2.2.1 p)) (by rw [e2, e3]) ?_⟩)))
  exact hQ _ (H _ _ _ hd ⟨pk_us, zp_V_up hv (Nat.le_refl _)⟩)
theorem yu_1 {post : SY → Prop} {W : SY} {n g a p t pr : Nat} {vs : List Int32} {T : List Nat} {vr mem out : Nat → Int32} (hW : yb W n) (hg : g < 400000) (hp : p ≤ n) (hh : vs.length < 590) (hT : T.length + 10 < 1300) {u b : Nat} (ha : a = b + 1) (hb : b ≤ 7) (h1 : gm_tk W.2.2.2.2.2.2.2.2.2.2.2.2.2.2.2.2.2.2.2.2.2.2.2.2.1 n p = 1) (hu : W.2.2.2.2.2.2.2.2.2.2.2.2.2.2.2.2.2.2.2.2.2.2.2.2.2.1 p = nI u) (hu' : u ≤ 5) (H : yR post W (g + 1) a (vr (6 * b + u) :: vs) (p + 1) t pr T vr mem out) : yUn post W g a vs p t pr T vr mem out := by
  have hn := hW.2.1
  intro Q hQ td va ca hd hv
  have e2 : (nI vs.length).toNatClampNeg = vs.length := nI_clamp (by omega)
  have vi : vp_in (nI vs.length) 600 := vp_in_nI (by omega) (by decide)
  have hq := gm_tk_lt h1 (by decide)
  have vp : vp_in (nI p) 120 := vp_in_nI (by omega) (by decide)
  have e3 : (nI p).toNatClampNeg = p := nI_clamp (by omega)
  unfold wpY_unary
  refine ym_tok rfl hW.1 hW.2.1 (by omega) ?_
  rw [h1]
  subst ha
  refine nm_r (nI_1 _) (br_f (by decide) (br_t (by decide) (br_f (by decide) (nm_r (nI_1 _) ⟨vp, ?_⟩))))
  rw [e3, hu, yp_slot, nI_clamp (n := 6 * b + u) (by omega)]
  refine ⟨vp_in_nI (by omega) (by decide), vi, nm_r (e' := upd va vs.length (vr (6 * b + u))) (by rw [e2]) ?_⟩
  exact hQ _ (H _ _ _ hd ⟨pk_us, zp_V_up hv (Nat.le_refl _)⟩)
theorem yl_R0 {post : SY → Prop} {W : SY} {n g a p t pr : Nat} {vs : List Int32} {T : List Nat} {vr mem out : Nat → Int32} (hW : yb W n) (hg : g < 400000) (hp : p ≤ n) (hh : vs.length < 590) (hT : T.length + 10 < 1300) {e : Nat} {w : Nat} (he : yp_e e (17 + 32 * w)) (hw : w ≤ 11) (h1 : gm_str (gm_tk W.2.2.2.2.2.2.2.2.2.2.2.2.2.2.2.2.2.2.2.2.2.2.2.2.1 n p) < w) (H : yR post W (g + 1) a vs p t pr T vr mem out) : yR post W g a vs p t pr (e :: T) vr mem out := by
  have hn := hW.2.1
  intro td va ca hd hv
  refine yi_e 17 w (by decide) (by decide) he (by omega) hg rfl (by omega) hd rfl rfl fun Q hQ => ?_
  exact ym_bin0 rfl hW.1 hW.2.1 (by omega) rfl hw (fun q hq => (hW.2.2.1 q hq).1) h1 (hQ _ (H _ _ _ hd.2 hv))
theorem yl_R1 {post : SY → Prop} {W : SY} {n g a p t pr : Nat} {vs : List Int32} {T : List Nat} {vr mem out : Nat → Int32} (hW : yb W n) (hg : g < 400000) (hp : p ≤ n) (hh : vs.length < 590) (hT : T.length + 10 < 1300) {e : Nat} {w : Nat} (he : yp_e e (17 + 32 * w)) (hw : w ≤ 11) (hq : p < n) (h1 : ¬ gm_str (gm_tk W.2.2.2.2.2.2.2.2.2.2.2.2.2.2.2.2.2.2.2.2.2.2.2.2.1 n p) < w) (h2 : 2 < gm_str (gm_tk W.2.2.2.2.2.2.2.2.2.2.2.2.2.2.2.2.2.2.2.2.2.2.2.2.1 n p)) (H : yR post W (g + 1) a vs (p + 1) t pr (yp_n 18 0 vs.length :: yp_n 17 (gm_str (gm_tk W.2.2.2.2.2.2.2.2.2.2.2.2.2.2.2.2.2.2.2.2.2.2.2.2.1 n p) + 1) vs.length :: yp_n 20 p vs.length :: yp_n 17 w vs.length :: T) vr mem out) : yR post W g a vs p t pr (e :: T) vr mem out := by
  have hn := hW.2.1
  intro td va ca hd hv
  refine yi_e 17 w (by decide) (by decide) he (by omega) hg rfl (by omega) hd rfl rfl fun Q hQ => ?_
  exact ym_bin1 rfl hW.1 hW.2.1 (by omega) rfl rfl (by omega) rfl hd.2 rfl hw (fun q hq => (hW.2.2.1 q hq).1) h1 h2 hq (by omega) fun td hd => hQ _ (H _ _ _ hd hv)
theorem yl_R2 {post : SY → Prop} {W : SY} {n g a p t pr : Nat} {vs : List Int32} {T : List Nat} {vr mem out : Nat → Int32} (hW : yb W n) (hg : g < 400000) (hp : p ≤ n) (hh : vs.length < 590) (hT : T.length + 10 < 1300) {e : Nat} {w q : Nat} {v : Int32} (he : yp_e e (17 + 32 * w)) (hw : w ≤ 11) (hp2 : p < n) (hq : q = 1 ∨ q = 2) (h1 : gm_str (gm_tk W.2.2.2.2.2.2.2.2.2.2.2.2.2.2.2.2.2.2.2.2.2.2.2.2.1 n p) = q) (hwq : w ≤ q) (H1 : (v = 0 ↔ q = 2) → ∀ va ca, zp_V va ((if v = 0 then 0 else 1) :: vs) → yD post W (g + 1) (p + 1) (yp_n 18 0 (vs.length + 1) :: yp_n 17 (q + 1) (vs.length + 1) :: yp_n 21 0 (vs.length + 1) :: yp_n 5 0 (vs.length + 1) :: yp_n 17 w (vs.length + 1) :: T) (vs.length + 1) 0 ca a t pr va vr mem out) (H2 : ¬ (v = 0 ↔ q = 2) → yR post W (g + 1) a vs (p + 1) t pr (yp_n 18 0 vs.length :: yp_n 17 (q + 1) vs.length :: yp_n 21 0 vs.length :: yp_n 17 w (vs.length + 1) :: T) vr mem out) : yR post W g a (v :: vs) p t pr (e :: T) vr mem out := by
  have hn := hW.2.1
  intro td va ca hd hv
  have e1 : nI (v :: vs).length - 1 = nI vs.length := nI_pred _
  have e2 : (nI vs.length).toNatClampNeg = vs.length := nI_clamp (by omega)
  have vi : vp_in (nI vs.length) 600 := vp_in_nI (by omega) (by decide)
  refine yi_e 17 w (by decide) (by decide) he (by omega) hg rfl (by omega) hd rfl rfl fun Q hQ => ?_
  refine br_f (by decide) (br_f (by decide) (br_f (by decide) (br_f (by decide) (br_t (by decide) (?_)))))
  refine ym_tok rfl hW.1 hW.2.1 (by omega) ?_
  refine ym_str (gm_tk_r (fun q hq => (hW.2.2.1 q hq).1)) ?_
  rw [h1]
  refine br_t (nI_le hwq (by omega)) (nm_r (nI_1 _) ?_)
  refine ym_then 17 w (by decide) (by omega) rfl (by simp only [List.length_cons]; omega) rfl (by omega) hd.2 fun td hd => ?_
  refine br_t (nI_le (b := 2) (by omega) (by decide)) ?_
  have kil : ∀ (z : Int32), z = (if v = 0 then 0 else 1) → (v = 0 ↔ q = 2) → wY_decide_60 (fun u => match u with | (f_count, f_place, f_length, f_functions, f_loaded, f_loops, f_outside, f_tt, f_vt, f_pos, f_bad, f_checking, f_live, f_pending, f_carry, f_active, f_ticks, f_status, f_result, f_endedAt, f_used, f_printed, a_kind, a_value, a_code, a_number, a_given, a_begins, a_params, a_todo, a_val, a_vars, a_output, a_memory) => wY_expressionPart_131 Q (nI q) f_count f_place f_length f_functions f_loaded f_loops f_outside f_tt f_vt f_pos f_bad f_checking f_live f_pending f_carry f_active f_ticks f_status f_result f_endedAt f_used f_printed a_kind a_value a_code a_number a_given a_begins a_params a_todo a_val a_vars a_output a_memory) z (nI (v :: vs).length - 1) W.1 W.2.1 W.2.2.1 W.2.2.2.1 W.2.2.2.2.1 W.2.2.2.2.2.1 W.2.2.2.2.2.2.1 (nI (yp_n 17 w (v :: vs).length :: T).length) (nI (v :: vs).length) (nI (p + 1)) 0 W.2.2.2.2.2.2.2.2.2.2.2.1 1 0 ca (nI a) (nI t) 0 W.2.2.2.2.2.2.2.2.2.2.2.2.2.2.2.2.2.2.1 (-1) W.2.2.2.2.2.2.2.2.2.2.2.2.2.2.2.2.2.2.2.2.1 (nI pr) W.2.2.2.2.2.2.2.2.2.2.2.2.2.2.2.2.2.2.2.2.2.2.1 W.2.2.2.2.2.2.2.2.2.2.2.2.2.2.2.2.2.2.2.2.2.2.2.1 W.2.2.2.2.2.2.2.2.2.2.2.2.2.2.2.2.2.2.2.2.2.2.2.2.1 W.2.2.2.2.2.2.2.2.2.2.2.2.2.2.2.2.2.2.2.2.2.2.2.2.2.1 W.2.2.2.2.2.2.2.2.2.2.2.2.2.2.2.2.2.2.2.2.2.2.2.2.2.2.1 W.2.2.2.2.2.2.2.2.2.2.2.2.2.2.2.2.2.2.2.2.2.2.2.2.2.2.2.1 W.2.2.2.2.2.2.2.2.2.2.2.2.2.2.2.2.2.2.2.2.2.2.2.2.2.2.2.2.1 td va vr out mem := by
    intro z hz hiff
    subst hz
    rw [e1]
    refine ⟨vi, nm_r (e' := upd va vs.length (if v = 0 then 0 else 1)) (by rw [e2]) ?_⟩
    unfold wpY_kill
    refine br_f (by decide) ?_
    refine ym_then 5 0 (by decide) (by decide) rfl (by simp only [List.length_cons]; omega) rfl (by simp only [List.length_cons]; omega) hd fun td hd => ?_
    unfold wY_decide_78
    refine ym_then 21 0 (by decide) (by decide) rfl (by simp only [List.length_cons]; omega) rfl (by simp only [List.length_cons]; omega) hd fun td hd => ?_
    exact ym_131 rfl (by omega) rfl (by simp only [List.length_cons]; omega) rfl hd (by simp only [List.length_cons]; omega) fun td hd => hQ _ (H1 hiff _ ca ⟨pk_us, zp_V_up hv.2 (Nat.le_refl _)⟩ td hd)
  have nok : ¬ (v = 0 ↔ q = 2) → wY_decide_78 (fun u => match u with | (f_count, f_place, f_length, f_functions, f_loaded, f_loops, f_outside, f_tt, f_vt, f_pos, f_bad, f_checking, f_live, f_pending, f_carry, f_active, f_ticks, f_status, f_result, f_endedAt, f_used, f_printed, a_kind, a_value, a_code, a_number, a_given, a_begins, a_params, a_todo, a_val, a_vars, a_output, a_memory) => wY_expressionPart_131 Q (nI q) f_count f_place f_length f_functions f_loaded f_loops f_outside f_tt f_vt f_pos f_bad f_checking f_live f_pending f_carry f_active f_ticks f_status f_result f_endedAt f_used f_printed a_kind a_value a_code a_number a_given a_begins a_params a_todo a_val a_vars a_output a_memory) W.1 W.2.1 W.2.2.1 W.2.2.2.1 W.2.2.2.2.1 W.2.2.2.2.2.1 W.2.2.2.2.2.2.1 (nI (yp_n 17 w (v :: vs).length :: T).length) (nI vs.length) (nI (p + 1)) 0 W.2.2.2.2.2.2.2.2.2.2.2.1 1 0 ca (nI a) (nI t) 0 W.2.2.2.2.2.2.2.2.2.2.2.2.2.2.2.2.2.2.1 (-1) W.2.2.2.2.2.2.2.2.2.2.2.2.2.2.2.2.2.2.2.2.1 (nI pr) W.2.2.2.2.2.2.2.2.2.2.2.2.2.2.2.2.2.2.2.2.2.2.1 W.2.2.2.2.2.2.2.2.2.2.2.2.2.2.2.2.2.2.2.2.2.2.2.1 W.2.2.2.2.2.2.2.2.2.2.2.2.2.2.2.2.2.2.2.2.2.2.2.2.1 W.2.2.2.2.2.2.2.2.2.2.2.2.2.2.2.2.2.2.2.2.2.2.2.2.2.1 W.2.2.2.2.2.2.2.2.2.2.2.2.2.2.2.2.2.2.2.2.2.2.2.2.2.2.1 W.2.2.2.2.2.2.2.2.2.2.2.2.2.2.2.2.2.2.2.2.2.2.2.2.2.2.2.1 W.2.2.2.2.2.2.2.2.2.2.2.2.2.2.2.2.2.2.2.2.2.2.2.2.2.2.2.2.1 td va vr out mem := by
    intro hiff
    unfold wY_decide_78
    refine ym_then 21 0 (by decide) (by decide) rfl (by omega) rfl (by simp only [List.length_cons]; omega) hd fun td hd => ?_
    exact ym_131 rfl (by omega) rfl (by omega) rfl hd (by simp only [List.length_cons]; omega) fun td hd => hQ _ (H2 hiff _ _ _ hd hv.2)
  unfold wpY_decide
  refine br_f (by decide) ?_
  refine ⟨by rw [e1]; exact vi, ?_⟩
  rw [e1, e2, hv.1]
  have q12 : nI q = 1 ↔ q = 1 := nI_eq (b := 1) (by omega) (by decide)
  refine br_c (fun z => ?_) (fun z => ?_)
  · refine br_c (fun y => ?_) (fun y => ?_)
    · exact br_f (by decide) (nm_r e1 (nok (fun i => by have := i.mp z; have := q12.mp y; omega)))
    · exact br_t rfl (br_t rfl (kil 0 (if_pos z).symm ⟨fun _ => by rw [q12] at y; omega, fun _ => z⟩))
  · refine br_c (fun y => ?_) (fun y => ?_)
    · exact br_t rfl (br_f (by decide) (kil 1 (if_neg z).symm ⟨fun w => absurd w z, fun w => by rw [q12] at y; omega⟩))
    · exact br_f (by decide) (nm_r e1 (nok (fun i => z (i.mpr (by rw [q12] at y; omega)))))
theorem yl_drop {post : SY → Prop} {W : SY} {n g a p t pr : Nat} {vs : List Int32} {T : List Nat} {vr mem out : Nat → Int32} (hW : yb W n) (hg : g < 400000) (hp : p ≤ n) (hh : vs.length < 590) (hT : T.length + 10 < 1300) {e : Nat} {v : Int32} (he : yp_e e 15) (H : yR post W (g + 1) a vs p t pr T vr mem out) : yR post W g a (v :: vs) p t pr (e :: T) vr mem out := by
  have hn := hW.2.1
  intro td va ca hd hv
  have e1 : nI (v :: vs).length - 1 = nI vs.length := nI_pred _
  have e2 : (nI vs.length).toNatClampNeg = vs.length := nI_clamp (by omega)
  have vi : vp_in (nI vs.length) 600 := vp_in_nI (by omega) (by decide)
  refine yi_e 15 0 (by decide) (by decide) he (by omega) hg rfl (by omega) hd rfl rfl fun Q hQ => ?_
  exact br_f (by decide) (br_f (by decide) (br_t (by decide) (br_f (by decide) (nm_r e1 (hQ _ (H _ _ _ hd.2 hv.2))))))
theorem yl_tru {post : SY → Prop} {W : SY} {n g a p t pr : Nat} {vs : List Int32} {T : List Nat} {vr mem out : Nat → Int32} (hW : yb W n) (hg : g < 400000) (hp : p ≤ n) (hh : vs.length < 590) (hT : T.length + 10 < 1300) {e : Nat} {v : Int32} (he : yp_e e 21) (H : yR post W (g + 1) a (zv_u 57 v :: vs) p t pr T vr mem out) : yR post W g a (v :: vs) p t pr (e :: T) vr mem out := by
  have hn := hW.2.1
  intro td va ca hd hv
  have e1 : nI (v :: vs).length - 1 = nI vs.length := nI_pred _
  have e2 : (nI vs.length).toNatClampNeg = vs.length := nI_clamp (by omega)
  have vi : vp_in (nI vs.length) 600 := vp_in_nI (by omega) (by decide)
  refine yi_e 21 0 (by decide) (by decide) he (by omega) hg rfl (by omega) hd rfl rfl fun Q hQ => ?_
  refine br_f (by decide) (br_t (by decide) (br_f (by decide) ?_))
  rw [e1, e2, hv.1]
  refine ⟨vi, br_c (fun z => ⟨vi, nm_e ?_⟩) (fun z => ⟨vi, nm_e ?_⟩)⟩
  · rw [show zv_u 57 v = 0 from if_pos z] at H; exact hQ _ (H _ _ _ hd.2 ⟨pk_us, zp_V_up hv.2 (Nat.le_refl _)⟩)
  · rw [show zv_u 57 v = 1 from if_neg z] at H; exact hQ _ (H _ _ _ hd.2 ⟨pk_us, zp_V_up hv.2 (Nat.le_refl _)⟩)
theorem yl_sign {post : SY → Prop} {W : SY} {n g a p t pr : Nat} {vs : List Int32} {T : List Nat} {vr mem out : Nat → Int32} (hW : yb W n) (hg : g < 400000) (hp : p ≤ n) (hh : vs.length < 590) (hT : T.length + 10 < 1300) {e : Nat} {v : Int32} {d k : Nat} (hdd : d = 28 ∧ k = 50 ∨ d = 32 ∧ k = 32 ∨ d = 33 ∧ k = 33) (he : yp_e e (19 + 32 * d)) (H : yR post W (g + 1) a (zv_u k v :: vs) p t pr T vr mem out) : yR post W g a (v :: vs) p t pr (e :: T) vr mem out := by
  have hn := hW.2.1
  intro td va ca hd hv
  have e1 : nI (v :: vs).length - 1 = nI vs.length := nI_pred _
  have e2 : (nI vs.length).toNatClampNeg = vs.length := nI_clamp (by omega)
  have vi : vp_in (nI vs.length) 600 := vp_in_nI (by omega) (by decide)
  refine yi_e 19 d (by decide) (by decide) he (by omega) hg rfl (by omega) hd rfl rfl fun Q hQ => ?_
  refine br_f (by decide) (br_f (by decide) (br_f (by decide) (br_f (by decide) (br_f (by decide) (br_f (by decide) (br_t (by decide) (br_f (by decide) ?_)))))))
  rw [e1, e2, hv.1]
  rcases hdd with ⟨rfl, rfl⟩ | ⟨rfl, rfl⟩ | ⟨rfl, rfl⟩
  · exact br_t (by decide) ⟨vi, vi, nm_e (hQ _ (H _ _ _ hd.2 ⟨pk_us, zp_V_up hv.2 (Nat.le_refl _)⟩))⟩
  · refine br_f (by decide) (br_f (by decide) ⟨vi, br_c (fun z => ⟨vi, nm_e ?_⟩) (fun z => ⟨vi, nm_e ?_⟩)⟩)
    · rw [show zv_u 32 v = 1 from if_pos z] at H; exact hQ _ (H _ _ _ hd.2 ⟨pk_us, zp_V_up hv.2 (Nat.le_refl _)⟩)
    · rw [show zv_u 32 v = 0 from if_neg z] at H; exact hQ _ (H _ _ _ hd.2 ⟨pk_us, zp_V_up hv.2 (Nat.le_refl _)⟩)
  · exact br_f (by decide) (br_t (by decide) ⟨vi, vi, nm_e (hQ _ (H _ _ _ hd.2 ⟨pk_us, zp_V_up hv.2 (Nat.le_refl _)⟩))⟩)
theorem yl_comp {post : SY → Prop} {W : SY} {n g a p t pr : Nat} {vs : List Int32} {T : List Nat} {vr mem out : Nat → Int32} (hW : yb W n) (hg : g < 400000) (hp : p ≤ n) (hh : vs.length < 590) (hT : T.length + 10 < 1300) {e : Nat} {x y : Int32} {q k : Nat} (he : yp_e e (20 + 32 * q)) (hq : q < n) (hk : W.2.2.2.2.2.2.2.2.2.2.2.2.2.2.2.2.2.2.2.2.2.2.2.2.1 q = nI k) (hk1 : 15 ≤ k) (hk2 : k ≤ 31) (H1 : y = 0 ∧ 30 ≤ k → yF post W 1 (nI q) 0 t pr mem out) (H2 : ¬ (y = 0 ∧ 30 ≤ k) → yR post W (g + 1) a (zv_b k x y :: vs) p t pr T vr mem out) : yR post W g a (y :: x :: vs) p t pr (e :: T) vr mem out := by
  have hn := hW.2.1
  intro td va ca hd hv
  have e1 : nI (y :: x :: vs).length - 1 = nI (vs.length + 1) := nI_pred _
  have e2 : (nI (vs.length + 1)).toNatClampNeg = vs.length + 1 := nI_clamp (by omega)
  have e3 : nI (vs.length + 1) - 1 = nI vs.length := nI_pred _
  have e4 : (nI vs.length).toNatClampNeg = vs.length := nI_clamp (by omega)
  have e5 : (nI q).toNatClampNeg = q := nI_clamp (by omega)
  have h1 : va (vs.length + 1) = y := hv.1
  refine yi_e 20 q (by decide) (by decide) he (by omega) hg rfl (by omega) hd rfl rfl fun Q hQ => ?_
  refine br_f (by decide) (br_f (by decide) (br_f (by decide) (br_f (by decide) (br_f (by decide) (br_f (by decide) (br_f (by decide) (br_t (by decide) (br_f (by decide) ?_))))))))
  unfold wpY_compute
  refine nm_r e1 ⟨by rw [e1]; exact vp_in_nI (by omega) (by decide), nm_r (e' := y) (by rw [e1, e2]; exact h1) ⟨by rw [e3]; exact vp_in_nI (by omega) (by decide), nm_r (e' := x) (by rw [e3, e4]; exact hv.2.1) ⟨vp_in_nI (by omega) (by decide), nm_r (e' := nI k) (by rw [e5]; exact hk) ?_⟩⟩⟩
  have fin : ¬ (y = 0 ∧ 30 ≤ k) → wY_compute_55 Q y x (nI k) W.1 W.2.1 W.2.2.1 W.2.2.2.1 W.2.2.2.2.1 W.2.2.2.2.2.1 W.2.2.2.2.2.2.1 (nI T.length) (nI (vs.length + 1)) (nI p) 0 W.2.2.2.2.2.2.2.2.2.2.2.1 1 0 ca (nI a) (nI t) 0 W.2.2.2.2.2.2.2.2.2.2.2.2.2.2.2.2.2.2.1 (-1) W.2.2.2.2.2.2.2.2.2.2.2.2.2.2.2.2.2.2.2.2.1 (nI pr) W.2.2.2.2.2.2.2.2.2.2.2.2.2.2.2.2.2.2.2.2.2.2.1 W.2.2.2.2.2.2.2.2.2.2.2.2.2.2.2.2.2.2.2.2.2.2.2.1 W.2.2.2.2.2.2.2.2.2.2.2.2.2.2.2.2.2.2.2.2.2.2.2.2.1 W.2.2.2.2.2.2.2.2.2.2.2.2.2.2.2.2.2.2.2.2.2.2.2.2.2.1 W.2.2.2.2.2.2.2.2.2.2.2.2.2.2.2.2.2.2.2.2.2.2.2.2.2.2.1 W.2.2.2.2.2.2.2.2.2.2.2.2.2.2.2.2.2.2.2.2.2.2.2.2.2.2.2.1 W.2.2.2.2.2.2.2.2.2.2.2.2.2.2.2.2.2.2.2.2.2.2.2.2.2.2.2.2.1 td va vr out mem :=
    fun z => ym_55 hk1 hk2 z rfl (by omega) (hQ _ (H2 z _ _ _ hd.2 ⟨pk_us, zp_V_up hv.2.2 (Nat.le_refl _)⟩))
  refine pk_lt k 30 (fun z => fin (by omega)) (fun z => br_c (fun w => ?_) (fun w => fin (fun u => w u.1)))
  exact hQ _ (yf_end (by omega) (by decide) (H1 ⟨w, z⟩ _ _ _ _ _ _ _ _ _ _ _ (fun w => absurd w (by decide))))
theorem yl_cell {post : SY → Prop} {W : SY} {n g a p t pr : Nat} {vs : List Int32} {T : List Nat} {vr mem out : Nat → Int32} (hW : yb W n) (hg : g < 400000) (hp : p ≤ n) (hh : vs.length < 590) (hT : T.length + 10 < 1300) {e : Nat} {i : Int32} {q : Nat} (he : yp_e e (22 + 32 * q)) (hq : q < 1024) (H1 : ¬ i < 0 → i ≤ 15 → yR post W (g + 1) a (mem i.toNatClampNeg :: vs) p t pr T vr mem out) (H2 : (i < 0 ∨ ¬ i ≤ 15) → yF post W 2 (nI q) 0 t pr mem out) : yR post W g a (i :: vs) p t pr (e :: T) vr mem out := by
  have hn := hW.2.1
  intro td va ca hd hv
  have e1 : nI (i :: vs).length - 1 = nI vs.length := nI_pred _
  have e2 : (nI vs.length).toNatClampNeg = vs.length := nI_clamp (by omega)
  have vi : vp_in (nI vs.length) 600 := vp_in_nI (by omega) (by decide)
  refine yi_c 22 q (by decide) (by decide) he (by omega) hg rfl (by omega) hd rfl rfl fun Q hQ => ?_
  refine br_f (by decide) (br_f (by decide) (br_t (by decide) (br_f (by decide) ?_)))
  rw [e1, e2, hv.1]
  have bad : (i < 0 ∨ ¬ i ≤ 15) → Q (W.1, W.2.1, W.2.2.1, W.2.2.2.1, W.2.2.2.2.1, W.2.2.2.2.2.1, W.2.2.2.2.2.2.1, nI T.length, nI (i :: vs).length, nI p, 0, W.2.2.2.2.2.2.2.2.2.2.2.1, 1, 0, ca, nI a, nI t, 2, W.2.2.2.2.2.2.2.2.2.2.2.2.2.2.2.2.2.2.1, nI q, W.2.2.2.2.2.2.2.2.2.2.2.2.2.2.2.2.2.2.2.2.1, nI pr, W.2.2.2.2.2.2.2.2.2.2.2.2.2.2.2.2.2.2.2.2.2.2.1, W.2.2.2.2.2.2.2.2.2.2.2.2.2.2.2.2.2.2.2.2.2.2.2.1, W.2.2.2.2.2.2.2.2.2.2.2.2.2.2.2.2.2.2.2.2.2.2.2.2.1, W.2.2.2.2.2.2.2.2.2.2.2.2.2.2.2.2.2.2.2.2.2.2.2.2.2.1, W.2.2.2.2.2.2.2.2.2.2.2.2.2.2.2.2.2.2.2.2.2.2.2.2.2.2.1, W.2.2.2.2.2.2.2.2.2.2.2.2.2.2.2.2.2.2.2.2.2.2.2.2.2.2.2.1, W.2.2.2.2.2.2.2.2.2.2.2.2.2.2.2.2.2.2.2.2.2.2.2.2.2.2.2.2.1, td, va, vr, out, mem) := fun z => hQ _ (yf_end (by omega) (by decide) (H2 z _ _ _ _ _ _ _ _ _ _ _ (fun w => absurd w (by decide))))
  refine ⟨vi, nm_e (br_c (fun z => bad (Or.inl z)) (fun z => br_c (fun y => ⟨rl_in (N := 15) (by decide) z y (by decide), vi, nm_e (hQ _ (H1 z y _ _ _ hd.2 ⟨pk_us, zp_V_up hv.2 (Nat.le_refl _)⟩))⟩) (fun y => bad (Or.inr y))))⟩
theorem yl_args {post : SY → Prop} {W : SY} {n g a p t pr : Nat} {vs : List Int32} {T : List Nat} {vr mem out : Nat → Int32} (hW : yb W n) (hg : g < 400000) (hp : p ≤ n) (hh : vs.length < 590) (hT : T.length + 10 < 1300) {e : Nat} {q : Nat} (he : yp_e e (23 + 32 * q)) (hq : q < n) (H1 : gm_tk W.2.2.2.2.2.2.2.2.2.2.2.2.2.2.2.2.2.2.2.2.2.2.2.2.1 n p = 5 → yR post W (g + 1) a vs (p + 1) t pr T vr mem out) (H2 : ¬ gm_tk W.2.2.2.2.2.2.2.2.2.2.2.2.2.2.2.2.2.2.2.2.2.2.2.2.1 n p = 5 → yR post W (g + 1) a vs p t pr (yp_n 16 0 vs.length :: yp_n 24 q vs.length :: T) vr mem out) : yR post W g a vs p t pr (e :: T) vr mem out := by
  have hn := hW.2.1
  intro td va ca hd hv
  refine yi_c 23 q (by decide) (by decide) he (by omega) hg rfl (by omega) hd rfl rfl fun Q hQ => ?_
  refine br_f (by decide) (br_f (by decide) (br_f (by decide) (br_t (by decide) (?_))))
  exact ym_args0 rfl hW.1 hW.2.1 (by omega) rfl rfl (by omega) rfl hd.2 hW.2.2.2 rfl (by omega) (by omega) (fun z => hQ _ (H1 z _ _ _ hd.2 hv)) (fun z td hd => hQ _ (H2 z _ _ _ hd hv))
theorem yl_margs {post : SY → Prop} {W : SY} {n g a p t pr : Nat} {vs : List Int32} {T : List Nat} {vr mem out : Nat → Int32} (hW : yb W n) (hg : g < 400000) (hp : p ≤ n) (hh : vs.length < 590) (hT : T.length + 10 < 1300) {e : Nat} {q : Nat} (he : yp_e e (24 + 32 * q)) (hq : q < n) (h5 : gm_tk W.2.2.2.2.2.2.2.2.2.2.2.2.2.2.2.2.2.2.2.2.2.2.2.2.1 n p = 5 ∨ gm_tk W.2.2.2.2.2.2.2.2.2.2.2.2.2.2.2.2.2.2.2.2.2.2.2.2.1 n p = 11) (H1 : gm_tk W.2.2.2.2.2.2.2.2.2.2.2.2.2.2.2.2.2.2.2.2.2.2.2.2.1 n p = 5 → yR post W (g + 1) a vs (p + 1) t pr T vr mem out) (H2 : gm_tk W.2.2.2.2.2.2.2.2.2.2.2.2.2.2.2.2.2.2.2.2.2.2.2.2.1 n p = 11 → yR post W (g + 1) a vs (p + 1) t pr (yp_n 16 0 vs.length :: yp_n 24 q vs.length :: T) vr mem out) : yR post W g a vs p t pr (e :: T) vr mem out := by
  have hn := hW.2.1
  intro td va ca hd hv
  refine yi_c 24 q (by decide) (by decide) he (by omega) hg rfl (by omega) hd rfl rfl fun Q hQ => ?_
  refine br_f (by decide) (br_f (by decide) (br_f (by decide) (br_f (by decide) (br_t (by decide) (?_)))))
  exact ym_margs0 rfl hW.1 hW.2.1 (by omega) rfl rfl (by omega) rfl hd.2 hW.2.2.2 rfl (by omega) (by omega) (fun z => hQ _ (H1 z _ _ _ hd.2 hv)) (fun z y td hd => hQ _ (H2 y _ _ _ hd hv)) (fun z y => absurd (h5.resolve_left z) y)
end
section
/-! Y, live: calls, returns; from not live to live -/
theorem zp_ent_fun {a c h : Nat} {va : Nat → Int32} : ∀ (v : Nat) (X : Nat → Int32) (vs : List Int32), vs.length = h + (if v < c then v else c) → zp_V va vs →
    zp_ent a c v X vs = fun j => if 6 * a ≤ j ∧ j < 6 * a + v then (if j - 6 * a < c then va (h + (j - 6 * a)) else 0) else X j := by
  intro v
  induction v with
  | zero =>
    intro X vs _ _
    funext j
    rw [if_neg (by omega)]
    rfl
  | succ v ih =>
    intro X vs hl hv
    by_cases hc : v < c
    · have e1 : (if v + 1 < c then v + 1 else c) = v + 1 := by split <;> omega
      rw [e1] at hl
      cases vs with
      | nil => simp at hl
      | cons w l =>
        simp only [List.length_cons] at hl
        have hll : l.length = h + v := by omega
        rw [show zp_ent a c (v + 1) X (w :: l) = zp_ent a c v (upd X (6 * a + v) w) l from if_pos hc, ih _ l (by rw [if_pos hc]; exact hll) hv.2]
        funext j
        by_cases h1 : j = 6 * a + v
        · subst h1
          rw [if_neg (by omega), pk_us, if_pos (by omega), if_pos (by omega)]
          have := hv.1
          rw [hll] at this
          rw [show 6 * a + v - 6 * a = v by omega]
          exact this.symm
        · by_cases h2 : 6 * a ≤ j ∧ j < 6 * a + v
          · rw [if_pos h2, if_pos (show 6 * a ≤ j ∧ j < 6 * a + (v + 1) by omega)]
          · rw [if_neg h2, pk_un h1, if_neg (by omega)]
    · rw [if_neg (by omega)] at hl
      rw [show zp_ent a c (v + 1) X vs = zp_ent a c v (upd X (6 * a + v) 0) vs from if_neg hc, ih _ vs (by rw [if_neg hc]; exact hl) hv]
      funext j
      by_cases h1 : j = 6 * a + v
      · subst h1
        rw [if_neg (by omega), pk_us, if_pos (by omega), if_neg (by omega)]
      · by_cases h2 : 6 * a ≤ j ∧ j < 6 * a + v
        · rw [if_pos h2, if_pos (show 6 * a ≤ j ∧ j < 6 * a + (v + 1) by omega)]
        · rw [if_neg h2, pk_un h1, if_neg (by omega)]
theorem ym_ent {post : SY → Prop} {f_count f_place f_length f_functions f_loaded f_loops f_outside f_tt f_vt f_pos f_bad f_checking f_live f_pending f_carry f_active f_ticks f_status f_result f_endedAt f_used f_printed : Int32} {a_kind a_value a_code a_number a_given a_begins a_params a_todo a_val a_vars a_output a_memory : Nat → Int32} {f c a h p q : Nat} {T : List Nat} {vs : List Int32} {x y : Int32} (hx : x = nI f) (hf : f < 4) (hc : a_params f = nI c) (hc3 : c ≤ 3) (ha : f_active = nI a) (ha8 : a < 8) (hy : y = nI h) (hh : h < 590) (hp : f_pos = nI p) (hp' : p < 1024) (hq : a_begins f = nI q)
    (ht : f_tt = nI T.length) (hT : T.length + 2 < 1300) (hd : yp_Td a_todo T) (hl : vs.length = h + c) (hv : zp_V a_val vs)
    (H : ∀ td, yp_Td td (yp_n 2 0 h :: yp_n 26 p h :: T) → post (f_count, f_place, f_length, f_functions, f_loaded, f_loops, f_outside, nI (yp_n 2 0 h :: yp_n 26 p h :: T).length, nI h, nI q, f_bad, f_checking, f_live, f_pending, f_carry, nI (a + 1), f_ticks, f_status, f_result, f_endedAt, f_used, f_printed, a_kind, a_value, a_code, a_number, a_given, a_begins, a_params, td, a_val, zp_ent a c 6 a_vars vs, a_output, a_memory)) : ∃ m, wY_enter_32 post x y f_count f_place f_length f_functions f_loaded f_loops f_outside f_tt f_vt f_pos f_bad f_checking f_live f_pending f_carry f_active f_ticks f_status f_result f_endedAt f_used f_printed m 0 a_kind a_value a_code a_number a_given a_begins a_params a_todo a_val a_vars a_output a_memory := by
  subst hx hy
  have ef : (nI f).toNatClampNeg = f := nI_clamp (by omega)
  have e6 : (if 6 < c then 6 else c) = c := if_neg (by omega)
  have key : ∀ d v, v + d = 6 → wY_enter_32 post (nI f) (nI h) f_count f_place f_length f_functions f_loaded f_loops f_outside f_tt f_vt f_pos f_bad f_checking f_live f_pending f_carry f_active f_ticks f_status f_result f_endedAt f_used f_printed (d + 1) (nI v) a_kind a_value a_code a_number a_given a_begins a_params a_todo a_val (fun j => if 6 * a ≤ j ∧ j < 6 * a + v then (if j - 6 * a < c then a_val (h + (j - 6 * a)) else 0) else a_vars j) a_output a_memory := by
    intro d
    induction d with
    | zero =>
      intro v hv6
      have : v = 6 := by omega
      subst this
      refine br_t (by decide) (nm_r (e' := nI (a + 1)) (by rw [ha]; exact nI_1 a) ?_)
      rw [← zp_ent_fun (c := c) (h := h) 6 a_vars vs (by rw [e6]; exact hl) hv, hp]
      refine ym_then 26 p (by decide) hp' rfl (by omega) ht (by omega) hd fun td hd => ?_
      refine ym_then 2 0 (by decide) (by decide) rfl (by omega) rfl (by simp only [List.length_cons]; omega) hd fun td hd => ?_
      refine ⟨vp_in_nI hf (by decide), nm_r (e' := nI q) (by rw [ef]; exact hq) ?_⟩
      exact H td hd
    | succ d ih =>
      intro v hv6
      have eu : ∀ w : Int32, (if v < c then a_val (h + v) else 0) = w → upd (fun j => if 6 * a ≤ j ∧ j < 6 * a + v then (if j - 6 * a < c then a_val (h + (j - 6 * a)) else 0) else a_vars j) (6 * a + v) w = (fun j => if 6 * a ≤ j ∧ j < 6 * a + (v + 1) then (if j - 6 * a < c then a_val (h + (j - 6 * a)) else 0) else a_vars j) := by
        intro w hw
        funext j
        by_cases h1 : j = 6 * a + v
        · subst h1
          rw [pk_us, if_pos (by omega), show 6 * a + v - 6 * a = v by omega]
          exact hw.symm
        · rw [pk_un h1]
          by_cases h2 : 6 * a ≤ j ∧ j < 6 * a + v
          · rw [if_pos h2, if_pos (show 6 * a ≤ j ∧ j < 6 * a + (v + 1) by omega)]
          · rw [if_neg h2, if_neg (by omega)]
      have es : 6 * f_active + nI v = nI (6 * a + v) := by rw [ha, show (6 : Int32) * nI a = nI (6 * a) from pk_mul 6 a, nI_add]
      have vi : vp_in (nI (6 * a + v)) 48 := vp_in_nI (by omega) (by decide)
      refine br_f (nI_ge (b := 6) (by omega) (by decide)) ⟨vp_in_nI hf (by decide), ?_⟩
      rw [ef, hc, es, nI_clamp (n := 6 * a + v) (by omega)]
      refine pk_le c v (fun z => ⟨vi, nm_r (eu 0 (if_neg (by omega))) (nm_r (nI_1 _) (ih (v + 1) (by omega)))⟩) (fun z => ?_)
      rw [nI_add, nI_clamp (n := h + v) (by omega)]
      exact ⟨vp_in_nI (by omega) (by decide), vi, nm_r (eu (a_val (h + v)) (if_pos z)) (nm_r (nI_1 _) (ih (v + 1) (by omega)))⟩
  refine ⟨7, ?_⟩
  have e0 : (fun j => if 6 * a ≤ j ∧ j < 6 * a + 0 then (if j - 6 * a < c then a_val (h + (j - 6 * a)) else 0) else a_vars j) = a_vars := by
    funext j
    rw [if_neg (by omega)]
  have k0 := key 6 0 rfl
  rw [e0] at k0
  exact k0
theorem zp_V_drop {st : Nat → Int32} : ∀ (c : Nat) {l : List Int32}, zp_V st l → zp_V st (l.drop c)
  | 0, _, h => h
  | _ + 1, [], _ => trivial
  | c + 1, _ :: l, h => zp_V_drop c (l := l) h.2
theorem yl_call {post : SY → Prop} {W : SY} {n g a p t pr : Nat} {vs : List Int32} {T : List Nat} {vr mem out : Nat → Int32} (hW : yb W n) (hg : g < 400000) (hp : p ≤ n) (hh : vs.length < 590) (hT : T.length + 10 < 1300) {e q h f c p' : Nat} (he : e = yp_n 25 q h) (hq : q < n) (hf : W.2.2.2.2.2.2.2.2.2.2.2.2.2.2.2.2.2.2.2.2.2.2.2.2.2.1 q = nI f) (hf4 : f < 4) (hc : W.2.2.2.2.2.2.2.2.2.2.2.2.2.2.2.2.2.2.2.2.2.2.2.2.2.2.2.2.1 f = nI c) (hc3 : c ≤ 3) (hl : vs.length = h + c) (hb : W.2.2.2.2.2.2.2.2.2.2.2.2.2.2.2.2.2.2.2.2.2.2.2.2.2.2.2.1 f = nI p') (ha8 : a ≤ 8) (ht : t ≤ 120)
    (H8 : a = 8 → yF post W 3 (nI q) 0 t pr mem out) (Ht : a < 8 → t = 0 → yF post W 4 (nI q) 0 t pr mem out)
    (H : a < 8 → 0 < t → yR post W (g + 1) (a + 1) (vs.drop c) p' (t - 1) pr (yp_n 2 0 h :: yp_n 26 p h :: T) (zp_ent a c 6 vr vs) mem out) : yR post W g a vs p t pr (e :: T) vr mem out := by
  have hn := hW.2.1
  intro td va ca hd hv
  have hdv : e / 32768 = h := by subst he; dsimp only [yp_n]; omega
  have he' : yp_e e (25 + 32 * q) := by rw [he]; exact yp_e_n (by decide) (by omega) (by omega)
  have e5 : (nI q).toNatClampNeg = q := nI_clamp (by omega)
  have dl : (vs.drop c).length = h := by rw [List.length_drop]; omega
  have dv : zp_V va (vs.drop c) := zp_V_drop c hv
  refine yi_c 25 q (by decide) (by decide) he' (by omega) hg rfl (by omega) hd rfl rfl fun Q hQ => ?_
  refine br_f (by decide) (br_f (by decide) (br_f (by decide) (br_f (by decide) (br_f (by decide) (br_t (by decide) (br_f (by decide) ?_))))))
  refine ⟨vp_in_nI (by omega) (by decide), ?_⟩
  rw [e5, hf, hdv]
  unfold wpY_enter
  refine pk_eq a 8 (fun z => ?_) (fun z => br_f (nI_pos (by omega)) ?_)
  · exact hQ _ (yf_end (by omega) (by decide) (H8 z _ _ _ _ _ _ _ _ _ _ _ (fun w => absurd w (by decide))))
  refine ym_tick rfl ht (fun y => br_f (by decide) ?_) (fun y => br_t rfl ?_)
  · refine ym_ent rfl hf4 hc hc3 rfl (by omega) rfl (by omega) rfl (by omega) hb rfl (by omega) hd.2 hl hv fun td hd => ?_
    have H := H (by omega) y td va ca hd dv
    rw [dl] at H
    exact hQ _ H
  · exact hQ _ (yf_end (by omega) (by decide) (Ht (by omega) y _ _ _ _ _ _ _ _ _ _ _ (fun w => absurd w (by decide))))
theorem yl_frame {post : SY → Prop} {W : SY} {n g a p t pr : Nat} {vs : List Int32} {T : List Nat} {vr mem out : Nat → Int32} (hW : yb W n) (hg : g < 400000) (hp : p ≤ n) (hh : vs.length < 590) (hT : T.length + 10 < 1300) {e q b : Nat} (he : e = yp_n 26 q vs.length) (hq : q < 1024) (ha : a = b + 1) (H : yR post W (g + 1) b (0 :: vs) q t pr T vr mem out) : yR post W g a vs p t pr (e :: T) vr mem out := by
  have hn := hW.2.1
  intro td va ca hd hv
  subst ha
  have hdv : e / 32768 = vs.length := by subst he; dsimp only [yp_n]; omega
  have he' : yp_e e (26 + 32 * q) := by rw [he]; exact yp_e_n (by decide) (by omega) (by omega)
  refine yi_c 26 q (by decide) (by decide) he' (by omega) hg rfl (by omega) hd rfl rfl fun Q hQ => ?_
  refine br_f (by decide) (br_t (by decide) (?_))
  rw [hdv]
  unfold wpY_back
  refine nm_r (nI_pred _) (nm_r (nI_1 _) (br_f (by decide) ⟨vp_in_nI (by omega) (by decide), nm_r (e' := upd va vs.length 0) (by rw [nI_clamp (by omega)]) ?_⟩))
  exact hQ _ (H _ _ _ hd.2 ⟨pk_us, zp_V_up hv (Nat.le_refl _)⟩)
theorem yl_done {post : SY → Prop} {W : SY} {n g a p t pr : Nat} {vs : List Int32} {T : List Nat} {vr mem out : Nat → Int32} (hg : g ≤ 400000) {v : Int32} (H : yF post W 0 (-1) v t pr mem out) : yR post W g a [v] p t pr [] vr mem out := by
  intro td va ca hd hv
  exact ye_end hg (Or.inl (by decide)) (H _ _ _ _ _ _ _ _ _ _ _ (fun _ => hv.1))
theorem yk_rev {post : SY → Prop} {W : SY} {n g a p t pr : Nat} {vs : List Int32} {T : List Nat} {vr mem out : Nat → Int32} (hW : yb W n) (hg : g < 400000) (hp : p ≤ n) (hh : vs.length < 590) (hT : T.length + 10 < 1300) {ca : Int32} {va : Nat → Int32} {e : Nat} (he : yp_e e 5) (hv : zp_V va vs) (H : yR post W (g + 1) a vs p t pr T vr mem out) : yD post W g p (e :: T) vs.length 0 ca a t pr va vr mem out := by
  intro td hd
  refine yi_s 5 0 (by decide) he (by omega) hg rfl (by omega) hd rfl rfl fun Q hQ => ?_
  exact br_f (by decide) (br_f (by decide) (br_f (by decide) (br_f (by decide) (br_f (by decide) (br_f (by decide) (br_t (by decide) (hQ _ (H _ _ _ hd.2 hv))))))))
theorem yk_els {post : SY → Prop} {W : SY} {n g a p t pr : Nat} {vs : List Int32} {T : List Nat} {vr mem out : Nat → Int32} (hW : yb W n) (hg : g < 400000) (hp : p ≤ n) (hh : vs.length < 590) (hT : T.length + 10 < 1300) {ca : Int32} {va : Nat → Int32} {e : Nat} (he : yp_e e 71) (hv : zp_V va vs) (H1 : ¬ gm_tk W.2.2.2.2.2.2.2.2.2.2.2.2.2.2.2.2.2.2.2.2.2.2.2.2.1 n p = 35 → yR post W (g + 1) a vs p t pr T vr mem out) (H2 : gm_tk W.2.2.2.2.2.2.2.2.2.2.2.2.2.2.2.2.2.2.2.2.2.2.2.2.1 n p = 35 → yR post W (g + 1) a vs (p + 1) t pr (yp_n 3 0 vs.length :: T) vr mem out) : yD post W g p (e :: T) vs.length 0 ca a t pr va vr mem out := by
  have hn := hW.2.1
  intro td hd
  refine yi_s 7 2 (by decide) he (by omega) hg rfl (by omega) hd rfl rfl fun Q hQ => ?_
  refine br_f (by decide) (br_f (by decide) (br_f (by decide) (br_f (by decide) (br_f (by decide) (br_f (by decide) (br_f (by decide) (br_f (by decide) (br_t (by decide) (br_t rfl ?_)))))))))
  refine ym_tok rfl hW.1 hW.2.1 (by omega) ?_
  refine br_c (fun z => nm_r (nI_1 _) (br_f (by decide) ?_)) (fun z => hQ _ (H1 z _ _ _ hd.2 hv))
  exact ym_then 3 0 (by decide) (by decide) rfl (by omega) rfl (by omega) hd.2 fun td hd => hQ _ (H2 z _ _ _ hd hv)
theorem yk_brk {post : SY → Prop} {W : SY} {n g a p t pr : Nat} {vs : List Int32} {T : List Nat} {vr mem out : Nat → Int32} (hW : yb W n) (hg : g < 400000) (hp : p ≤ n) (hh : vs.length < 590) (hT : T.length + 10 < 1300) {ca : Int32} {va : Nat → Int32} {e q : Nat} (he : yp_e e (9 + 32 * q)) (hq : q < 1024) (hv : zp_V va vs) (H : yR post W (g + 1) a vs p t pr T vr mem out) : yD post W g p (e :: T) vs.length 1 ca a t pr va vr mem out := by
  intro td hd
  refine yi_s 9 q (by decide) he (by omega) hg rfl (by omega) hd rfl rfl fun Q hQ => ?_
  exact br_f (by decide) (br_f (by decide) (br_f (by decide) (br_f (by decide) (br_f (by decide) (br_f (by decide) (br_f (by decide) (br_f (by decide) (br_f (by decide) (br_f (by decide) (br_t (by decide) (br_t rfl (br_f (show ¬ (1 : Int32) = 2 by decide) (br_t rfl (br_t rfl (hQ _ (H _ _ _ hd.2 hv))))))))))))))))
theorem yk_con {post : SY → Prop} {W : SY} {n g a p t pr : Nat} {vs : List Int32} {T : List Nat} {vr mem out : Nat → Int32} (hW : yb W n) (hg : g < 400000) (hp : p ≤ n) (hh : vs.length < 590) (hT : T.length + 10 < 1300) {ca : Int32} {va : Nat → Int32} {e q : Nat} (he : yp_e e (9 + 32 * q)) (hq2 : 2 ≤ q) (hq : q < 1024) (ht : t ≤ 120) (hv : zp_V va vs) (H1 : 0 < t → yR post W (g + 1) a vs q (t - 1) pr (yp_n 16 0 vs.length :: yp_n 4 5 vs.length :: yp_n 8 q vs.length :: T) vr mem out) (H2 : t = 0 → yF post W 4 (nI (q - 2)) 0 t pr mem out) : yD post W g p (e :: T) vs.length 2 ca a t pr va vr mem out := by
  intro td hd
  refine yi_s 9 q (by decide) he (by omega) hg rfl (by omega) hd rfl rfl fun Q hQ => ?_
  refine br_f (by decide) (br_f (by decide) (br_f (by decide) (br_f (by decide) (br_f (by decide) (br_f (by decide) (br_f (by decide) (br_f (by decide) (br_f (by decide) (br_f (by decide) (br_t (by decide) (br_t rfl (br_t rfl (br_f (show ¬ (2 : Int32) = 1 by decide) (br_t rfl (br_f (by decide) ?_)))))))))))))))
  exact ym_loopL (by decide) rfl hq2 hq rfl ht rfl (by omega) rfl hd.2 (by omega) (fun z td hd => hQ _ (H1 z _ _ _ hd hv)) (fun z => hQ _ (yf_end (by omega) (by decide) (H2 z _ _ _ _ _ _ _ _ _ _ _ (fun w => absurd w (by decide)))))
theorem yk_frame {post : SY → Prop} {W : SY} {n g a p t pr : Nat} {vs : List Int32} {T : List Nat} {vr mem out : Nat → Int32} (hW : yb W n) (hg : g < 400000) (hp : p ≤ n) (hh : vs.length < 590) (hT : T.length + 10 < 1300) {ca : Int32} {va : Nat → Int32} {e q b : Nat} (he : e = yp_n 26 q vs.length) (hq : q < 1024) (ha : a = b + 1) (hv : zp_V va vs) (H : yR post W (g + 1) b (ca :: vs) q t pr T vr mem out) : yD post W g p (e :: T) vs.length 3 ca a t pr va vr mem out := by
  intro td hd
  subst ha
  have hdv : e / 32768 = vs.length := by subst he; dsimp only [yp_n]; omega
  have he' : yp_e e (26 + 32 * q) := by rw [he]; exact yp_e_n (by decide) (by omega) (by omega)
  refine yi_c 26 q (by decide) (by decide) he' (by omega) hg rfl (by omega) hd rfl rfl fun Q hQ => ?_
  refine br_f (by decide) (br_t (by decide) (?_))
  rw [hdv]
  unfold wpY_back
  refine nm_r (nI_pred _) (nm_r (nI_1 _) (br_t rfl ⟨vp_in_nI (by omega) (by decide), nm_r (e' := upd va vs.length ca) (by rw [nI_clamp (by omega)]; rfl) ?_⟩))
  exact hQ _ (H _ _ _ hd.2 ⟨pk_us, zp_V_up hv (Nat.le_refl _)⟩)
end
section
/-! the walk of Y that isn't live, down to a marker -/
theorem gp_stm {K V : Nat → Int32} {n p : Nat} {S Sb : List gm_I} {cc lc fc : Nat} : gm_stm K V n (fun _ _ => True) (fun _ S' _ _ _ _ _ _ _ => ∃ S1, S' = S1 ++ Sb) p (S ++ Sb) cc lc fc := by
  unfold gm_stm
  repeat' split
  all_goals try trivial
  all_goals try (cases hO : gm_opn (S ++ Sb))
  all_goals first | trivial | exact ⟨S, rfl⟩ | exact ⟨_ :: S, rfl⟩ | exact ⟨_ :: _ :: S, rfl⟩ | exact ⟨_ :: _ :: _ :: S, rfl⟩ | exact ⟨_ :: _ :: _ :: _ :: S, rfl⟩ | exact ⟨_ :: _ :: _ :: _ :: _ :: _ :: S, rfl⟩
theorem gp_una {K V : Nat → Int32} {n p : Nat} {S Sb : List gm_I} {lc fc : Nat} : gm_una K V n (fun _ _ => True) (fun _ S' _ _ _ _ _ _ _ => ∃ S1, S' = S1 ++ Sb) p (S ++ Sb) lc fc := by
  unfold gm_una
  repeat' split
  all_goals first | trivial | exact ⟨S, rfl⟩ | exact ⟨_ :: S, rfl⟩ | exact ⟨_ :: _ :: S, rfl⟩ | exact ⟨_ :: _ :: _ :: S, rfl⟩ | exact ⟨_ :: _ :: _ :: _ :: S, rfl⟩ | exact ⟨_ :: _ :: _ :: _ :: _ :: _ :: S, rfl⟩
theorem gp_bin {K : Nat → Int32} {n p w : Nat} {S Sb : List gm_I} {lc fc : Nat} : gm_bin K n (fun _ S' _ _ _ _ _ _ _ => ∃ S1, S' = S1 ++ Sb) p w (S ++ Sb) lc fc := by
  unfold gm_bin
  repeat' split
  all_goals first | trivial | exact ⟨S, rfl⟩ | exact ⟨_ :: S, rfl⟩ | exact ⟨_ :: _ :: S, rfl⟩ | exact ⟨_ :: _ :: _ :: S, rfl⟩ | exact ⟨_ :: _ :: _ :: _ :: S, rfl⟩ | exact ⟨_ :: _ :: _ :: _ :: _ :: _ :: S, rfl⟩
theorem gp_prg {K V : Nat → Int32} {n p : Nat} {S Sb : List gm_I} {lc fc : Nat} : gm_prg K V n (fun _ _ => True) (fun _ S' _ _ _ _ _ _ _ => ∃ S1, S' = S1 ++ Sb) p (S ++ Sb) lc fc := by
  unfold gm_prg
  repeat' split
  all_goals first | trivial | exact ⟨S, rfl⟩ | exact ⟨_ :: S, rfl⟩ | exact ⟨_ :: _ :: S, rfl⟩ | exact ⟨_ :: _ :: _ :: S, rfl⟩ | exact ⟨_ :: _ :: _ :: _ :: S, rfl⟩ | exact ⟨_ :: _ :: _ :: _ :: _ :: _ :: S, rfl⟩
theorem gp_d {K V : Nat → Int32} {n p : Nat} {x : gm_I} {S Sb : List gm_I} {cc lc fc : Nat} : gm_d K V n (fun _ _ => True) (fun _ S' _ _ _ _ _ _ _ => ∃ S1, S' = S1 ++ Sb) p x (S ++ Sb) cc lc fc := by
  obtain ⟨t, a, b, e, v⟩ := x
  unfold gm_d
  dsimp only at *
  by_cases z : t = 1
  · subst z; rw [if_pos rfl]
    exact gp_prg
  rw [if_neg z]
  by_cases z : t = 2
  · subst z; rw [if_pos rfl]
    repeat' split
    all_goals first | trivial | exact ⟨S, rfl⟩ | exact ⟨_ :: S, rfl⟩ | exact ⟨_ :: _ :: S, rfl⟩ | exact ⟨_ :: _ :: _ :: S, rfl⟩ | exact ⟨_ :: _ :: _ :: _ :: S, rfl⟩ | exact ⟨_ :: _ :: _ :: _ :: _ :: _ :: S, rfl⟩
  rw [if_neg z]
  by_cases z : t = 3
  · subst z; rw [if_pos rfl]
    split
    · exact ⟨S, rfl⟩
    · exact gp_stm (S := gi_B :: S)
  rw [if_neg z]
  by_cases z : t = 4
  · subst z; rw [if_pos rfl]
    exact gp_stm
  rw [if_neg z]
  by_cases z : t = 5
  · subst z; rw [if_pos rfl]
    repeat' split
    all_goals first | trivial | exact ⟨S, rfl⟩ | exact ⟨_ :: S, rfl⟩ | exact ⟨_ :: _ :: S, rfl⟩ | exact ⟨_ :: _ :: _ :: S, rfl⟩ | exact ⟨_ :: _ :: _ :: _ :: S, rfl⟩ | exact ⟨_ :: _ :: _ :: _ :: _ :: _ :: S, rfl⟩
  rw [if_neg z]
  by_cases z : t = 6
  · subst z; rw [if_pos rfl]
    repeat' split
    all_goals first | trivial | exact ⟨S, rfl⟩ | exact ⟨_ :: S, rfl⟩ | exact ⟨_ :: _ :: S, rfl⟩ | exact ⟨_ :: _ :: _ :: S, rfl⟩ | exact ⟨_ :: _ :: _ :: _ :: S, rfl⟩ | exact ⟨_ :: _ :: _ :: _ :: _ :: _ :: S, rfl⟩
  rw [if_neg z]
  by_cases z : t = 7
  · subst z; rw [if_pos rfl]
    repeat' split
    all_goals first | trivial | exact ⟨S, rfl⟩ | exact ⟨_ :: S, rfl⟩ | exact ⟨_ :: _ :: S, rfl⟩ | exact ⟨_ :: _ :: _ :: S, rfl⟩ | exact ⟨_ :: _ :: _ :: _ :: S, rfl⟩ | exact ⟨_ :: _ :: _ :: _ :: _ :: _ :: S, rfl⟩
  rw [if_neg z]
  by_cases z : t = 8
  · subst z; rw [if_pos rfl]
    repeat' split
    all_goals first | trivial | exact ⟨S, rfl⟩ | exact ⟨_ :: S, rfl⟩ | exact ⟨_ :: _ :: S, rfl⟩ | exact ⟨_ :: _ :: _ :: S, rfl⟩ | exact ⟨_ :: _ :: _ :: _ :: S, rfl⟩ | exact ⟨_ :: _ :: _ :: _ :: _ :: _ :: S, rfl⟩
  rw [if_neg z]
  by_cases z : t = 9
  · subst z; rw [if_pos rfl]
    repeat' split
    all_goals first | trivial | exact ⟨S, rfl⟩ | exact ⟨_ :: S, rfl⟩ | exact ⟨_ :: _ :: S, rfl⟩ | exact ⟨_ :: _ :: _ :: S, rfl⟩ | exact ⟨_ :: _ :: _ :: _ :: S, rfl⟩ | exact ⟨_ :: _ :: _ :: _ :: _ :: _ :: S, rfl⟩
  rw [if_neg z]
  by_cases z : t = 10
  · subst z; rw [if_pos rfl]
    repeat' split
    all_goals first | trivial | exact ⟨S, rfl⟩ | exact ⟨_ :: S, rfl⟩ | exact ⟨_ :: _ :: S, rfl⟩ | exact ⟨_ :: _ :: _ :: S, rfl⟩ | exact ⟨_ :: _ :: _ :: _ :: S, rfl⟩ | exact ⟨_ :: _ :: _ :: _ :: _ :: _ :: S, rfl⟩
  rw [if_neg z]
  by_cases z : t = 11 ∨ t = 19 ∨ t = 20
  · rw [if_pos z]; exact ⟨S, rfl⟩
  rw [if_neg z]
  by_cases z : t = 12
  · subst z; rw [if_pos rfl]
    exact gp_una (S := gi_R a :: S)
  rw [if_neg z]
  by_cases z : t = 13
  · subst z; rw [if_pos rfl]
    exact gp_bin
  rw [if_neg z]
  by_cases z : t = 14
  · subst z; rw [if_pos rfl]
    exact gp_una
  rw [if_neg z]
  by_cases z : t = 15
  · subst z; rw [if_pos rfl]
    repeat' split
    all_goals first | trivial | exact ⟨S, rfl⟩ | exact ⟨_ :: S, rfl⟩ | exact ⟨_ :: _ :: S, rfl⟩ | exact ⟨_ :: _ :: _ :: S, rfl⟩ | exact ⟨_ :: _ :: _ :: _ :: S, rfl⟩ | exact ⟨_ :: _ :: _ :: _ :: _ :: _ :: S, rfl⟩
  rw [if_neg z]
  by_cases z : t = 16
  · subst z; rw [if_pos rfl]
    repeat' split
    all_goals first | trivial | exact ⟨S, rfl⟩ | exact ⟨_ :: S, rfl⟩ | exact ⟨_ :: _ :: S, rfl⟩ | exact ⟨_ :: _ :: _ :: S, rfl⟩ | exact ⟨_ :: _ :: _ :: _ :: S, rfl⟩ | exact ⟨_ :: _ :: _ :: _ :: _ :: _ :: S, rfl⟩
  rw [if_neg z]
  by_cases z : t = 17
  · subst z; rw [if_pos rfl]
    repeat' split
    all_goals first | trivial | exact ⟨S, rfl⟩ | exact ⟨_ :: S, rfl⟩ | exact ⟨_ :: _ :: S, rfl⟩ | exact ⟨_ :: _ :: _ :: S, rfl⟩ | exact ⟨_ :: _ :: _ :: _ :: S, rfl⟩ | exact ⟨_ :: _ :: _ :: _ :: _ :: _ :: S, rfl⟩
  rw [if_neg z]
  by_cases z : t = 18
  · subst z; rw [if_pos rfl]
    repeat' split
    all_goals first | trivial | exact ⟨S, rfl⟩ | exact ⟨_ :: S, rfl⟩ | exact ⟨_ :: _ :: S, rfl⟩ | exact ⟨_ :: _ :: _ :: S, rfl⟩ | exact ⟨_ :: _ :: _ :: _ :: S, rfl⟩ | exact ⟨_ :: _ :: _ :: _ :: _ :: _ :: S, rfl⟩
  rw [if_neg z]
  trivial
theorem ok_req {K V : Nat → Int32} {n : Nat} {F : gm_A} {NF : Nat} (ht : gm_tok K V n) : ∀ (m p : Nat) (S : List gm_I) (cc lc fc : Nat), gm_ok K V n F NF m p S cc lc fc → p + gm_sm gw_r S ≤ n := by
  intro m
  induction m with
  | zero => intro p S cc lc fc h; exact h.elim
  | succ m ih =>
    intro p S cc lc fc h
    cases S with
    | nil => exact h.1.1
    | cons x S =>
      obtain ⟨hI, _, hd⟩ := h
      refine gm_out (gm_and hd (gm_inv_d ht hI) (fun _ _ a _ => a) (fun p' S' lc' fc' b es lw aw fw a c => ?_))
      have := ih _ _ _ _ _ a.2.2
      have := c.2.2.2
      omega
def gm_to (K V : Nat → Int32) (n : Nat) (Sb : List gm_I) (p' cc' lc' fc' : Nat) : Nat → Nat → List gm_I → Nat → Nat → Nat → Prop
  | 0, p, S1, cc, lc, fc => S1 = [] ∧ p = p' ∧ cc = cc' ∧ lc = lc' ∧ fc = fc'
  | k + 1, p, S1, cc, lc, fc => ∃ x S2, S1 = x :: S2 ∧ gm_inv K V n p (x :: (S2 ++ Sb)) cc lc fc ∧ p + gm_sm gw_r (x :: (S2 ++ Sb)) ≤ n ∧
    gm_d K V n (fun _ _ => False) (fun p1 S' lc1 fc1 _ es _ _ _ => ∃ S3, S' = S3 ++ Sb ∧ gm_to K V n Sb p' cc' lc' fc' k p1 S3 (cc + es.length) lc1 fc1) p x (S2 ++ Sb) cc lc fc
theorem gm_to_ex {K V : Nat → Int32} {n : Nat} {F : gm_A} {NF : Nat} {Sb : List gm_I} (ht : gm_tok K V n) : ∀ (m p : Nat) (S1 : List gm_I) (cc lc fc : Nat), gm_ok K V n F NF m p (S1 ++ Sb) cc lc fc →
    ∃ k m' p' cc' lc' fc', m' + k = m ∧ gm_to K V n Sb p' cc' lc' fc' k p S1 cc lc fc ∧ gm_ok K V n F NF m' p' Sb cc' lc' fc' := by
  intro m
  induction m with
  | zero => intro p S cc lc fc h; exact h.elim
  | succ m ih =>
    intro p S1 cc lc fc h
    have hq := ok_req ht _ _ _ _ _ _ h
    cases S1 with
    | nil => exact ⟨0, m + 1, p, cc, lc, fc, rfl, ⟨rfl, rfl, rfl, rfl, rfl⟩, h⟩
    | cons x S2 =>
      rw [List.cons_append] at h hq
      obtain ⟨hI, _, hd⟩ := h
      have h3 := gm_and (E2 := fun _ _ => False) (C2 := fun p1 S' lc1 fc1 _ es _ _ _ => (∃ S3, S' = S3 ++ Sb) ∧ gm_ok K V n F NF m p1 S' (cc + es.length) lc1 fc1) hd (gp_d (S := S2) (Sb := Sb)) (fun _ _ a _ => a) (fun p' S' lc' fc' b es lw aw fw a c => ⟨c, a.2.2⟩)
      rw [gm_eq] at h3
      cases hr : gm_v K V n p x (S2 ++ Sb) cc lc fc with
      | inl y => rw [hr] at h3; obtain ⟨e, w⟩ := y; exact h3.elim
      | inr y =>
        rw [hr] at h3
        obtain ⟨p1, S', lc1, fc1, b, es, lw, aw, fw⟩ := y
        obtain ⟨⟨S3, rfl⟩, hok⟩ := h3
        obtain ⟨k, m', p', cc', lc', fc', e1, e2, e3⟩ := ih _ _ _ _ _ hok
        refine ⟨k + 1, m', p', cc', lc', fc', by omega, ⟨x, S2, rfl, hI, hq, ?_⟩, e3⟩
        rw [gm_eq, hr]
        exact ⟨S3, rfl, e2⟩
theorem gm_sm_app (w : gm_I → Nat) : ∀ (S T : List gm_I), gm_sm w (S ++ T) = gm_sm w S + gm_sm w T
  | [], T => by simp [gm_sm]
  | x :: S, T => by simp only [List.cons_append, gm_sm, gm_sm_app w S T]; omega
theorem yd_walk {post : SY → Prop} {W : SY} {pd : Int32} {n h : Nat} {Sb : List gm_I} {Tb : List Nat} {p' cc' lc' fc' : Nat} {o : Int32} {f0 : Nat} {A0 : gm_A} {R0 : List gm_I} (hW : yh W false n h) (hpd : W.2.2.2.2.2.2.2.2.2.2.2.2.2.1 = pd) (hTb : Tb.length + 150 < 1300) :
    ∀ (k g p : Nat) (S1 : List gm_I) (cc lc fc : Nat) (T : List Nat) (R : List gm_I), gm_to W.2.2.2.2.2.2.2.2.2.2.2.2.2.2.2.2.2.2.2.2.2.2.2.2.1 W.2.2.2.2.2.2.2.2.2.2.2.2.2.2.2.2.2.2.2.2.2.2.2.2.2.1 n Sb p' cc' lc' fc' k p S1 cc lc fc → yd_R false pd Tb S1 T → g + k ≤ 400000 → (∀ g', g ≤ g' → g' ≤ g + k → yQ post W false g' p' R0 Tb o f0 A0) → yQ post W false g p R T o f0 A0 := by
  intro k
  induction k with
  | zero =>
    intro g p S1 cc lc fc T R h hR hg H
    obtain ⟨rfl, rfl, _⟩ := h
    have : T = Tb := hR
    subst this
    exact H g (Nat.le_refl _) (Nat.le_refl _)
  | succ k ih =>
    intro g p S1 cc lc fc T R h hR hg H
    obtain ⟨x, S2, rfl, hI, hq, hd⟩ := h
    have hl := yd_len2 rfl hR
    obtain ⟨i1, i2, i3, i4, i5⟩ := hI.2.1
    have hn := hW.2.1
    have hp := hI.1
    have hopn := gm_opn_len (S := x :: (S2 ++ Sb))
    have a1 := gm_sm_app gw_c (x :: S2) Sb
    have a2 := gm_sm_app gw_r (x :: S2) Sb
    simp only [List.cons_append] at a1 a2
    suffices key : yQ post W false g p (x :: (S2 ++ Sb)) T 0 fc (fun _ => 0, fun _ => 0, fun _ => 0, fun _ => 0, fun _ => nI x.2.2.1, fun _ => 0, fun _ => 0, fun _ => 0) from fun td hd => key td hd
    refine yg_d (cc := cc) (lc := lc) (A := (fun _ => 0, fun _ => 0, fun _ => 0, fun _ => 0, fun _ => nI x.2.2.1, fun _ => 0, fun _ => 0, fun _ => 0)) (o := 0) hW hpd (by omega) hp hI.2.2.2.2.2.1.1 hI.2.2.2.2.2.2.1 (fun _ => rfl) (fun z => ?_) (by omega) (by omega) hR ?_
    · exact ((List.append_eq_nil_iff.mp (hI.2.2.1.1 z)).1)
    · refine gm_mono hd (fun _ _ z => z.elim) (fun p1 S' lc1 fc1 b es lw aw fw c S4 T' g' e1 g1 g2 hR' => ?_)
      obtain ⟨S3, e2, hto⟩ := c
      have e3 : S4 = S3 := List.append_cancel_right (e1.symm.trans e2)
      subst e3
      have := ih g' p1 S4 _ _ _ T' S' hto hR' (by omega) (fun g'' h1 h2 => H g'' (by omega) (by omega))
      exact fun td hd => this td hd
end
section
/-! a live state of Y along G's stack -/
def zlF (K V : Nat → Int32) (n : Nat) (F : gm_A) (NF a q : Nat) (S : List gm_I) : Prop :=
  ∃ m cc lc fc, m ≤ 400 ∧ gm_ok K V n F NF m q (gi_E 1 :: gi_X 5 :: gi_W a q :: S) (cc + 1) lc fc ∧ F.2.2.2.1 a = nI cc ∧ F.1 cc = nI 63 ∧ F.2.2.1 cc = nI (q - 2) ∧ 2 ≤ q ∧ q ≤ 120 ∧ cc < 360
def zl (K V : Nat → Int32) (n : Nat) (F : gm_A) (NF : Nat) (Tb : List Nat) (hb : Nat) : List gm_I → List Nat → Nat → Prop
  | [], _, _ => False
  | x :: S, T, h =>
    if x.1 = 1 then False
    else if x.1 = 2 then S = [gi_P] ∧ T = Tb ∧ h = hb
    else if x.1 = 8 then zl K V n F NF Tb hb S T h
    else if x.1 = 10 then ∃ q e T', T = e :: T' ∧ q < 1024 ∧ yp_e e (9 + 32 * q) ∧ zlF K V n F NF x.2.1 q S ∧ zl K V n F NF Tb hb S T' h
    else if x.1 = 7 then ∃ e T', T = e :: T' ∧ yp_e e 39 ∧ zl K V n F NF Tb hb S T' h
    else if x.1 = 12 then (x.2.1 = 1 ∧ ∃ e T', T = e :: T' ∧ yp_e e 16 ∧ zl K V n F NF Tb hb S T' (h + 1)) ∨ (x.2.1 ≠ 1 ∧ ∃ e f T', T = e :: f :: T' ∧ yp_e e 18 ∧ yp_e f (17 + 32 * x.2.1) ∧ zl K V n F NF Tb hb S T' (h + 1))
    else if x.1 = 14 then ∃ e T', T = e :: T' ∧ yp_e e 18 ∧ zl K V n F NF Tb hb S T' (h + 1)
    else if x.1 = 6 then ∃ e T' h', h = h' + 1 ∧ T = e :: T' ∧ yp_e e 6 ∧ zl K V n F NF Tb hb S T' h'
    else if x.1 = 9 then ∃ e T' h', h = h' + 1 ∧ T = e :: T' ∧ yp_e e (8 + 32 * x.2.2.1) ∧ zlF K V n F NF x.2.1 x.2.2.1 S ∧ zl K V n F NF Tb hb S T' h'
    else if x.1 = 19 then ∃ e T' h', h = h' + 1 ∧ T = e :: T' ∧ yp_e e x.2.2.2.1 ∧ (x.2.1 ≤ 31 → 1 ≤ h') ∧ zl K V n F NF Tb hb S T' h'
    else if x.1 = 20 then ∃ e T' h', h = h' + 2 ∧ T = e :: T' ∧ yp_e e x.2.2.2.1 ∧ zl K V n F NF Tb hb S T' h'
    else if x.1 = 18 then ∃ e T' h0 c, h = h0 + c ∧ T = e :: T' ∧ e = yp_n 25 x.2.1 h0 ∧ F.2.2.2.2.2.2.1 (V x.2.1).toNatClampNeg = nI c ∧ c ≤ 3 ∧ zl K V n F NF Tb hb S T' (h0 + 1)
    else if x.1 = 16 then ∃ e T' c, T = e :: T' ∧ yp_e e (23 + 32 * x.2.1) ∧ F.2.2.2.2.2.2.1 (V x.2.1).toNatClampNeg = nI c ∧ c ≤ 3 ∧ (∃ v S2, S = gi_C x.2.1 v :: S2) ∧ zl K V n F NF Tb hb S T' (h + c)
    else if x.1 = 17 then ∃ e T' c h0, h = h0 + x.2.2.1 ∧ T = e :: T' ∧ yp_e e (24 + 32 * x.2.1) ∧ F.2.2.2.2.2.2.1 (V x.2.1).toNatClampNeg = nI c ∧ c ≤ 3 ∧ (∃ v S2, S = gi_C x.2.1 v :: S2) ∧ zl K V n F NF Tb hb S T' (h0 + c)
    else ∃ e T', T = e :: T' ∧ yp_e e (yd_c x) ∧ ((x.1 = 11 ∨ x.1 = 13 ∨ x.1 = 15) → 1 ≤ h) ∧ zl K V n F NF Tb hb S T' h
section
variable {K V : Nat → Int32} {n : Nat} {F : gm_A} {NF : Nat} {Tb : List Nat} {hb : Nat}
theorem zl_len : ∀ {S : List gm_I} {T : List Nat} {h : Nat}, zl K V n F NF Tb hb S T h → T.length ≤ Tb.length + gm_sm gw_c S + gm_sm gw_r S
  | [], _, _, h => h.elim
  | x :: S, T, hh, h => by
    have ih := @zl_len S
    unfold zl at h
    obtain ⟨t, a, b, d, v⟩ := x
    dsimp only at h
    by_cases z : t = 1
    · subst z; rw [if_pos rfl] at h
      exact h.elim
    rw [if_neg z] at h
    by_cases z : t = 2
    · subst z; rw [if_pos rfl] at h
      obtain ⟨rfl, rfl, rfl⟩ := h
      omega
    rw [if_neg z] at h
    by_cases z : t = 8
    · subst z; rw [if_pos rfl] at h
      have := ih h
      simp only [gm_sm]; omega
    rw [if_neg z] at h
    by_cases z : t = 10
    · subst z; rw [if_pos rfl] at h
      obtain ⟨q, e, T', rfl, _, _, _, h⟩ := h
      have := ih h
      simp only [gm_sm, List.length_cons] at *; simp [gw_c, gw_r]; omega
    rw [if_neg z] at h
    by_cases z : t = 7
    · subst z; rw [if_pos rfl] at h
      obtain ⟨e, T', rfl, _, h⟩ := h
      have := ih h
      simp only [gm_sm, List.length_cons] at *; simp [gw_c, gw_r]; omega
    rw [if_neg z] at h
    by_cases z : t = 12
    · subst z; rw [if_pos rfl] at h
      rcases h with ⟨_, e, T', rfl, _, h⟩ | ⟨_, e, f, T', rfl, _, _, h⟩
      · have := ih h; simp only [gm_sm, List.length_cons] at *; simp [gw_c, gw_r]; omega
      · have := ih h; simp only [gm_sm, List.length_cons] at *; simp [gw_c, gw_r]; omega
    rw [if_neg z] at h
    by_cases z : t = 14
    · subst z; rw [if_pos rfl] at h
      obtain ⟨e, T', rfl, _, h⟩ := h
      have := ih h
      simp only [gm_sm, List.length_cons] at *; simp [gw_c, gw_r]; omega
    rw [if_neg z] at h
    by_cases z : t = 6
    · subst z; rw [if_pos rfl] at h
      obtain ⟨e, T', h', rfl, rfl, _, h⟩ := h
      have := ih h
      simp only [gm_sm, List.length_cons] at *; simp [gw_c, gw_r]; omega
    rw [if_neg z] at h
    by_cases z : t = 9
    · subst z; rw [if_pos rfl] at h
      obtain ⟨e, T', h', rfl, rfl, _, _, h⟩ := h
      have := ih h
      simp only [gm_sm, List.length_cons] at *; simp [gw_c, gw_r]; omega
    rw [if_neg z] at h
    by_cases z : t = 19
    · subst z; rw [if_pos rfl] at h
      obtain ⟨e, T', h', rfl, rfl, _, _, h⟩ := h
      have := ih h
      simp only [gm_sm, List.length_cons] at *; simp [gw_c, gw_r]; omega
    rw [if_neg z] at h
    by_cases z : t = 20
    · subst z; rw [if_pos rfl] at h
      obtain ⟨e, T', h', rfl, rfl, _, h⟩ := h
      have := ih h
      simp only [gm_sm, List.length_cons] at *; simp [gw_c, gw_r]; omega
    rw [if_neg z] at h
    by_cases z : t = 18
    · subst z; rw [if_pos rfl] at h
      obtain ⟨e, T', h0, c, rfl, rfl, _, _, _, h⟩ := h
      have := ih h
      simp only [gm_sm, List.length_cons] at *; simp [gw_c, gw_r]; omega
    rw [if_neg z] at h
    by_cases z : t = 16
    · subst z; rw [if_pos rfl] at h
      obtain ⟨e, T', c, rfl, _, _, _, _, h⟩ := h
      have := ih h
      simp only [gm_sm, List.length_cons] at *; simp [gw_c, gw_r]; omega
    rw [if_neg z] at h
    by_cases z : t = 17
    · subst z; rw [if_pos rfl] at h
      obtain ⟨e, T', c, h0, rfl, rfl, _, _, _, _, h⟩ := h
      have := ih h
      simp only [gm_sm, List.length_cons] at *; simp [gw_c, gw_r]; omega
    rw [if_neg z] at h
    obtain ⟨e, T', rfl, _, _, h⟩ := h
    have := ih h
    have hw : 1 ≤ gw_c (t, a, b, d, v) + gw_r (t, a, b, d, v) := by
      simp only [gw_c, gw_r]
      repeat' split
      all_goals omega
    simp only [gm_sm, List.length_cons]
    omega
/-- heights: two for each value that waits, against the weights; a CALL on top holds its arguments besides -/
theorem zl_ht : ∀ {S : List gm_I} {T : List Nat} {h : Nat}, gm_s2 S → zl K V n F NF Tb hb S T h →
    (¬ gm_hd S = 18 → 2 * h + gm_sm gw_b S ≤ 2 * hb + gm_sm gw_a S) ∧ (∀ a v S2, S = gi_C a v :: S2 → ∃ h0 c, h = h0 + c ∧ c ≤ 3 ∧ F.2.2.2.2.2.2.1 (V a).toNatClampNeg = nI c ∧ 2 * h0 + 2 + gm_sm gw_b S2 ≤ 2 * hb + gm_sm gw_a S2)
  | [], _, _, _, h => h.elim
  | x :: S, T, hh, hs, h => by
    have ih := @zl_ht S
    have h2 := hs.2.2.2
    have h3 := hs.2.2.1
    unfold zl at h
    obtain ⟨t, a, b, d, v⟩ := x
    dsimp only at h
    by_cases z : t = 1
    · subst z; rw [if_pos rfl] at h
      exact h.elim
    rw [if_neg z] at h
    by_cases z : t = 2
    · subst z; rw [if_pos rfl] at h
      obtain ⟨rfl, rfl, rfl⟩ := h
      exact ⟨fun _ => by simp [gm_sm, gw_a, gw_b], fun a' v' S2 e => by simp at e⟩
    rw [if_neg z] at h
    by_cases z : t = 8
    · subst z; rw [if_pos rfl] at h
      skip
      have i := (ih h2 h).1 (fun z => absurd (h3 z) (by simp))
      exact ⟨fun _ => by simp only [gm_sm]; simp [gw_a, gw_b]; omega, fun a' v' S2 e => by simp at e⟩
    rw [if_neg z] at h
    by_cases z : t = 10
    · subst z; rw [if_pos rfl] at h
      obtain ⟨q, e, T', rfl, _, _, _, h⟩ := h
      have i := (ih h2 h).1 (fun z => absurd (h3 z) (by simp))
      exact ⟨fun _ => by simp only [gm_sm]; simp [gw_a, gw_b]; omega, fun a' v' S2 e => by simp at e⟩
    rw [if_neg z] at h
    by_cases z : t = 7
    · subst z; rw [if_pos rfl] at h
      obtain ⟨e, T', rfl, _, h⟩ := h
      have i := (ih h2 h).1 (fun z => absurd (h3 z) (by simp))
      exact ⟨fun _ => by simp only [gm_sm]; simp [gw_a, gw_b]; omega, fun a' v' S2 e => by simp at e⟩
    rw [if_neg z] at h
    by_cases z : t = 12
    · subst z; rw [if_pos rfl] at h
      rcases h with ⟨_, e, T', rfl, _, h⟩ | ⟨_, e, f, T', rfl, _, _, h⟩
      · have i := (ih h2 h).1 (fun z => absurd (h3 z) (by simp))
        exact ⟨fun _ => by simp only [gm_sm]; simp [gw_a, gw_b]; omega, fun a' v' S2 e => by simp at e⟩
      · have i := (ih h2 h).1 (fun z => absurd (h3 z) (by simp))
        exact ⟨fun _ => by simp only [gm_sm]; simp [gw_a, gw_b]; omega, fun a' v' S2 e => by simp at e⟩
    rw [if_neg z] at h
    by_cases z : t = 14
    · subst z; rw [if_pos rfl] at h
      obtain ⟨e, T', rfl, _, h⟩ := h
      have i := (ih h2 h).1 (fun z => absurd (h3 z) (by simp))
      exact ⟨fun _ => by simp only [gm_sm]; simp [gw_a, gw_b]; omega, fun a' v' S2 e => by simp at e⟩
    rw [if_neg z] at h
    by_cases z : t = 6
    · subst z; rw [if_pos rfl] at h
      obtain ⟨e, T', h', rfl, rfl, _, h⟩ := h
      have i := (ih h2 h).1 (fun z => absurd (h3 z) (by simp))
      exact ⟨fun _ => by simp only [gm_sm]; simp [gw_a, gw_b]; omega, fun a' v' S2 e => by simp at e⟩
    rw [if_neg z] at h
    by_cases z : t = 9
    · subst z; rw [if_pos rfl] at h
      obtain ⟨e, T', h', rfl, rfl, _, _, h⟩ := h
      have i := (ih h2 h).1 (fun z => absurd (h3 z) (by simp))
      exact ⟨fun _ => by simp only [gm_sm]; simp [gw_a, gw_b]; omega, fun a' v' S2 e => by simp at e⟩
    rw [if_neg z] at h
    by_cases z : t = 19
    · subst z; rw [if_pos rfl] at h
      obtain ⟨e, T', h', rfl, rfl, _, _, h⟩ := h
      have i := (ih h2 h).1 (fun z => absurd (h3 z) (by simp))
      exact ⟨fun _ => by simp only [gm_sm]; simp [gw_a, gw_b]; omega, fun a' v' S2 e => by simp at e⟩
    rw [if_neg z] at h
    by_cases z : t = 20
    · subst z; rw [if_pos rfl] at h
      obtain ⟨e, T', h', rfl, rfl, _, h⟩ := h
      have i := (ih h2 h).1 (fun z => absurd (h3 z) (by simp))
      exact ⟨fun _ => by simp only [gm_sm]; simp [gw_a, gw_b]; omega, fun a' v' S2 e => by simp at e⟩
    rw [if_neg z] at h
    by_cases z : t = 18
    · subst z; rw [if_pos rfl] at h
      obtain ⟨e, T', h0, c, rfl, rfl, _, hc, hc3, h⟩ := h
      have i := (ih h2 h).1 (fun z => absurd (h3 z) (by simp))
      refine ⟨fun z => absurd rfl z, fun a' v' S2 e => ?_⟩
      simp only [List.cons.injEq, Prod.mk.injEq] at e
      obtain ⟨⟨_, rfl, _⟩, rfl⟩ := e
      exact ⟨h0, c, rfl, hc3, hc, by omega⟩
    rw [if_neg z] at h
    by_cases z : t = 16
    · subst z; rw [if_pos rfl] at h
      obtain ⟨e, T', c, rfl, _, hc, hc3, ⟨v', S2, rfl⟩, h⟩ := h
      obtain ⟨h0, c', e1, hc', e2, i⟩ := (ih h2 h).2 _ _ _ rfl
      have : c = c' := (nI_eq (by omega) (by omega)).mp (hc.symm.trans e2)
      exact ⟨fun _ => by simp only [gm_sm]; simp [gw_a, gw_b]; omega, fun a' v' S2 e => by simp at e⟩
    rw [if_neg z] at h
    by_cases z : t = 17
    · subst z; rw [if_pos rfl] at h
      obtain ⟨e, T', c, h0', rfl, rfl, _, hc, hc3, ⟨v', S2, rfl⟩, h⟩ := h
      obtain ⟨h0, c', e1, hc', e2, i⟩ := (ih h2 h).2 _ _ _ rfl
      have : c = c' := (nI_eq (by omega) (by omega)).mp (hc.symm.trans e2)
      exact ⟨fun _ => by simp only [gm_sm]; simp [gw_a, gw_b]; omega, fun a' v' S2 e => by simp at e⟩
    rw [if_neg z] at h
    obtain ⟨e, T', rfl, _, _, h⟩ := h
    have i := (ih h2 h).1 (fun z => absurd (h3 z) (by dsimp only; omega))
    refine ⟨fun _ => ?_, fun a' v' S2 e => ?_⟩
    · have e1 : gw_a (t, a, b, d, v) = 0 ∧ gw_b (t, a, b, d, v) = 0 := by
        simp only [gw_a, gw_b]
        constructor
        all_goals repeat' split
        all_goals omega
      simp only [gm_sm, e1.1, e1.2]
      omega
    · simp only [List.cons.injEq, Prod.mk.injEq] at e
      omega
theorem zl_sl : ∀ {S : List gm_I} {T : List Nat} {h : Nat}, gm_sl S → zl K V n F NF Tb hb S T h → h = hb ∧ ∃ S1 x, x.1 = 2 ∧ S = S1 ++ [x, gi_P] ∧ yd_R false 3 Tb S1 T
  | [], _, _, _, h => h.elim
  | x :: S, T, hh, hs, h => by
    have ih := @zl_sl S
    unfold zl at h
    obtain ⟨t, a, b, d, v⟩ := x
    dsimp only at h
    by_cases z : t = 1
    · subst z; rw [if_pos rfl] at h
      exact h.elim
    rw [if_neg z] at h
    by_cases z : t = 2
    · subst z; rw [if_pos rfl] at h
      obtain ⟨rfl, rfl, rfl⟩ := h
      exact ⟨rfl, [], _, rfl, rfl, rfl⟩
    rw [if_neg z] at h
    by_cases z : t = 8
    · subst z; rw [if_pos rfl] at h
      skip
      obtain ⟨i1, S1, x, i2, i3, i4⟩ := ih hs.2 h
      have i5 : yd_R false 3 Tb ((8, a, b, d, v) :: S1) T := i4
      exact ⟨i1, (8, a, b, d, v) :: S1, x, i2, by rw [i3]; rfl, i5⟩
    rw [if_neg z] at h
    by_cases z : t = 10
    · subst z; rw [if_pos rfl] at h
      obtain ⟨q, e, T', rfl, hq, he, _, h⟩ := h
      obtain ⟨i1, S1, x, i2, i3, i4⟩ := ih hs.2 h
      have i5 : yd_R false 3 Tb ((10, a, b, d, v) :: S1) (e :: T') := Or.inr ⟨rfl, Or.inr ⟨rfl, q, e, T', rfl, hq, he, i4⟩⟩
      exact ⟨i1, (10, a, b, d, v) :: S1, x, i2, by rw [i3]; rfl, i5⟩
    rw [if_neg z] at h
    by_cases z : t = 7
    · subst z; rw [if_pos rfl] at h
      obtain ⟨e, T', rfl, he, h⟩ := h
      obtain ⟨i1, S1, x, i2, i3, i4⟩ := ih hs.2 h
      have i5 : yd_R false 3 Tb ((7, a, b, d, v) :: S1) (e :: T') := ⟨1, e, T', rfl, by decide, he, i4⟩
      exact ⟨i1, (7, a, b, d, v) :: S1, x, i2, by rw [i3]; rfl, i5⟩
    rw [if_neg z] at h
    by_cases z : t = 12
    · subst z; rw [if_pos rfl] at h
      exact absurd hs.1 (by simp)
    rw [if_neg z] at h
    by_cases z : t = 14
    · subst z; rw [if_pos rfl] at h
      exact absurd hs.1 (by simp)
    rw [if_neg z] at h
    by_cases z : t = 6
    · subst z; rw [if_pos rfl] at h
      exact absurd hs.1 (by simp)
    rw [if_neg z] at h
    by_cases z : t = 9
    · subst z; rw [if_pos rfl] at h
      exact absurd hs.1 (by simp)
    rw [if_neg z] at h
    by_cases z : t = 19
    · subst z; rw [if_pos rfl] at h
      exact absurd hs.1 (by simp)
    rw [if_neg z] at h
    by_cases z : t = 20
    · subst z; rw [if_pos rfl] at h
      exact absurd hs.1 (by simp)
    rw [if_neg z] at h
    by_cases z : t = 18
    · subst z; rw [if_pos rfl] at h
      exact absurd hs.1 (by simp)
    rw [if_neg z] at h
    by_cases z : t = 16
    · subst z; rw [if_pos rfl] at h
      exact absurd hs.1 (by simp)
    rw [if_neg z] at h
    by_cases z : t = 17
    · subst z; rw [if_pos rfl] at h
      exact absurd hs.1 (by simp)
    rw [if_neg z] at h
    have h34 : t = 3 ∨ t = 4 := by have := hs.1; dsimp only at this; omega
    obtain ⟨e, T', rfl, he, _, h⟩ := h
    obtain ⟨i1, S1, x, i2, i3, i4⟩ := ih hs.2 h
    refine ⟨i1, (t, a, b, d, v) :: S1, x, i2, by rw [i3]; rfl, yr_1 ?_ he i4⟩
    dsimp only
    omega
theorem zl_brk {pd : Int32} {l : Nat} {ol : List Nat} : ∀ {S : List gm_I} {T : List Nat} {h : Nat}, gm_sl S → zl K V n F NF Tb hb S T h → gm_opn S = l :: ol →
    ∃ S1 x S2 q e T2, x.1 = 10 ∧ x.2.1 = l ∧ S = S1 ++ x :: S2 ∧ yd_R false pd (e :: T2) S1 T ∧ q < 1024 ∧ yp_e e (9 + 32 * q) ∧ zlF K V n F NF l q S2 ∧ zl K V n F NF Tb hb S2 T2 h ∧ gm_sl S2
  | [], _, _, _, h, _ => h.elim
  | x :: S, T, hh, hs, h, ho => by
    have ih := @zl_brk pd l ol S
    unfold zl at h
    obtain ⟨t, a, b, d, v⟩ := x
    dsimp only at h
    by_cases z : t = 1
    · subst z; rw [if_pos rfl] at h
      exact h.elim
    rw [if_neg z] at h
    by_cases z : t = 2
    · subst z; rw [if_pos rfl] at h
      obtain ⟨rfl, rfl, rfl⟩ := h
      exact absurd ho (by simp [gm_opn])
    rw [if_neg z] at h
    by_cases z : t = 8
    · subst z; rw [if_pos rfl] at h
      skip
      obtain ⟨S1, x, S2, q, e', T2, i1, i2, i3, i4, i5⟩ := ih hs.2 h ho
      have i6 : yd_R false pd (e' :: T2) ((8, a, b, d, v) :: S1) T := i4
      exact ⟨(8, a, b, d, v) :: S1, x, S2, q, e', T2, i1, i2, by rw [i3]; rfl, i6, i5⟩
    rw [if_neg z] at h
    by_cases z : t = 10
    · subst z; rw [if_pos rfl] at h
      obtain ⟨q, e, T', rfl, hq, he, hF, h⟩ := h
      have e1 : a = l := by simpa [gm_opn] using congrArg List.head? ho
      subst e1
      exact ⟨[], _, S, q, e, T', rfl, rfl, rfl, rfl, hq, he, hF, h, hs.2⟩
    rw [if_neg z] at h
    by_cases z : t = 7
    · subst z; rw [if_pos rfl] at h
      obtain ⟨e, T', rfl, he, h⟩ := h
      obtain ⟨S1, x, S2, q, e', T2, i1, i2, i3, i4, i5⟩ := ih hs.2 h ho
      have i6 : yd_R false pd (e' :: T2) ((7, a, b, d, v) :: S1) (e :: T') := ⟨1, e, T', rfl, by decide, he, i4⟩
      exact ⟨(7, a, b, d, v) :: S1, x, S2, q, e', T2, i1, i2, by rw [i3]; rfl, i6, i5⟩
    rw [if_neg z] at h
    by_cases z : t = 12
    · subst z; rw [if_pos rfl] at h
      exact absurd hs.1 (by simp)
    rw [if_neg z] at h
    by_cases z : t = 14
    · subst z; rw [if_pos rfl] at h
      exact absurd hs.1 (by simp)
    rw [if_neg z] at h
    by_cases z : t = 6
    · subst z; rw [if_pos rfl] at h
      exact absurd hs.1 (by simp)
    rw [if_neg z] at h
    by_cases z : t = 9
    · subst z; rw [if_pos rfl] at h
      exact absurd hs.1 (by simp)
    rw [if_neg z] at h
    by_cases z : t = 19
    · subst z; rw [if_pos rfl] at h
      exact absurd hs.1 (by simp)
    rw [if_neg z] at h
    by_cases z : t = 20
    · subst z; rw [if_pos rfl] at h
      exact absurd hs.1 (by simp)
    rw [if_neg z] at h
    by_cases z : t = 18
    · subst z; rw [if_pos rfl] at h
      exact absurd hs.1 (by simp)
    rw [if_neg z] at h
    by_cases z : t = 16
    · subst z; rw [if_pos rfl] at h
      exact absurd hs.1 (by simp)
    rw [if_neg z] at h
    by_cases z : t = 17
    · subst z; rw [if_pos rfl] at h
      exact absurd hs.1 (by simp)
    rw [if_neg z] at h
    have h34 : t = 3 ∨ t = 4 := by have := hs.1; dsimp only at this; omega
    have ho' : gm_opn S = l :: ol := by rw [← ho]; exact (if_neg (by dsimp only; omega)).symm
    obtain ⟨e, T', rfl, he, _, h⟩ := h
    obtain ⟨S1, x, S2, q, e', T2, i1, i2, i3, i4, i5⟩ := ih hs.2 h ho'
    refine ⟨(t, a, b, d, v) :: S1, x, S2, q, e', T2, i1, i2, by rw [i3]; rfl, yr_1 ?_ he i4, i5⟩
    dsimp only
    omega
end
def frs (K V : Nat → Int32) (n : Nat) (F : gm_A) (NF : Nat) (rt : Nat → Int32) : Nat → List Nat → Nat → Nat → Prop
  | 0, Tb, hb, u => Tb = [yp_n 26 0 0] ∧ hb = 0 ∧ u = 0
  | b + 1, Tb, hb, u => ∃ m p S cc lc fc T' Tb' hb' u', Tb = yp_n 26 p hb :: T' ∧ gm_ok K V n F NF m p S cc lc fc ∧ m ≤ 400 ∧ rt (b + 1) = nI cc ∧ zl K V n F NF Tb' hb' S T' (hb + 1) ∧ frs K V n F NF rt b Tb' hb' u' ∧ u = m + u'
theorem frs_rt {K V : Nat → Int32} {n : Nat} {F : gm_A} {NF : Nat} {rt rt' : Nat → Int32} : ∀ (b : Nat) {Tb : List Nat} {hb u : Nat}, (∀ j, j ≤ b → rt' j = rt j) → frs K V n F NF rt b Tb hb u → frs K V n F NF rt' b Tb hb u
  | 0, _, _, _, _, h => h
  | b + 1, _, _, _, hr, ⟨m, p, S, cc, lc, fc, T', Tb', hb', u', h1, h2, h3, h4, h5, h6, h7⟩ => ⟨m, p, S, cc, lc, fc, T', Tb', hb', u', h1, h2, h3, (hr _ (Nat.le_refl _)).trans h4, h5, frs_rt b (fun j hj => hr j (by omega)) h6, h7⟩
theorem zl_bd {K V : Nat → Int32} {n : Nat} {F : gm_A} {NF m p : Nat} {S : List gm_I} {cc lc fc : Nat} {Tb T : List Nat} {hb h : Nat} (ht : gm_tok K V n) (hn : n ≤ 120) (hok : gm_ok K V n F NF m p S cc lc fc) (hz : zl K V n F NF Tb hb S T h) :
    T.length ≤ Tb.length + 120 ∧ h ≤ hb + 62 := by
  have hI := gm_ok_inv hok
  have h1 := zl_len hz
  have h2 := ok_req ht _ _ _ _ _ _ hok
  obtain ⟨i1, i2, i3, i4, i5⟩ := hI.2.1
  have hp := hI.1
  have h3 := zl_ht hI.2.2.2.2.2.2.2 hz
  refine ⟨by omega, ?_⟩
  by_cases z : gm_hd S = 18
  · cases S with
    | nil => exact hz.elim
    | cons x S =>
      obtain ⟨t, a, b, d, v⟩ := x
      have : t = 18 := z
      subst this
      unfold zl at hz
      dsimp only at hz
      rw [if_neg (by decide), if_neg (by decide), if_neg (by decide), if_neg (by decide), if_neg (by decide), if_neg (by decide), if_neg (by decide), if_neg (by decide), if_neg (by decide), if_neg (by decide), if_neg (by decide), if_pos rfl] at hz
      obtain ⟨e, T', h0, c, rfl, _, _, _, hc, hz⟩ := hz
      have h4 := (zl_ht hI.2.2.2.2.2.2.2.2.2.2 hz).1 (fun y => absurd (hI.2.2.2.2.2.2.2.2.2.1 y) (by simp))
      simp only [gm_sm] at i5
      simp [gw_a, gw_b] at i5
      omega
  · have := h3.1 z
    omega
theorem frs_bd {K V : Nat → Int32} {n : Nat} {F : gm_A} {NF : Nat} {rt : Nat → Int32} (ht : gm_tok K V n) (hn : n ≤ 120) : ∀ (b : Nat) {Tb : List Nat} {hb u : Nat}, frs K V n F NF rt b Tb hb u → Tb.length ≤ 121 * b + 1 ∧ hb ≤ 61 * b
  | 0, _, _, _, ⟨h1, h2, _⟩ => by subst h1 h2; simp
  | b + 1, _, _, _, ⟨m, p, S, cc, lc, fc, T', Tb', hb', u', h1, h2, h3, h4, h5, h6, h7⟩ => by
    have i := frs_bd ht hn b h6
    have j := zl_bd ht hn h2 h5
    subst h1
    simp only [List.length_cons]
    omega
end
section
/-! X, run: the instructions over lists -/
def zX (PX : Int32 → SX → Prop) (U : SX) (r s b : Nat) (vs : List Int32) (pc t pr : Nat) (vr rt mem out : Nat → Int32) : Prop :=
  ∀ reg fr st, zp_R r b reg fr vr → zp_V st vs → zL PX s (U.1, U.2.1, U.2.2.1, U.2.2.2.1, U.2.2.2.2.1, U.2.2.2.2.2.1, U.2.2.2.2.2.2.1, U.2.2.2.2.2.2.2.1, U.2.2.2.2.2.2.2.2.1, U.2.2.2.2.2.2.2.2.2.1, U.2.2.2.2.2.2.2.2.2.2.1, nI (b + 1), nI vs.length, nI pc, 1, 0, -1, 0, nI (120 - t), nI pr, U.2.2.2.2.2.2.2.2.2.2.2.2.2.2.2.2.2.2.2.2.1, U.2.2.2.2.2.2.2.2.2.2.2.2.2.2.2.2.2.2.2.2.2.1, U.2.2.2.2.2.2.2.2.2.2.2.2.2.2.2.2.2.2.2.2.2.2.1, U.2.2.2.2.2.2.2.2.2.2.2.2.2.2.2.2.2.2.2.2.2.2.2.1, U.2.2.2.2.2.2.2.2.2.2.2.2.2.2.2.2.2.2.2.2.2.2.2.2.1, U.2.2.2.2.2.2.2.2.2.2.2.2.2.2.2.2.2.2.2.2.2.2.2.2.2.1, U.2.2.2.2.2.2.2.2.2.2.2.2.2.2.2.2.2.2.2.2.2.2.2.2.2.2.1, U.2.2.2.2.2.2.2.2.2.2.2.2.2.2.2.2.2.2.2.2.2.2.2.2.2.2.2.1, U.2.2.2.2.2.2.2.2.2.2.2.2.2.2.2.2.2.2.2.2.2.2.2.2.2.2.2.2.1, U.2.2.2.2.2.2.2.2.2.2.2.2.2.2.2.2.2.2.2.2.2.2.2.2.2.2.2.2.2.1, U.2.2.2.2.2.2.2.2.2.2.2.2.2.2.2.2.2.2.2.2.2.2.2.2.2.2.2.2.2.2.1, U.2.2.2.2.2.2.2.2.2.2.2.2.2.2.2.2.2.2.2.2.2.2.2.2.2.2.2.2.2.2.2.1, U.2.2.2.2.2.2.2.2.2.2.2.2.2.2.2.2.2.2.2.2.2.2.2.2.2.2.2.2.2.2.2.2.1, reg, fr, rt, st, mem, out)
def zF (PX : Int32 → SX → Prop) (U : SX) (how pl v : Int32) (t pr : Nat) (mem out : Nat → Int32) : Prop :=
  ∀ (ac sc nc : Int32) (reg fr rt st : Nat → Int32), PX how (U.1, U.2.1, U.2.2.1, U.2.2.2.1, U.2.2.2.2.1, U.2.2.2.2.2.1, U.2.2.2.2.2.2.1, U.2.2.2.2.2.2.2.1, U.2.2.2.2.2.2.2.2.1, U.2.2.2.2.2.2.2.2.2.1, U.2.2.2.2.2.2.2.2.2.2.1, ac, sc, nc, 0, how, pl, v, nI (120 - t), nI pr, U.2.2.2.2.2.2.2.2.2.2.2.2.2.2.2.2.2.2.2.2.1, U.2.2.2.2.2.2.2.2.2.2.2.2.2.2.2.2.2.2.2.2.2.1, U.2.2.2.2.2.2.2.2.2.2.2.2.2.2.2.2.2.2.2.2.2.2.1, U.2.2.2.2.2.2.2.2.2.2.2.2.2.2.2.2.2.2.2.2.2.2.2.1, U.2.2.2.2.2.2.2.2.2.2.2.2.2.2.2.2.2.2.2.2.2.2.2.2.1, U.2.2.2.2.2.2.2.2.2.2.2.2.2.2.2.2.2.2.2.2.2.2.2.2.2.1, U.2.2.2.2.2.2.2.2.2.2.2.2.2.2.2.2.2.2.2.2.2.2.2.2.2.2.1, U.2.2.2.2.2.2.2.2.2.2.2.2.2.2.2.2.2.2.2.2.2.2.2.2.2.2.2.1, U.2.2.2.2.2.2.2.2.2.2.2.2.2.2.2.2.2.2.2.2.2.2.2.2.2.2.2.2.1, U.2.2.2.2.2.2.2.2.2.2.2.2.2.2.2.2.2.2.2.2.2.2.2.2.2.2.2.2.2.1, U.2.2.2.2.2.2.2.2.2.2.2.2.2.2.2.2.2.2.2.2.2.2.2.2.2.2.2.2.2.2.1, U.2.2.2.2.2.2.2.2.2.2.2.2.2.2.2.2.2.2.2.2.2.2.2.2.2.2.2.2.2.2.2.1, U.2.2.2.2.2.2.2.2.2.2.2.2.2.2.2.2.2.2.2.2.2.2.2.2.2.2.2.2.2.2.2.2.1, reg, fr, rt, st, mem, out)
def zh (U : SX) (F : gm_A) (r : Nat) : Prop := U.2.2.2.2.2.2.2.2.2.2.2.2.2.2.2.2.2.2.2.2.2.2.2.2.2.2.2.1 = F.1 ∧ U.2.2.2.2.2.2.2.2.2.2.2.2.2.2.2.2.2.2.2.2.2.2.2.2.2.2.2.2.1 = F.2.1 ∧ U.2.2.2.2.2.2.2.2.2.2.2.2.2.2.2.2.2.2.2.2.2.2.2.2.2.2.2.2.2.1 = F.2.2.1 ∧ U.2.2.2.2.2.2.2.2.2.2.2.2.2.2.2.2.2.2.2.2.2.2.2.2.2.2.2.2.2.2.1 = F.2.2.2.1 ∧ U.2.2.2.2.2.2.2.2.2.2.2.2.2.2.2.2.2.2.2.2.2.2.2.2.2.2.2.2.2.2.2.1 = F.2.2.2.2.2.1 ∧ U.2.2.2.2.2.2.2.2.2.2.2.2.2.2.2.2.2.2.2.2.2.2.2.2.2.2.2.2.2.2.2.2.1 = F.2.2.2.2.2.2.1 ∧ U.2.2.2.2.2.2.2.2.2.2.1 = nI r ∧ 1 ≤ r ∧ r ≤ 6
theorem zx_push {PX : Int32 → SX → Prop} {U : SX} {F : gm_A} {r s b pc t pr : Nat} {vs : List Int32} {vr rt mem out : Nat → Int32} (hU : zh U F r) (hs : s < 1000000) (hp : pc < 360) (hl : vs.length < 900) {v : Int32} (hk : F.1 pc = nI 51) (hx : F.2.1 pc = v) (H : zX PX U r (s + 1) b (v :: vs) (pc + 1) t pr vr rt mem out) : zX PX U r s b vs pc t pr vr rt mem out := by
  intro reg fr st hR hV
  refine zi hs rfl fun Q hQ => ?_
  have hx : U.2.2.2.2.2.2.2.2.2.2.2.2.2.2.2.2.2.2.2.2.2.2.2.2.2.2.2.2.1 pc = v := (congrFun hU.2.1 pc).trans hx
  subst hx
  exact zz_push rfl hp ((congrFun hU.1 pc).trans hk) rfl (by omega) hV fun st hs => hQ _ (H _ _ _ hR hs)
theorem zx_load {PX : Int32 → SX → Prop} {U : SX} {F : gm_A} {r s b pc t pr : Nat} {vs : List Int32} {vr rt mem out : Nat → Int32} (hU : zh U F r) (hs : s < 1000000) (hp : pc < 360) (hl : vs.length < 900) {u : Nat} (hk : F.1 pc = nI 52) (hx : F.2.1 pc = nI u) (hu : u ≤ 5) (hb : b ≤ 7) (H : zX PX U r (s + 1) b (vr (6 * b + u) :: vs) (pc + 1) t pr vr rt mem out) : zX PX U r s b vs pc t pr vr rt mem out := by
  intro reg fr st hR hV
  refine zi hs rfl fun Q hQ => ?_
  have hx : U.2.2.2.2.2.2.2.2.2.2.2.2.2.2.2.2.2.2.2.2.2.2.2.2.2.2.2.2.1 pc = nI u := (congrFun hU.2.1 pc).trans hx
  exact zz_load rfl hp hU.2.2.2.2.2.2.1 hU.2.2.2.2.2.2.2.1 hU.2.2.2.2.2.2.2.2 ((congrFun hU.1 pc).trans hk) hx hu rfl hb hR rfl (by omega) hV fun st hs => hQ _ (H _ _ _ hR hs)
theorem zx_set {PX : Int32 → SX → Prop} {U : SX} {F : gm_A} {r s b pc t pr : Nat} {vs : List Int32} {vr rt mem out : Nat → Int32} (hU : zh U F r) (hs : s < 1000000) (hp : pc < 360) (hl : vs.length < 900) {u : Nat} {v : Int32} (hk : F.1 pc = nI 53) (hx : F.2.1 pc = nI u) (hu : u ≤ 5) (hb : b ≤ 7) (H : zX PX U r (s + 1) b vs (pc + 1) t pr (upd vr (6 * b + u) v) rt mem out) : zX PX U r s b (v :: vs) pc t pr vr rt mem out := by
  intro reg fr st hR hV
  refine zi hs rfl fun Q hQ => ?_
  have hx : U.2.2.2.2.2.2.2.2.2.2.2.2.2.2.2.2.2.2.2.2.2.2.2.2.2.2.2.2.1 pc = nI u := (congrFun hU.2.1 pc).trans hx
  exact zz_set rfl hp hU.2.2.2.2.2.2.1 hU.2.2.2.2.2.2.2.1 hU.2.2.2.2.2.2.2.2 ((congrFun hU.1 pc).trans hk) hx hu rfl hb hR rfl (by omega) hV fun reg fr hR => hQ _ (H _ _ _ hR hV.2)
theorem zx_lde {PX : Int32 → SX → Prop} {U : SX} {F : gm_A} {r s b pc t pr : Nat} {vs : List Int32} {vr rt mem out : Nat → Int32} (hU : zh U F r) (hs : s < 1000000) (hp : pc < 360) (hl : vs.length < 900) {i q : Int32} (hk : F.1 pc = nI 54) (hx : F.2.2.1 pc = q) (H1 : ¬ i < 0 → i ≤ 15 → zX PX U r (s + 1) b (mem i.toNatClampNeg :: vs) (pc + 1) t pr vr rt mem out) (H2 : (i < 0 ∨ ¬ i ≤ 15) → zF PX U 2 q 0 t pr mem out) : zX PX U r s b (i :: vs) pc t pr vr rt mem out := by
  intro reg fr st hR hV
  refine zi hs rfl fun Q hQ => ?_
  have hx : U.2.2.2.2.2.2.2.2.2.2.2.2.2.2.2.2.2.2.2.2.2.2.2.2.2.2.2.2.2.1 pc = q := (congrFun hU.2.2.1 pc).trans hx
  subst hx
  exact zz_lde rfl hp ((congrFun hU.1 pc).trans hk) rfl (by omega) hV (fun z y st hs => hQ _ (H1 z y _ _ _ hR hs)) (fun z => hQ _ (ze_end (by omega) rfl (H2 z _ _ _ _ _ _ _)))
theorem zx_ste {PX : Int32 → SX → Prop} {U : SX} {F : gm_A} {r s b pc t pr : Nat} {vs : List Int32} {vr rt mem out : Nat → Int32} (hU : zh U F r) (hs : s < 1000000) (hp : pc < 360) (hl : vs.length < 900) {v i q : Int32} (hk : F.1 pc = nI 55) (hx : F.2.2.1 pc = q) (H1 : ¬ i < 0 → i ≤ 15 → zX PX U r (s + 1) b vs (pc + 1) t pr vr rt (upd mem i.toNatClampNeg v) out) (H2 : (i < 0 ∨ ¬ i ≤ 15) → zF PX U 2 q 0 t pr mem out) : zX PX U r s b (v :: i :: vs) pc t pr vr rt mem out := by
  intro reg fr st hR hV
  refine zi hs rfl fun Q hQ => ?_
  have hx : U.2.2.2.2.2.2.2.2.2.2.2.2.2.2.2.2.2.2.2.2.2.2.2.2.2.2.2.2.2.1 pc = q := (congrFun hU.2.2.1 pc).trans hx
  subst hx
  exact zz_ste rfl hp ((congrFun hU.1 pc).trans hk) rfl (by omega) hV (fun z y => hQ _ (H1 z y _ _ _ hR hV.2.2)) (fun z => hQ _ (ze_end (by omega) rfl (H2 z _ _ _ _ _ _ _)))
theorem zx_drop {PX : Int32 → SX → Prop} {U : SX} {F : gm_A} {r s b pc t pr : Nat} {vs : List Int32} {vr rt mem out : Nat → Int32} (hU : zh U F r) (hs : s < 1000000) (hp : pc < 360) (hl : vs.length < 900) {v : Int32} (hk : F.1 pc = nI 56) (H : zX PX U r (s + 1) b vs (pc + 1) t pr vr rt mem out) : zX PX U r s b (v :: vs) pc t pr vr rt mem out := by
  intro reg fr st hR hV
  refine zi hs rfl fun Q hQ => ?_
  exact zz_drop rfl hp ((congrFun hU.1 pc).trans hk) rfl (by omega) hV (hQ _ (H _ _ _ hR hV.2))
theorem zx_print {PX : Int32 → SX → Prop} {U : SX} {F : gm_A} {r s b pc t pr : Nat} {vs : List Int32} {vr rt mem out : Nat → Int32} (hU : zh U F r) (hs : s < 1000000) (hp : pc < 360) (hl : vs.length < 900) {v : Int32} (hk : F.1 pc = nI 40) (hpr : pr < 2 ^ 30) (H : zX PX U r (s + 1) b vs (pc + 1) t (pr + 1) vr rt mem (if pr < 24 then upd out pr v else out)) : zX PX U r s b (v :: vs) pc t pr vr rt mem out := by
  intro reg fr st hR hV
  refine zi hs rfl fun Q hQ => ?_
  exact zz_print rfl hp ((congrFun hU.1 pc).trans hk) rfl (by omega) hV rfl hpr (hQ _ (H _ _ _ hR hV.2))
theorem zx_room {PX : Int32 → SX → Prop} {U : SX} {F : gm_A} {r s b pc t pr : Nat} {vs : List Int32} {vr rt mem out : Nat → Int32} (hU : zh U F r) (hs : s < 1000000) (hp : pc < 360) (hl : vs.length < 900) {q : Int32} (hk : F.1 pc = nI 62) (hx : F.2.2.1 pc = q) (hb : b ≤ 7) (H1 : b < 7 → zX PX U r (s + 1) b vs (pc + 1) t pr vr rt mem out) (H2 : b = 7 → zF PX U 3 q 0 t pr mem out) : zX PX U r s b vs pc t pr vr rt mem out := by
  intro reg fr st hR hV
  refine zi hs rfl fun Q hQ => ?_
  have hx : U.2.2.2.2.2.2.2.2.2.2.2.2.2.2.2.2.2.2.2.2.2.2.2.2.2.2.2.2.2.1 pc = q := (congrFun hU.2.2.1 pc).trans hx
  subst hx
  exact zz_room rfl hp ((congrFun hU.1 pc).trans hk) rfl (by omega) (fun z => hQ _ (H1 (by omega) _ _ _ hR hV)) (fun z => hQ _ (ze_end (by omega) rfl (H2 (by omega) _ _ _ _ _ _ _)))
theorem zx_tick {PX : Int32 → SX → Prop} {U : SX} {F : gm_A} {r s b pc t pr : Nat} {vs : List Int32} {vr rt mem out : Nat → Int32} (hU : zh U F r) (hs : s < 1000000) (hp : pc < 360) (hl : vs.length < 900) {q : Int32} (hk : F.1 pc = nI 63) (hx : F.2.2.1 pc = q) (ht : t ≤ 120) (H1 : 0 < t → zX PX U r (s + 1) b vs (pc + 1) (t - 1) pr vr rt mem out) (H2 : t = 0 → zF PX U 4 q 0 t pr mem out) : zX PX U r s b vs pc t pr vr rt mem out := by
  intro reg fr st hR hV
  refine zi hs rfl fun Q hQ => ?_
  have hx : U.2.2.2.2.2.2.2.2.2.2.2.2.2.2.2.2.2.2.2.2.2.2.2.2.2.2.2.2.2.1 pc = q := (congrFun hU.2.2.1 pc).trans hx
  subst hx
  exact zz_tick rfl hp ((congrFun hU.1 pc).trans hk) rfl ht (fun z => hQ _ (H1 z _ _ _ hR hV)) (fun z => hQ _ (ze_end (by omega) rfl (H2 z _ _ _ _ _ _ _)))
theorem zx_un {PX : Int32 → SX → Prop} {U : SX} {F : gm_A} {r s b pc t pr : Nat} {vs : List Int32} {vr rt mem out : Nat → Int32} (hU : zh U F r) (hs : s < 1000000) (hp : pc < 360) (hl : vs.length < 900) {k : Nat} {v : Int32} (hk : F.1 pc = nI k) (hk' : k = 50 ∨ k = 32 ∨ k = 33 ∨ k = 57) (H : zX PX U r (s + 1) b (zv_u k v :: vs) (pc + 1) t pr vr rt mem out) : zX PX U r s b (v :: vs) pc t pr vr rt mem out := by
  intro reg fr st hR hV
  refine zi hs rfl fun Q hQ => ?_
  exact zz_un rfl hp ((congrFun hU.1 pc).trans hk) hk' rfl (by omega) hV fun st hs => hQ _ (H _ _ _ hR hs)
theorem zx_bin {PX : Int32 → SX → Prop} {U : SX} {F : gm_A} {r s b pc t pr : Nat} {vs : List Int32} {vr rt mem out : Nat → Int32} (hU : zh U F r) (hs : s < 1000000) (hp : pc < 360) (hl : vs.length < 900) {k : Nat} {x y q : Int32} (hk : F.1 pc = nI k) (hk1 : 15 ≤ k) (hk2 : k ≤ 31) (hx : F.2.2.1 pc = q) (H1 : y = 0 ∧ 30 ≤ k → zF PX U 1 q 0 t pr mem out) (H2 : ¬ (y = 0 ∧ 30 ≤ k) → zX PX U r (s + 1) b (zv_b k x y :: vs) (pc + 1) t pr vr rt mem out) : zX PX U r s b (y :: x :: vs) pc t pr vr rt mem out := by
  intro reg fr st hR hV
  refine zi hs rfl fun Q hQ => ?_
  have hx : U.2.2.2.2.2.2.2.2.2.2.2.2.2.2.2.2.2.2.2.2.2.2.2.2.2.2.2.2.2.1 pc = q := (congrFun hU.2.2.1 pc).trans hx
  subst hx
  exact zz_bin rfl hp ((congrFun hU.1 pc).trans hk) hk1 hk2 rfl (by omega) hV (fun z => hQ _ (ze_end (by omega) rfl (H1 z _ _ _ _ _ _ _))) (fun z st hs => hQ _ (H2 z _ _ _ hR hs))
theorem zx_j58 {PX : Int32 → SX → Prop} {U : SX} {F : gm_A} {r s b pc t pr : Nat} {vs : List Int32} {vr rt mem out : Nat → Int32} (hU : zh U F r) (hs : s < 1000000) (hp : pc < 360) (hl : vs.length < 900) {l pc' : Nat} (hk : F.1 pc = nI 58) (hx : F.2.1 pc = nI l) (hl' : l < 240) (hlt : F.2.2.2.1 l = nI pc') (H : zX PX U r (s + 1) b vs pc' t pr vr rt mem out) : zX PX U r s b vs pc t pr vr rt mem out := by
  intro reg fr st hR hV
  refine zi hs rfl fun Q hQ => ?_
  have hx : U.2.2.2.2.2.2.2.2.2.2.2.2.2.2.2.2.2.2.2.2.2.2.2.2.2.2.2.2.1 pc = nI l := (congrFun hU.2.1 pc).trans hx
  have hlt : U.2.2.2.2.2.2.2.2.2.2.2.2.2.2.2.2.2.2.2.2.2.2.2.2.2.2.2.2.2.2.1 l = nI pc' := (congrFun hU.2.2.2.1 l).trans hlt
  refine zz_j58 rfl hp ((congrFun hU.1 pc).trans hk) hx hl' ?_
  rw [hlt]
  exact hQ _ (H _ _ _ hR hV)
theorem zx_j59 {PX : Int32 → SX → Prop} {U : SX} {F : gm_A} {r s b pc t pr : Nat} {vs : List Int32} {vr rt mem out : Nat → Int32} (hU : zh U F r) (hs : s < 1000000) (hp : pc < 360) (hl : vs.length < 900) {l pc' : Nat} {v : Int32} (hk : F.1 pc = nI 59) (hx : F.2.1 pc = nI l) (hl' : l < 240) (hlt : v = 0 → F.2.2.2.1 l = nI pc') (H1 : v = 0 → zX PX U r (s + 1) b vs pc' t pr vr rt mem out) (H2 : ¬ v = 0 → zX PX U r (s + 1) b vs (pc + 1) t pr vr rt mem out) : zX PX U r s b (v :: vs) pc t pr vr rt mem out := by
  intro reg fr st hR hV
  refine zi hs rfl fun Q hQ => ?_
  have hx : U.2.2.2.2.2.2.2.2.2.2.2.2.2.2.2.2.2.2.2.2.2.2.2.2.2.2.2.2.1 pc = nI l := (congrFun hU.2.1 pc).trans hx
  refine zz_j59 rfl hp ((congrFun hU.1 pc).trans hk) hx hl' rfl (by omega) hV (fun z => ?_) (fun z => hQ _ (H2 z _ _ _ hR hV.2))
  rw [(congrFun hU.2.2.2.1 l).trans (hlt z)]
  exact hQ _ (H1 z _ _ _ hR hV.2)
theorem zx_j60 {PX : Int32 → SX → Prop} {U : SX} {F : gm_A} {r s b pc t pr : Nat} {vs : List Int32} {vr rt mem out : Nat → Int32} (hU : zh U F r) (hs : s < 1000000) (hp : pc < 360) (hl : vs.length < 900) {l pc' : Nat} {v : Int32} (hk : F.1 pc = nI 60) (hx : F.2.1 pc = nI l) (hl' : l < 240) (hlt : v = 0 → F.2.2.2.1 l = nI pc') (H1 : v = 0 → zX PX U r (s + 1) b (v :: vs) pc' t pr vr rt mem out) (H2 : ¬ v = 0 → zX PX U r (s + 1) b vs (pc + 1) t pr vr rt mem out) : zX PX U r s b (v :: vs) pc t pr vr rt mem out := by
  intro reg fr st hR hV
  refine zi hs rfl fun Q hQ => ?_
  have hx : U.2.2.2.2.2.2.2.2.2.2.2.2.2.2.2.2.2.2.2.2.2.2.2.2.2.2.2.2.1 pc = nI l := (congrFun hU.2.1 pc).trans hx
  refine zz_j60 rfl hp ((congrFun hU.1 pc).trans hk) hx hl' rfl (by omega) hV (fun z st hs => ?_) (fun z => hQ _ (H2 z _ _ _ hR hV.2))
  rw [(congrFun hU.2.2.2.1 l).trans (hlt z)]
  exact hQ _ (H1 z _ _ _ hR hs)
theorem zx_j61 {PX : Int32 → SX → Prop} {U : SX} {F : gm_A} {r s b pc t pr : Nat} {vs : List Int32} {vr rt mem out : Nat → Int32} (hU : zh U F r) (hs : s < 1000000) (hp : pc < 360) (hl : vs.length < 900) {l pc' : Nat} {v : Int32} (hk : F.1 pc = nI 61) (hx : F.2.1 pc = nI l) (hl' : l < 240) (hlt : ¬ v = 0 → F.2.2.2.1 l = nI pc') (H1 : ¬ v = 0 → zX PX U r (s + 1) b (v :: vs) pc' t pr vr rt mem out) (H2 : v = 0 → zX PX U r (s + 1) b vs (pc + 1) t pr vr rt mem out) : zX PX U r s b (v :: vs) pc t pr vr rt mem out := by
  intro reg fr st hR hV
  refine zi hs rfl fun Q hQ => ?_
  have hx : U.2.2.2.2.2.2.2.2.2.2.2.2.2.2.2.2.2.2.2.2.2.2.2.2.2.2.2.2.1 pc = nI l := (congrFun hU.2.1 pc).trans hx
  refine zz_j61 rfl hp ((congrFun hU.1 pc).trans hk) hx hl' rfl (by omega) hV (fun z st hs => ?_) (fun z => hQ _ (H2 z _ _ _ hR hV.2))
  rw [(congrFun hU.2.2.2.1 l).trans (hlt z)]
  exact hQ _ (H1 z _ _ _ hR hs)
theorem zx_enter {PX : Int32 → SX → Prop} {U : SX} {F : gm_A} {r s b pc t pr : Nat} {vs : List Int32} {vr rt mem out : Nat → Int32} (hU : zh U F r) (hs : s < 1000000) (hp : pc < 360) (hl : vs.length < 900) {f c pc' : Nat} (hk : F.1 pc = nI 64) (hx : F.2.1 pc = nI f) (hf : f < 4) (hc : F.2.2.2.2.2.2.1 f = nI c) (hc3 : c ≤ 3) (hle : c ≤ vs.length) (hst : F.2.2.2.2.2.1 f = nI pc') (hb : b < 7) (H : zX PX U r (s + 1) (b + 1) (vs.drop c) pc' t pr (zp_ent (b + 1) c 6 vr vs) (upd rt (b + 1) (nI (pc + 1))) mem out) : zX PX U r s b vs pc t pr vr rt mem out := by
  intro reg fr st hR hV
  refine zi hs rfl fun Q hQ => ?_
  have hx : U.2.2.2.2.2.2.2.2.2.2.2.2.2.2.2.2.2.2.2.2.2.2.2.2.2.2.2.2.1 pc = nI f := (congrFun hU.2.1 pc).trans hx
  refine ze_move rfl hp ((congrFun hU.1 pc).trans hk) (by omega) (br_f (by decide) (br_f (by decide) (br_f (by decide) (br_f (by decide) (br_f (by decide) (br_f (by decide) (br_f (by decide) (br_f (by decide) (br_f (by decide) (br_f (by decide) (br_f (by decide) (br_f (by decide) (br_f (by decide) (br_f (by decide) (br_f (by decide) (br_f (by decide) (br_f (by decide) (br_f (by decide) (br_f (by decide) (br_f (by decide) (br_f (by decide) (br_f (by decide) (br_f (by decide) (br_f (by decide) (br_f (by decide) (br_f (by decide) (br_f (by decide) (br_t (by decide) (?_)))))))))))))))))))))))))))))
  refine zm_enter (vr := vr) hU.2.2.2.2.2.2.1 hU.2.2.2.2.2.2.2.1 hU.2.2.2.2.2.2.2.2 hx hf ((congrFun hU.2.2.2.2.2.1 f).trans hc) hc3 rfl (by omega) (fun b' hb' => ?_) rfl (by omega) hV hle fun reg fr hR' hV' => ?_
  · have : b = b' := by omega
    subst this
    exact hR
  · rw [(congrFun hU.2.2.2.2.1 f).trans hst]
    exact hQ _ (H _ _ _ hR' hV')
theorem zx_ret0 {PX : Int32 → SX → Prop} {U : SX} {F : gm_A} {r s b pc t pr : Nat} {vs : List Int32} {vr rt mem out : Nat → Int32} (hU : zh U F r) (hs : s < 1000000) (hp : pc < 360) (hl : vs.length < 900) {v : Int32} (hk : F.1 pc = nI 39) (H : zF PX U 0 (-1) v t pr mem out) : zX PX U r s 0 (v :: vs) pc t pr vr rt mem out := by
  intro reg fr st hR hV
  refine zi hs rfl fun Q hQ => ?_
  exact zz_ret0 rfl hp ((congrFun hU.1 pc).trans hk) rfl rfl (by omega) hV (hQ _ (ze_end (by omega) rfl (H _ _ _ _ _ _ _)))
theorem zx_ret {PX : Int32 → SX → Prop} {U : SX} {F : gm_A} {r s b pc t pr : Nat} {vs : List Int32} {vr rt mem out : Nat → Int32} (hU : zh U F r) (hs : s < 1000000) (hp : pc < 360) (hl : vs.length < 900) {v : Int32} {pc' : Nat} (hk : F.1 pc = nI 39) (hb : b ≤ 6) (hrt : rt (b + 1) = nI pc') (H : zX PX U r (s + 1) b (v :: vs) pc' t pr vr rt mem out) : zX PX U r s (b + 1) (v :: vs) pc t pr vr rt mem out := by
  intro reg fr st hR hV
  refine zi hs rfl fun Q hQ => ?_
  refine zz_ret rfl hp hU.2.2.2.2.2.2.1 hU.2.2.2.2.2.2.2.1 hU.2.2.2.2.2.2.2.2 ((congrFun hU.1 pc).trans hk) rfl hb (fun w hw => hR.2 w hw) rfl (by omega) hV fun reg st hR' hs => ?_
  rw [hrt]
  exact hQ _ (H _ _ _ hR' hs)
end
section
/-! run: both sides step by step -/
def cx (PX : Int32 → SX → Prop) (YS : (SY → Prop) → Prop) (U : SX) (W : SY) (n NF r : Nat) (F : gm_A) : Prop :=
  zh U F r ∧ yb W n ∧ W.2.2.2.2.2.2.2.2.2.2.2.2.2.2.2.2.2.2.2.2.2.2.2.2.2.2.2.2.1 = F.2.2.2.2.2.2.1 ∧ W.2.2.2.2.2.2.2.2.2.2.2.2.2.2.2.2.2.2.2.2.2.2.2.2.2.2.2.1 = F.2.2.2.2.2.2.2 ∧ NF ≤ 4 ∧ (∀ q, q < n → W.2.2.2.2.2.2.2.2.2.2.2.2.2.2.2.2.2.2.2.2.2.2.2.2.1 q = 2 → W.2.2.2.2.2.2.2.2.2.2.2.2.2.2.2.2.2.2.2.2.2.2.2.2.2.1 q < nI NF ∧ F.2.2.2.2.1 q = F.2.2.2.2.2.2.1 (W.2.2.2.2.2.2.2.2.2.2.2.2.2.2.2.2.2.2.2.2.2.2.2.2.2.1 q).toNatClampNeg)
  ∧ (∀ f, f < NF → ∃ m p cc lc c, m ≤ 400 ∧ gm_ok W.2.2.2.2.2.2.2.2.2.2.2.2.2.2.2.2.2.2.2.2.2.2.2.2.1 W.2.2.2.2.2.2.2.2.2.2.2.2.2.2.2.2.2.2.2.2.2.2.2.2.2.1 n F NF m p [gi_B, gi_F, gi_P] cc lc (f + 1) ∧ F.2.2.2.2.2.2.2 f = nI p ∧ F.2.2.2.2.2.1 f = nI cc ∧ F.2.2.2.2.2.2.1 f = nI c ∧ c ≤ 3)
  ∧ (∀ how pl v t pr mem out, t ≤ 120 → (how = 0 ∨ v = 0) → (∀ Q, yF Q W how pl v t pr mem out → YS Q) → zF PX U how pl v t pr mem out)
def RG (PX : Int32 → SX → Prop) (YS : (SY → Prop) → Prop) (U : SX) (W : SY) (n NF r : Nat) (F : gm_A) (N : Nat) : Prop :=
  ∀ (s G b p t pr cc lc fc m hb u : Nat) (vs : List Int32) (S : List gm_I) (T Tb : List Nat) (vr rt mem out : Nat → Int32),
    gm_ok W.2.2.2.2.2.2.2.2.2.2.2.2.2.2.2.2.2.2.2.2.2.2.2.2.1 W.2.2.2.2.2.2.2.2.2.2.2.2.2.2.2.2.2.2.2.2.2.2.2.2.2.1 n F NF m p S cc lc fc → zl W.2.2.2.2.2.2.2.2.2.2.2.2.2.2.2.2.2.2.2.2.2.2.2.2.1 W.2.2.2.2.2.2.2.2.2.2.2.2.2.2.2.2.2.2.2.2.2.2.2.2.2.1 n F NF Tb hb S T vs.length → frs W.2.2.2.2.2.2.2.2.2.2.2.2.2.2.2.2.2.2.2.2.2.2.2.2.1 W.2.2.2.2.2.2.2.2.2.2.2.2.2.2.2.2.2.2.2.2.2.2.2.2.2.1 n F NF rt b Tb hb u →
    (∀ Q, (∀ g, g ≤ G → yR Q W g (b + 1) vs p t pr T vr mem out) → YS Q) → m ≤ 400 → b ≤ 7 → t ≤ 120 → pr ≤ s → t * 401 + m + u < N → G + 2 * (t * 401 + m + u) + 5 ≤ 400000 → s + 4 * (t * 401 + m + u) + 5 ≤ 1000000 →
    zX PX U r s b vs cc t pr vr rt mem out
theorem mn_bd {PX : Int32 → SX → Prop} {YS : (SY → Prop) → Prop} {U : SX} {W : SY} {n NF r : Nat} {F : gm_A} {b p cc lc fc m hb u : Nat} {vs : List Int32} {S : List gm_I} {T Tb : List Nat} {rt : Nat → Int32} (c : cx PX YS U W n NF r F) (hok : gm_ok W.2.2.2.2.2.2.2.2.2.2.2.2.2.2.2.2.2.2.2.2.2.2.2.2.1 W.2.2.2.2.2.2.2.2.2.2.2.2.2.2.2.2.2.2.2.2.2.2.2.2.2.1 n F NF m p S cc lc fc) (hz : zl W.2.2.2.2.2.2.2.2.2.2.2.2.2.2.2.2.2.2.2.2.2.2.2.2.1 W.2.2.2.2.2.2.2.2.2.2.2.2.2.2.2.2.2.2.2.2.2.2.2.2.2.1 n F NF Tb hb S T vs.length) (hf : frs W.2.2.2.2.2.2.2.2.2.2.2.2.2.2.2.2.2.2.2.2.2.2.2.2.1 W.2.2.2.2.2.2.2.2.2.2.2.2.2.2.2.2.2.2.2.2.2.2.2.2.2.1 n F NF rt b Tb hb u) (hb7 : b ≤ 7) : T.length < 1100 ∧ vs.length < 500 ∧ Tb.length < 980 ∧ hb < 440 := by
  have h1 := frs_bd c.2.1.2.2.1 c.2.1.2.1 b hf
  have h2 := zl_bd c.2.1.2.2.1 c.2.1.2.1 hok hz
  omega
theorem mn_up1 {F : gm_A} {cc fc p' k q : Nat} {v : Int32} {es : List gm_M} {lw : Option (Nat × Nat)} {fw : Option Int32} (h : gm_up F cc fc p' ((k, v, q) :: es) lw none fw = F) : F.1 cc = nI k ∧ F.2.1 cc = v ∧ F.2.2.1 cc = nI q := by
  have h1 := congrArg (fun z : gm_A => z.1 cc) h
  have h2 := congrArg (fun z : gm_A => z.2.1 cc) h
  have h3 := congrArg (fun z : gm_A => z.2.2.1 cc) h
  simp only [gm_up, gu_k] at h1 h2 h3
  rw [gu_lo _ _ _ _ _ (by omega), pk_us] at h1 h2 h3
  exact ⟨h1.symm, h2.symm, h3.symm⟩
theorem mn_up2 {F : gm_A} {cc fc p' k q : Nat} {v : Int32} {x : gm_M} {es : List gm_M} {lw : Option (Nat × Nat)} {fw : Option Int32} (h : gm_up F cc fc p' (x :: (k, v, q) :: es) lw none fw = F) : F.1 (cc + 1) = nI k ∧ F.2.1 (cc + 1) = v ∧ F.2.2.1 (cc + 1) = nI q := by
  have h1 := congrArg (fun z : gm_A => z.1 (cc + 1)) h
  have h2 := congrArg (fun z : gm_A => z.2.1 (cc + 1)) h
  have h3 := congrArg (fun z : gm_A => z.2.2.1 (cc + 1)) h
  simp only [gm_up, gu_k] at h1 h2 h3
  rw [gu_lo _ _ _ _ _ (by omega), pk_us] at h1 h2 h3
  exact ⟨h1.symm, h2.symm, h3.symm⟩
theorem mn_up3 {F : gm_A} {cc fc p' k q : Nat} {v : Int32} {x y : gm_M} {es : List gm_M} {lw : Option (Nat × Nat)} {fw : Option Int32} (h : gm_up F cc fc p' (x :: y :: (k, v, q) :: es) lw none fw = F) : F.1 (cc + 2) = nI k ∧ F.2.1 (cc + 2) = v ∧ F.2.2.1 (cc + 2) = nI q := by
  have h1 := congrArg (fun z : gm_A => z.1 (cc + 2)) h
  have h2 := congrArg (fun z : gm_A => z.2.1 (cc + 2)) h
  have h3 := congrArg (fun z : gm_A => z.2.2.1 (cc + 2)) h
  simp only [gm_up, gu_k] at h1 h2 h3
  rw [gu_lo _ _ _ _ _ (by omega), pk_us] at h1 h2 h3
  exact ⟨h1.symm, h2.symm, h3.symm⟩
theorem mn_lab {F : gm_A} {cc fc p' : Nat} {es : List gm_M} {l t : Nat} {fw : Option Int32} (h : gm_up F cc fc p' es (some (l, t)) none fw = F) : F.2.2.2.1 l = nI t := by
  have h1 := congrArg (fun z : gm_A => z.2.2.2.1 l) h
  simp only [gm_up, gu_l, pk_us] at h1
  exact h1.symm
theorem mn_fun {PX : Int32 → SX → Prop} {YS : (SY → Prop) → Prop} {U : SX} {W : SY} {n NF r : Nat} {F : gm_A} (c : cx PX YS U W n NF r F) {q : Nat} (hq : q < n) (h2 : W.2.2.2.2.2.2.2.2.2.2.2.2.2.2.2.2.2.2.2.2.2.2.2.2.1 q = 2) : ∃ f cn, f < NF ∧ W.2.2.2.2.2.2.2.2.2.2.2.2.2.2.2.2.2.2.2.2.2.2.2.2.2.1 q = nI f ∧ (W.2.2.2.2.2.2.2.2.2.2.2.2.2.2.2.2.2.2.2.2.2.2.2.2.2.1 q).toNatClampNeg = f ∧ F.2.2.2.2.2.2.1 f = nI cn ∧ cn ≤ 3 ∧ F.2.2.2.2.1 q = nI cn := by
  obtain ⟨f, hf, ef⟩ := (c.2.1.2.2.1 q hq).2.2 h2
  have h3 := c.2.2.2.2.2.1 q hq h2
  have hNF := c.2.2.2.2.1
  have e : (nI f).toNatClampNeg = f := nI_clamp (by omega)
  rw [ef] at h3
  have hlt : f < NF := (nI_ltI (by omega) (by omega)).mp h3.1
  obtain ⟨m, p, cc, lc, cn, _, _, _, _, h4, h5⟩ := c.2.2.2.2.2.2.1 f hlt
  exact ⟨f, cn, hlt, ef, by rw [ef]; exact e, h4, h5, by rw [h3.2, e]; exact h4⟩
theorem zl_e {K V : Nat → Int32} {n : Nat} {F : gm_A} {NF : Nat} {Tb T : List Nat} {hb h e : Nat} {x : gm_I} {S : List gm_I} (hx : x.1 = 3 ∨ x.1 = 4 ∨ x.1 = 5 ∨ x.1 = 11 ∨ x.1 = 13 ∨ x.1 = 15) (he : yp_e e (yd_c x)) (h1 : (x.1 = 11 ∨ x.1 = 13 ∨ x.1 = 15) → 1 ≤ h) (hz : zl K V n F NF Tb hb S T h) : zl K V n F NF Tb hb (x :: S) (e :: T) h := by
  unfold zl
  rw [if_neg (by omega), if_neg (by omega), if_neg (by omega), if_neg (by omega), if_neg (by omega), if_neg (by omega), if_neg (by omega), if_neg (by omega), if_neg (by omega), if_neg (by omega), if_neg (by omega), if_neg (by omega), if_neg (by omega), if_neg (by omega)]
  exact ⟨e, T, rfl, he, h1, hz⟩
theorem mn_2 {PX : Int32 → SX → Prop} {YS : (SY → Prop) → Prop} {U : SX} {W : SY} {n NF r N : Nat} {F : gm_A} {s G b p t pr cc lc fc m hb u : Nat} {vs : List Int32} {S : List gm_I} {T Tb : List Nat} {vr rt mem out : Nat → Int32} (c : cx PX YS U W n NF r F) (IH : RG PX YS U W n NF r F N) {a d e0 : Nat} {v : Int32} (hok : gm_ok W.2.2.2.2.2.2.2.2.2.2.2.2.2.2.2.2.2.2.2.2.2.2.2.2.1 W.2.2.2.2.2.2.2.2.2.2.2.2.2.2.2.2.2.2.2.2.2.2.2.2.2.1 n F NF m p ((2, a, d, e0, v) :: S) cc lc fc) (hz : zl W.2.2.2.2.2.2.2.2.2.2.2.2.2.2.2.2.2.2.2.2.2.2.2.2.1 W.2.2.2.2.2.2.2.2.2.2.2.2.2.2.2.2.2.2.2.2.2.2.2.2.2.1 n F NF Tb hb ((2, a, d, e0, v) :: S) T vs.length) (hf : frs W.2.2.2.2.2.2.2.2.2.2.2.2.2.2.2.2.2.2.2.2.2.2.2.2.1 W.2.2.2.2.2.2.2.2.2.2.2.2.2.2.2.2.2.2.2.2.2.2.2.2.2.1 n F NF rt b Tb hb u)
    (HY : ∀ Q, (∀ g, g ≤ G → yR Q W g (b + 1) vs p t pr T vr mem out) → YS Q) (hm : m ≤ 400) (hb7 : b ≤ 7) (ht : t ≤ 120) (hpr : pr ≤ s) (hN : t * 401 + m + u < N + 1) (hG : G + 2 * (t * 401 + m + u) + 5 ≤ 400000) (hs : s + 4 * (t * 401 + m + u) + 5 ≤ 1000000) : zX PX U r s b vs cc t pr vr rt mem out := by
  have hn := c.2.1.2.1
  have bd := mn_bd c hok hz hf hb7
  obtain ⟨m, rfl⟩ : ∃ m', m = m' + 1 := by
    cases m with
    | zero => exact hok.elim
    | succ m => exact ⟨m, rfl⟩
  obtain ⟨hI, hsc, hd⟩ := hok
  have hp := hI.1
  have l1 := hI.2.1.1
  have hv := hI.2.2.2.2.2.1.1
  have hs2 := hI.2.2.2.2.2.2.2
  unfold gm_d at hd
  dsimp only at hd
  rw [if_neg (by decide), if_pos rfl] at hd
  unfold zl at hz
  dsimp only at hz
  rw [if_neg (by decide), if_pos rfl] at hz
  obtain ⟨rfl, rfl, hvs⟩ := hz
  obtain ⟨_, hu, hok⟩ := hd
  have u1 := mn_up1 hu
  have u2 := mn_up2 hu
  simp only [gm_sm] at l1
  simp [gw_e] at l1
  cases b with
  | zero =>
    obtain ⟨rfl, rfl, rfl⟩ := hf
    have e0 : vs = [] := List.length_eq_zero_iff.mp hvs
    subst e0
    refine zx_push c.1 (by omega) (by omega) (by simp) u1.1 u1.2.1 ?_
    refine zx_ret0 (b := 0) c.1 (by omega) (by omega) (by simp) u2.1 ?_
    refine c.2.2.2.2.2.2.2 0 (-1) 0 t pr mem out ht (by simp) (fun Q hq => HY Q (fun g hg => ?_))
    refine yl_frame (b := 0) c.2.1 (by omega) hp (by simp) (by simp) rfl (by decide) rfl ?_
    exact yl_done (n := n) (vs := []) (T := []) (by omega) hq
  | succ b =>
    obtain ⟨mc, pc, Sc, ccc, lcc, fcc, T', Tb', hb', u', rfl, hokc, hmc, hrt, hzc, hfc, rfl⟩ := hf
    have hpc := (gm_ok_inv hokc).1
    refine zx_push c.1 (by omega) (by omega) (by omega) u1.1 u1.2.1 ?_
    refine zx_ret c.1 (by omega) (by omega) (by omega) u2.1 (by omega) hrt ?_
    refine IH (s + 1 + 1) (G + 1) _ _ _ _ _ _ _ _ _ _ _ _ _ _ _ _ _ _ hokc (by rw [List.length_cons, hvs]; exact hzc) hfc (fun Q q => HY Q (fun g hg => yl_frame (q := pc) (b := b + 1) c.2.1 (by omega) hp (by omega) (by simp only [List.length_cons] at bd; omega) (by rw [hvs]) (by omega) rfl (q _ (by omega)))) hmc (by omega) ht (by omega) (by omega) (by omega) (by omega)
theorem mn_5 {PX : Int32 → SX → Prop} {YS : (SY → Prop) → Prop} {U : SX} {W : SY} {n NF r N : Nat} {F : gm_A} {s G b p t pr cc lc fc m hb u : Nat} {vs : List Int32} {S : List gm_I} {T Tb : List Nat} {vr rt mem out : Nat → Int32} (c : cx PX YS U W n NF r F) (IH : RG PX YS U W n NF r F N) {a d e0 : Nat} {v : Int32} (hok : gm_ok W.2.2.2.2.2.2.2.2.2.2.2.2.2.2.2.2.2.2.2.2.2.2.2.2.1 W.2.2.2.2.2.2.2.2.2.2.2.2.2.2.2.2.2.2.2.2.2.2.2.2.2.1 n F NF m p ((5, a, d, e0, v) :: S) cc lc fc) (hz : zl W.2.2.2.2.2.2.2.2.2.2.2.2.2.2.2.2.2.2.2.2.2.2.2.2.1 W.2.2.2.2.2.2.2.2.2.2.2.2.2.2.2.2.2.2.2.2.2.2.2.2.2.1 n F NF Tb hb ((5, a, d, e0, v) :: S) T vs.length) (hf : frs W.2.2.2.2.2.2.2.2.2.2.2.2.2.2.2.2.2.2.2.2.2.2.2.2.1 W.2.2.2.2.2.2.2.2.2.2.2.2.2.2.2.2.2.2.2.2.2.2.2.2.2.1 n F NF rt b Tb hb u)
    (HY : ∀ Q, (∀ g, g ≤ G → yR Q W g (b + 1) vs p t pr T vr mem out) → YS Q) (hm : m ≤ 400) (hb7 : b ≤ 7) (ht : t ≤ 120) (hpr : pr ≤ s) (hN : t * 401 + m + u < N + 1) (hG : G + 2 * (t * 401 + m + u) + 5 ≤ 400000) (hs : s + 4 * (t * 401 + m + u) + 5 ≤ 1000000) : zX PX U r s b vs cc t pr vr rt mem out := by
  have hn := c.2.1.2.1
  have bd := mn_bd c hok hz hf hb7
  obtain ⟨m, rfl⟩ : ∃ m', m = m' + 1 := by
    cases m with
    | zero => exact hok.elim
    | succ m => exact ⟨m, rfl⟩
  obtain ⟨hI, hsc, hd⟩ := hok
  have hp := hI.1
  have l1 := hI.2.1.1
  have hv := hI.2.2.2.2.2.1.1
  have hs2 := hI.2.2.2.2.2.2.2
  unfold gm_d at hd
  dsimp only at hd
  rw [if_neg (by decide), if_neg (by decide), if_neg (by decide), if_neg (by decide), if_pos rfl] at hd
  unfold zl at hz
  dsimp only at hz
  rw [if_neg (by decide), if_neg (by decide), if_neg (by decide), if_neg (by decide), if_neg (by decide), if_neg (by decide), if_neg (by decide), if_neg (by decide), if_neg (by decide), if_neg (by decide), if_neg (by decide), if_neg (by decide), if_neg (by decide), if_neg (by decide)] at hz
  obtain ⟨e, T', rfl, he, _, hz⟩ := hz
  have ha : a ≤ 41 := by simpa [gm_vl] using hv
  by_cases h1 : gm_tk W.2.2.2.2.2.2.2.2.2.2.2.2.2.2.2.2.2.2.2.2.2.2.2.2.1 n p = nI a
  · rw [if_pos h1] at hd
    exact IH s (G + 1) _ _ _ _ _ _ _ _ _ _ _ _ _ _ _ _ _ _ hd.2.2 hz hf (fun Q q => HY Q (fun g hg => yl_X c.2.1 (by omega) hp (by omega) (by simp only [List.length_cons] at bd; omega) he ha h1 (q _ (by omega)))) (by omega) hb7 ht (by omega) (by omega) (by omega) (by omega)
  · rw [if_neg h1] at hd
    exact hd.elim
theorem mn_8 {PX : Int32 → SX → Prop} {YS : (SY → Prop) → Prop} {U : SX} {W : SY} {n NF r N : Nat} {F : gm_A} {s G b p t pr cc lc fc m hb u : Nat} {vs : List Int32} {S : List gm_I} {T Tb : List Nat} {vr rt mem out : Nat → Int32} (c : cx PX YS U W n NF r F) (IH : RG PX YS U W n NF r F N) {a d e0 : Nat} {v : Int32} (hok : gm_ok W.2.2.2.2.2.2.2.2.2.2.2.2.2.2.2.2.2.2.2.2.2.2.2.2.1 W.2.2.2.2.2.2.2.2.2.2.2.2.2.2.2.2.2.2.2.2.2.2.2.2.2.1 n F NF m p ((8, a, d, e0, v) :: S) cc lc fc) (hz : zl W.2.2.2.2.2.2.2.2.2.2.2.2.2.2.2.2.2.2.2.2.2.2.2.2.1 W.2.2.2.2.2.2.2.2.2.2.2.2.2.2.2.2.2.2.2.2.2.2.2.2.2.1 n F NF Tb hb ((8, a, d, e0, v) :: S) T vs.length) (hf : frs W.2.2.2.2.2.2.2.2.2.2.2.2.2.2.2.2.2.2.2.2.2.2.2.2.1 W.2.2.2.2.2.2.2.2.2.2.2.2.2.2.2.2.2.2.2.2.2.2.2.2.2.1 n F NF rt b Tb hb u)
    (HY : ∀ Q, (∀ g, g ≤ G → yR Q W g (b + 1) vs p t pr T vr mem out) → YS Q) (hm : m ≤ 400) (hb7 : b ≤ 7) (ht : t ≤ 120) (hpr : pr ≤ s) (hN : t * 401 + m + u < N + 1) (hG : G + 2 * (t * 401 + m + u) + 5 ≤ 400000) (hs : s + 4 * (t * 401 + m + u) + 5 ≤ 1000000) : zX PX U r s b vs cc t pr vr rt mem out := by
  have hn := c.2.1.2.1
  have bd := mn_bd c hok hz hf hb7
  obtain ⟨m, rfl⟩ : ∃ m', m = m' + 1 := by
    cases m with
    | zero => exact hok.elim
    | succ m => exact ⟨m, rfl⟩
  obtain ⟨hI, hsc, hd⟩ := hok
  have hp := hI.1
  have l1 := hI.2.1.1
  have hv := hI.2.2.2.2.2.1.1
  have hs2 := hI.2.2.2.2.2.2.2
  unfold gm_d at hd
  dsimp only at hd
  rw [if_neg (by decide), if_neg (by decide), if_neg (by decide), if_neg (by decide), if_neg (by decide), if_neg (by decide), if_neg (by decide), if_pos rfl] at hd
  unfold zl at hz
  dsimp only at hz
  rw [if_neg (by decide), if_neg (by decide), if_pos rfl] at hz
  exact IH s G _ _ _ _ _ _ _ _ _ _ _ _ _ _ _ _ _ _ hd.2.2 hz hf HY (by omega) hb7 ht (by omega) (by omega) (by omega) (by omega)
theorem mn_15 {PX : Int32 → SX → Prop} {YS : (SY → Prop) → Prop} {U : SX} {W : SY} {n NF r N : Nat} {F : gm_A} {s G b p t pr cc lc fc m hb u : Nat} {vs : List Int32} {S : List gm_I} {T Tb : List Nat} {vr rt mem out : Nat → Int32} (c : cx PX YS U W n NF r F) (IH : RG PX YS U W n NF r F N) {a d e0 : Nat} {v : Int32} (hok : gm_ok W.2.2.2.2.2.2.2.2.2.2.2.2.2.2.2.2.2.2.2.2.2.2.2.2.1 W.2.2.2.2.2.2.2.2.2.2.2.2.2.2.2.2.2.2.2.2.2.2.2.2.2.1 n F NF m p ((15, a, d, e0, v) :: S) cc lc fc) (hz : zl W.2.2.2.2.2.2.2.2.2.2.2.2.2.2.2.2.2.2.2.2.2.2.2.2.1 W.2.2.2.2.2.2.2.2.2.2.2.2.2.2.2.2.2.2.2.2.2.2.2.2.2.1 n F NF Tb hb ((15, a, d, e0, v) :: S) T vs.length) (hf : frs W.2.2.2.2.2.2.2.2.2.2.2.2.2.2.2.2.2.2.2.2.2.2.2.2.1 W.2.2.2.2.2.2.2.2.2.2.2.2.2.2.2.2.2.2.2.2.2.2.2.2.2.1 n F NF rt b Tb hb u)
    (HY : ∀ Q, (∀ g, g ≤ G → yR Q W g (b + 1) vs p t pr T vr mem out) → YS Q) (hm : m ≤ 400) (hb7 : b ≤ 7) (ht : t ≤ 120) (hpr : pr ≤ s) (hN : t * 401 + m + u < N + 1) (hG : G + 2 * (t * 401 + m + u) + 5 ≤ 400000) (hs : s + 4 * (t * 401 + m + u) + 5 ≤ 1000000) : zX PX U r s b vs cc t pr vr rt mem out := by
  have hn := c.2.1.2.1
  have bd := mn_bd c hok hz hf hb7
  obtain ⟨m, rfl⟩ : ∃ m', m = m' + 1 := by
    cases m with
    | zero => exact hok.elim
    | succ m => exact ⟨m, rfl⟩
  obtain ⟨hI, hsc, hd⟩ := hok
  have hp := hI.1
  have l1 := hI.2.1.1
  have hv := hI.2.2.2.2.2.1.1
  have hs2 := hI.2.2.2.2.2.2.2
  unfold gm_d at hd
  dsimp only at hd
  rw [if_neg (by decide), if_neg (by decide), if_neg (by decide), if_neg (by decide), if_neg (by decide), if_neg (by decide), if_neg (by decide), if_neg (by decide), if_neg (by decide), if_neg (by decide), if_neg (by decide), if_neg (by decide), if_neg (by decide), if_neg (by decide), if_pos rfl] at hd
  unfold zl at hz
  dsimp only at hz
  rw [if_neg (by decide), if_neg (by decide), if_neg (by decide), if_neg (by decide), if_neg (by decide), if_neg (by decide), if_neg (by decide), if_neg (by decide), if_neg (by decide), if_neg (by decide), if_neg (by decide), if_neg (by decide), if_neg (by decide), if_neg (by decide)] at hz
  obtain ⟨e, T', rfl, he, h1, hz⟩ := hz
  obtain ⟨_, hu, hok⟩ := hd
  have u1 := mn_up1 hu
  simp only [gm_sm] at l1
  simp [gw_e] at l1
  have h1 := h1 (by simp)
  obtain ⟨v1, vs, rfl⟩ : ∃ v1 vs', vs = v1 :: vs' := by
    cases vs with
    | nil => simp at h1
    | cons v1 vs => exact ⟨v1, vs, rfl⟩
  refine zx_un c.1 (by omega) (by omega) (by simp only [List.length_cons] at bd; omega) u1.1 (by omega) ?_
  exact IH (s + 1) (G + 1) _ _ _ _ _ _ _ _ _ _ _ _ _ _ _ _ _ _ hok (by simpa using hz) hf (fun Q q => HY Q (fun g hg => yl_tru c.2.1 (by omega) hp (by simp only [List.length_cons] at bd ⊢; omega) (by simp only [List.length_cons] at bd ⊢; omega) he (q _ (by omega)))) (by omega) hb7 ht (by omega) (by omega) (by omega) (by omega)
theorem mn_11 {PX : Int32 → SX → Prop} {YS : (SY → Prop) → Prop} {U : SX} {W : SY} {n NF r N : Nat} {F : gm_A} {s G b p t pr cc lc fc m hb u : Nat} {vs : List Int32} {S : List gm_I} {T Tb : List Nat} {vr rt mem out : Nat → Int32} (c : cx PX YS U W n NF r F) (IH : RG PX YS U W n NF r F N) {a d e0 : Nat} {v : Int32} (hok : gm_ok W.2.2.2.2.2.2.2.2.2.2.2.2.2.2.2.2.2.2.2.2.2.2.2.2.1 W.2.2.2.2.2.2.2.2.2.2.2.2.2.2.2.2.2.2.2.2.2.2.2.2.2.1 n F NF m p ((11, a, d, e0, v) :: S) cc lc fc) (hz : zl W.2.2.2.2.2.2.2.2.2.2.2.2.2.2.2.2.2.2.2.2.2.2.2.2.1 W.2.2.2.2.2.2.2.2.2.2.2.2.2.2.2.2.2.2.2.2.2.2.2.2.2.1 n F NF Tb hb ((11, a, d, e0, v) :: S) T vs.length) (hf : frs W.2.2.2.2.2.2.2.2.2.2.2.2.2.2.2.2.2.2.2.2.2.2.2.2.1 W.2.2.2.2.2.2.2.2.2.2.2.2.2.2.2.2.2.2.2.2.2.2.2.2.2.1 n F NF rt b Tb hb u)
    (HY : ∀ Q, (∀ g, g ≤ G → yR Q W g (b + 1) vs p t pr T vr mem out) → YS Q) (hm : m ≤ 400) (hb7 : b ≤ 7) (ht : t ≤ 120) (hpr : pr ≤ s) (hN : t * 401 + m + u < N + 1) (hG : G + 2 * (t * 401 + m + u) + 5 ≤ 400000) (hs : s + 4 * (t * 401 + m + u) + 5 ≤ 1000000) : zX PX U r s b vs cc t pr vr rt mem out := by
  have hn := c.2.1.2.1
  have bd := mn_bd c hok hz hf hb7
  obtain ⟨m, rfl⟩ : ∃ m', m = m' + 1 := by
    cases m with
    | zero => exact hok.elim
    | succ m => exact ⟨m, rfl⟩
  obtain ⟨hI, hsc, hd⟩ := hok
  have hp := hI.1
  have l1 := hI.2.1.1
  have hv := hI.2.2.2.2.2.1.1
  have hs2 := hI.2.2.2.2.2.2.2
  unfold gm_d at hd
  dsimp only at hd
  rw [if_neg (by decide), if_neg (by decide), if_neg (by decide), if_neg (by decide), if_neg (by decide), if_neg (by decide), if_neg (by decide), if_neg (by decide), if_neg (by decide), if_neg (by decide), if_pos (by decide)] at hd
  unfold zl at hz
  dsimp only at hz
  rw [if_neg (by decide), if_neg (by decide), if_neg (by decide), if_neg (by decide), if_neg (by decide), if_neg (by decide), if_neg (by decide), if_neg (by decide), if_neg (by decide), if_neg (by decide), if_neg (by decide), if_neg (by decide), if_neg (by decide), if_neg (by decide)] at hz
  obtain ⟨e, T', rfl, he, h1, hz⟩ := hz
  obtain ⟨_, hu, hok⟩ := hd
  have u1 := mn_up1 hu
  simp only [gm_sm] at l1
  simp [gw_e] at l1
  have h1 := h1 (by simp)
  have hv2 : gm_ve W.2.2.2.2.2.2.2.2.2.2.2.2.2.2.2.2.2.2.2.2.2.2.2.2.1 n (11, a, d, e0, v) := by simpa [gm_vl] using hv
  unfold gm_ve at hv2
  dsimp only at hv2
  rw [if_pos rfl] at hv2
  have he : yp_e e e0 := he
  obtain ⟨v1, vs, rfl⟩ : ∃ v1 vs', vs = v1 :: vs' := by
    cases vs with
    | nil => simp at h1
    | cons v1 vs => exact ⟨v1, vs, rfl⟩
  rcases hv2 with ⟨rfl, rfl⟩ | ⟨rfl, rfl⟩ | ⟨rfl, rfl⟩ | ⟨rfl, hd2, rfl⟩
  · refine zx_un c.1 (by omega) (by omega) (by simp only [List.length_cons] at bd; omega) u1.1 (by omega) ?_
    exact IH (s + 1) (G + 1) _ _ _ _ _ _ _ _ _ _ _ _ _ _ _ _ _ _ hok (by simpa using hz) hf (fun Q q => HY Q (fun g hg => yl_sign (d := 28) (k := 50) c.2.1 (by omega) hp (by simp only [List.length_cons] at bd ⊢; omega) (by simp only [List.length_cons] at bd ⊢; omega) (by omega) he (q _ (by omega)))) (by omega) hb7 ht (by omega) (by omega) (by omega) (by omega)
  · refine zx_un c.1 (by omega) (by omega) (by simp only [List.length_cons] at bd; omega) u1.1 (by omega) ?_
    exact IH (s + 1) (G + 1) _ _ _ _ _ _ _ _ _ _ _ _ _ _ _ _ _ _ hok (by simpa using hz) hf (fun Q q => HY Q (fun g hg => yl_sign (d := 32) (k := 32) c.2.1 (by omega) hp (by simp only [List.length_cons] at bd ⊢; omega) (by simp only [List.length_cons] at bd ⊢; omega) (by omega) he (q _ (by omega)))) (by omega) hb7 ht (by omega) (by omega) (by omega) (by omega)
  · refine zx_un c.1 (by omega) (by omega) (by simp only [List.length_cons] at bd; omega) u1.1 (by omega) ?_
    exact IH (s + 1) (G + 1) _ _ _ _ _ _ _ _ _ _ _ _ _ _ _ _ _ _ hok (by simpa using hz) hf (fun Q q => HY Q (fun g hg => yl_sign (d := 33) (k := 33) c.2.1 (by omega) hp (by simp only [List.length_cons] at bd ⊢; omega) (by simp only [List.length_cons] at bd ⊢; omega) (by omega) he (q _ (by omega)))) (by omega) hb7 ht (by omega) (by omega) (by omega) (by omega)
  · refine zx_lde c.1 (by omega) (by omega) (by simp only [List.length_cons] at bd; omega) u1.1 u1.2.2 (fun z y => ?_) (fun z => ?_)
    · exact IH (s + 1) (G + 1) _ _ _ _ _ _ _ _ _ _ _ _ _ _ _ _ _ _ hok (by simpa using hz) hf (fun Q q => HY Q (fun g hg => yl_cell c.2.1 (by omega) hp (by simp only [List.length_cons] at bd ⊢; omega) (by simp only [List.length_cons] at bd ⊢; omega) he (by omega) (fun _ _ => (q _ (by omega))) (fun w => absurd w (fun w => w.elim z (fun w => w y))))) (by omega) hb7 ht (by omega) (by omega) (by omega) (by omega)
    · exact c.2.2.2.2.2.2.2 2 _ 0 t pr mem out ht (by simp) (fun Q hq => HY Q (fun g hg => yl_cell c.2.1 (by omega) hp (by simp only [List.length_cons] at bd ⊢; omega) (by simp only [List.length_cons] at bd ⊢; omega) he (by omega) (fun z1 z2 => absurd z (fun w => w.elim z1 (fun w => w z2))) (fun _ => hq)))
theorem mn_20 {PX : Int32 → SX → Prop} {YS : (SY → Prop) → Prop} {U : SX} {W : SY} {n NF r N : Nat} {F : gm_A} {s G b p t pr cc lc fc m hb u : Nat} {vs : List Int32} {S : List gm_I} {T Tb : List Nat} {vr rt mem out : Nat → Int32} (c : cx PX YS U W n NF r F) (IH : RG PX YS U W n NF r F N) {a d e0 : Nat} {v : Int32} (hok : gm_ok W.2.2.2.2.2.2.2.2.2.2.2.2.2.2.2.2.2.2.2.2.2.2.2.2.1 W.2.2.2.2.2.2.2.2.2.2.2.2.2.2.2.2.2.2.2.2.2.2.2.2.2.1 n F NF m p ((20, a, d, e0, v) :: S) cc lc fc) (hz : zl W.2.2.2.2.2.2.2.2.2.2.2.2.2.2.2.2.2.2.2.2.2.2.2.2.1 W.2.2.2.2.2.2.2.2.2.2.2.2.2.2.2.2.2.2.2.2.2.2.2.2.2.1 n F NF Tb hb ((20, a, d, e0, v) :: S) T vs.length) (hf : frs W.2.2.2.2.2.2.2.2.2.2.2.2.2.2.2.2.2.2.2.2.2.2.2.2.1 W.2.2.2.2.2.2.2.2.2.2.2.2.2.2.2.2.2.2.2.2.2.2.2.2.2.1 n F NF rt b Tb hb u)
    (HY : ∀ Q, (∀ g, g ≤ G → yR Q W g (b + 1) vs p t pr T vr mem out) → YS Q) (hm : m ≤ 400) (hb7 : b ≤ 7) (ht : t ≤ 120) (hpr : pr ≤ s) (hN : t * 401 + m + u < N + 1) (hG : G + 2 * (t * 401 + m + u) + 5 ≤ 400000) (hs : s + 4 * (t * 401 + m + u) + 5 ≤ 1000000) : zX PX U r s b vs cc t pr vr rt mem out := by
  have hn := c.2.1.2.1
  have bd := mn_bd c hok hz hf hb7
  obtain ⟨m, rfl⟩ : ∃ m', m = m' + 1 := by
    cases m with
    | zero => exact hok.elim
    | succ m => exact ⟨m, rfl⟩
  obtain ⟨hI, hsc, hd⟩ := hok
  have hp := hI.1
  have l1 := hI.2.1.1
  have hv := hI.2.2.2.2.2.1.1
  have hs2 := hI.2.2.2.2.2.2.2
  unfold gm_d at hd
  dsimp only at hd
  rw [if_neg (by decide), if_neg (by decide), if_neg (by decide), if_neg (by decide), if_neg (by decide), if_neg (by decide), if_neg (by decide), if_neg (by decide), if_neg (by decide), if_neg (by decide), if_pos (by decide)] at hd
  unfold zl at hz
  dsimp only at hz
  rw [if_neg (by decide), if_neg (by decide), if_neg (by decide), if_neg (by decide), if_neg (by decide), if_neg (by decide), if_neg (by decide), if_neg (by decide), if_neg (by decide), if_neg (by decide), if_pos rfl] at hz
  obtain ⟨e, T', h', hh, rfl, he, hz⟩ := hz
  obtain ⟨_, hu, hok⟩ := hd
  have u1 := mn_up1 hu
  simp only [gm_sm] at l1
  simp [gw_e] at l1
  have hv2 : gm_ve W.2.2.2.2.2.2.2.2.2.2.2.2.2.2.2.2.2.2.2.2.2.2.2.2.1 n (20, a, d, e0, v) := by simpa [gm_vl] using hv
  unfold gm_ve at hv2
  dsimp only at hv2
  rw [if_neg (by decide), if_pos rfl] at hv2
  obtain ⟨rfl, hd2, rfl⟩ := hv2
  obtain ⟨v1, i1, vs, rfl⟩ : ∃ v1 i1 vs', vs = v1 :: i1 :: vs' := by
    match vs, hh with
    | [], hh => simp at hh
    | [_], hh => simp at hh
    | v1 :: i1 :: vs, _ => exact ⟨v1, i1, vs, rfl⟩
  have e9 : vs.length = h' := by simpa using hh
  subst e9
  refine zx_ste c.1 (by omega) (by omega) (by simp only [List.length_cons] at bd; omega) u1.1 u1.2.2 (fun z y => ?_) (fun z => ?_)
  · exact IH (s + 1) (G + 1) _ _ _ _ _ _ _ _ _ _ _ _ _ _ _ _ _ _ hok hz hf (fun Q q => HY Q (fun g hg => yl_setc c.2.1 (by omega) hp (by simp only [List.length_cons] at bd ⊢; omega) (by simp only [List.length_cons] at bd ⊢; omega) he (by omega) (fun _ _ => (q _ (by omega))) (fun w => absurd w (fun w => w.elim z (fun w => w y))))) (by omega) hb7 ht (by omega) (by omega) (by omega) (by omega)
  · exact c.2.2.2.2.2.2.2 2 _ 0 t pr mem out ht (by simp) (fun Q hq => HY Q (fun g hg => yl_setc c.2.1 (by omega) hp (by simp only [List.length_cons] at bd ⊢; omega) (by simp only [List.length_cons] at bd ⊢; omega) he (by omega) (fun z1 z2 => absurd z (fun w => w.elim z1 (fun w => w z2))) (fun _ => hq)))
theorem mn_16 {PX : Int32 → SX → Prop} {YS : (SY → Prop) → Prop} {U : SX} {W : SY} {n NF r N : Nat} {F : gm_A} {s G b p t pr cc lc fc m hb u : Nat} {vs : List Int32} {S : List gm_I} {T Tb : List Nat} {vr rt mem out : Nat → Int32} (c : cx PX YS U W n NF r F) (IH : RG PX YS U W n NF r F N) {a d e0 : Nat} {v : Int32} (hok : gm_ok W.2.2.2.2.2.2.2.2.2.2.2.2.2.2.2.2.2.2.2.2.2.2.2.2.1 W.2.2.2.2.2.2.2.2.2.2.2.2.2.2.2.2.2.2.2.2.2.2.2.2.2.1 n F NF m p ((16, a, d, e0, v) :: S) cc lc fc) (hz : zl W.2.2.2.2.2.2.2.2.2.2.2.2.2.2.2.2.2.2.2.2.2.2.2.2.1 W.2.2.2.2.2.2.2.2.2.2.2.2.2.2.2.2.2.2.2.2.2.2.2.2.2.1 n F NF Tb hb ((16, a, d, e0, v) :: S) T vs.length) (hf : frs W.2.2.2.2.2.2.2.2.2.2.2.2.2.2.2.2.2.2.2.2.2.2.2.2.1 W.2.2.2.2.2.2.2.2.2.2.2.2.2.2.2.2.2.2.2.2.2.2.2.2.2.1 n F NF rt b Tb hb u)
    (HY : ∀ Q, (∀ g, g ≤ G → yR Q W g (b + 1) vs p t pr T vr mem out) → YS Q) (hm : m ≤ 400) (hb7 : b ≤ 7) (ht : t ≤ 120) (hpr : pr ≤ s) (hN : t * 401 + m + u < N + 1) (hG : G + 2 * (t * 401 + m + u) + 5 ≤ 400000) (hs : s + 4 * (t * 401 + m + u) + 5 ≤ 1000000) : zX PX U r s b vs cc t pr vr rt mem out := by
  have hn := c.2.1.2.1
  have bd := mn_bd c hok hz hf hb7
  obtain ⟨m, rfl⟩ : ∃ m', m = m' + 1 := by
    cases m with
    | zero => exact hok.elim
    | succ m => exact ⟨m, rfl⟩
  obtain ⟨hI, hsc, hd⟩ := hok
  have hp := hI.1
  have l1 := hI.2.1.1
  have hv := hI.2.2.2.2.2.1.1
  have hs2 := hI.2.2.2.2.2.2.2
  unfold gm_d at hd
  dsimp only at hd
  rw [if_neg (by decide), if_neg (by decide), if_neg (by decide), if_neg (by decide), if_neg (by decide), if_neg (by decide), if_neg (by decide), if_neg (by decide), if_neg (by decide), if_neg (by decide), if_neg (by decide), if_neg (by decide), if_neg (by decide), if_neg (by decide), if_neg (by decide), if_pos rfl] at hd
  unfold zl at hz
  dsimp only at hz
  rw [if_neg (by decide), if_neg (by decide), if_neg (by decide), if_neg (by decide), if_neg (by decide), if_neg (by decide), if_neg (by decide), if_neg (by decide), if_neg (by decide), if_neg (by decide), if_neg (by decide), if_neg (by decide), if_pos rfl] at hz
  obtain ⟨e, T', cn, rfl, he, hc, hc3, hS, hz⟩ := hz
  have ha : a < n := by simpa [gm_vl] using hv
  obtain ⟨v2, S2, rfl⟩ := hS
  have hK2 : W.2.2.2.2.2.2.2.2.2.2.2.2.2.2.2.2.2.2.2.2.2.2.2.2.1 a = 2 := by
    have := hI.2.2.2.2.2.1.2.1
    simp [gm_vl] at this
    exact this.2.2
  obtain ⟨f, c2, hf1, hf2, hf3, hf4, hf5, hf6⟩ := mn_fun c ha hK2
  rw [hf3, hf4] at hc
  have ecn : c2 = cn := (nI_eq (by omega) (by omega)).mp hc
  by_cases h1 : gm_tk W.2.2.2.2.2.2.2.2.2.2.2.2.2.2.2.2.2.2.2.2.2.2.2.2.1 n p = 5
  · rw [if_pos h1] at hd
    have h5 := hsc.1 rfl h1
    have ec : cn = 0 := by
      dsimp only at h5
      rw [hf6, ← nI_0] at h5
      have := (nI_eq (by omega) (by omega)).mp h5
      omega
    subst ec
    exact IH (s) (G + 1) _ _ _ _ _ _ _ _ _ _ _ _ _ _ _ _ _ _ hd.2.2 hz hf (fun Q q => HY Q (fun g hg => yl_args c.2.1 (by omega) hp (by simp only [List.length_cons] at bd ⊢; omega) (by simp only [List.length_cons] at bd ⊢; omega) he ha (fun _ => (q _ (by omega))) (fun z => absurd h1 z))) (by omega) hb7 ht (by omega) (by omega) (by omega) (by omega)
  · rw [if_neg h1] at hd
    refine IH s (G + 1) _ _ _ _ _ _ _ _ _ _ _ _ (yp_n 16 0 vs.length :: yp_n 24 a vs.length :: T') _ _ _ _ _ hd.2.2 ?_ hf (fun Q q => HY Q (fun g hg => yl_args c.2.1 (by omega) hp (by simp only [List.length_cons] at bd ⊢; omega) (by simp only [List.length_cons] at bd ⊢; omega) he ha (fun z => absurd z h1) (fun _ => (q _ (by omega))))) (by omega) hb7 ht (by omega) (by omega) (by omega) (by omega)
    exact Or.inl ⟨rfl, _, _, rfl, (yp_e_n (a := 16) (b := 0) (h := vs.length) (by decide) (by omega) (by simp only [List.length_cons] at bd; omega)), ⟨_, T', cn, vs.length, rfl, rfl, (yp_e_n (a := 24) (b := a) (h := vs.length) (by decide) (by omega) (by simp only [List.length_cons] at bd; omega)), by rw [hf3, hf4]; exact hc, hc3, ⟨v2, S2, rfl⟩, hz⟩⟩
theorem mn_17 {PX : Int32 → SX → Prop} {YS : (SY → Prop) → Prop} {U : SX} {W : SY} {n NF r N : Nat} {F : gm_A} {s G b p t pr cc lc fc m hb u : Nat} {vs : List Int32} {S : List gm_I} {T Tb : List Nat} {vr rt mem out : Nat → Int32} (c : cx PX YS U W n NF r F) (IH : RG PX YS U W n NF r F N) {a d e0 : Nat} {v : Int32} (hok : gm_ok W.2.2.2.2.2.2.2.2.2.2.2.2.2.2.2.2.2.2.2.2.2.2.2.2.1 W.2.2.2.2.2.2.2.2.2.2.2.2.2.2.2.2.2.2.2.2.2.2.2.2.2.1 n F NF m p ((17, a, d, e0, v) :: S) cc lc fc) (hz : zl W.2.2.2.2.2.2.2.2.2.2.2.2.2.2.2.2.2.2.2.2.2.2.2.2.1 W.2.2.2.2.2.2.2.2.2.2.2.2.2.2.2.2.2.2.2.2.2.2.2.2.2.1 n F NF Tb hb ((17, a, d, e0, v) :: S) T vs.length) (hf : frs W.2.2.2.2.2.2.2.2.2.2.2.2.2.2.2.2.2.2.2.2.2.2.2.2.1 W.2.2.2.2.2.2.2.2.2.2.2.2.2.2.2.2.2.2.2.2.2.2.2.2.2.1 n F NF rt b Tb hb u)
    (HY : ∀ Q, (∀ g, g ≤ G → yR Q W g (b + 1) vs p t pr T vr mem out) → YS Q) (hm : m ≤ 400) (hb7 : b ≤ 7) (ht : t ≤ 120) (hpr : pr ≤ s) (hN : t * 401 + m + u < N + 1) (hG : G + 2 * (t * 401 + m + u) + 5 ≤ 400000) (hs : s + 4 * (t * 401 + m + u) + 5 ≤ 1000000) : zX PX U r s b vs cc t pr vr rt mem out := by
  have hn := c.2.1.2.1
  have bd := mn_bd c hok hz hf hb7
  obtain ⟨m, rfl⟩ : ∃ m', m = m' + 1 := by
    cases m with
    | zero => exact hok.elim
    | succ m => exact ⟨m, rfl⟩
  obtain ⟨hI, hsc, hd⟩ := hok
  have hp := hI.1
  have l1 := hI.2.1.1
  have hv := hI.2.2.2.2.2.1.1
  have hs2 := hI.2.2.2.2.2.2.2
  unfold gm_d at hd
  dsimp only at hd
  rw [if_neg (by decide), if_neg (by decide), if_neg (by decide), if_neg (by decide), if_neg (by decide), if_neg (by decide), if_neg (by decide), if_neg (by decide), if_neg (by decide), if_neg (by decide), if_neg (by decide), if_neg (by decide), if_neg (by decide), if_neg (by decide), if_neg (by decide), if_neg (by decide), if_pos rfl] at hd
  unfold zl at hz
  dsimp only at hz
  rw [if_neg (by decide), if_neg (by decide), if_neg (by decide), if_neg (by decide), if_neg (by decide), if_neg (by decide), if_neg (by decide), if_neg (by decide), if_neg (by decide), if_neg (by decide), if_neg (by decide), if_neg (by decide), if_neg (by decide), if_pos rfl] at hz
  obtain ⟨e, T', cn, h0, hh, rfl, he, hc, hc3, hS, hz⟩ := hz
  have ha : a < n ∧ 1 ≤ d ∧ d ≤ p := by simpa [gm_vl] using hv
  obtain ⟨v2, S2, rfl⟩ := hS
  have hK2 : W.2.2.2.2.2.2.2.2.2.2.2.2.2.2.2.2.2.2.2.2.2.2.2.2.1 a = 2 := by
    have := hI.2.2.2.2.2.1.2.1
    simp [gm_vl] at this
    exact this.2.2
  obtain ⟨f, c2, hf1, hf2, hf3, hf4, hf5, hf6⟩ := mn_fun c ha.1 hK2
  rw [hf3, hf4] at hc
  have ecn : c2 = cn := (nI_eq (by omega) (by omega)).mp hc
  by_cases h1 : gm_tk W.2.2.2.2.2.2.2.2.2.2.2.2.2.2.2.2.2.2.2.2.2.2.2.2.1 n p = 5
  · rw [if_pos h1] at hd
    have h5 := hsc.2 rfl h1
    have ec : cn = d := by
      dsimp only at h5
      rw [hf6] at h5
      have := (nI_eq (by omega) (by omega)).mp h5
      omega
    subst ec
    exact IH (s) (G + 1) _ _ _ _ _ _ _ _ _ _ _ _ _ _ _ _ _ _ hd.2.2 (by rw [hh]; exact hz) hf (fun Q q => HY Q (fun g hg => yl_margs c.2.1 (by omega) hp (by simp only [List.length_cons] at bd ⊢; omega) (by simp only [List.length_cons] at bd ⊢; omega) he ha.1 (Or.inl h1) (fun _ => (q _ (by omega))) (fun z => absurd (z.symm.trans h1) (by decide)))) (by omega) hb7 ht (by omega) (by omega) (by omega) (by omega)
  · rw [if_neg h1] at hd
    by_cases h2 : gm_tk W.2.2.2.2.2.2.2.2.2.2.2.2.2.2.2.2.2.2.2.2.2.2.2.2.1 n p = 11
    · rw [if_pos h2] at hd
      refine IH s (G + 1) _ _ _ _ _ _ _ _ _ _ _ _ (yp_n 16 0 vs.length :: yp_n 24 a vs.length :: T') _ _ _ _ _ hd.2.2 ?_ hf (fun Q q => HY Q (fun g hg => yl_margs c.2.1 (by omega) hp (by simp only [List.length_cons] at bd ⊢; omega) (by simp only [List.length_cons] at bd ⊢; omega) he ha.1 (Or.inr h2) (fun z => absurd z h1) (fun _ => (q _ (by omega))))) (by omega) hb7 ht (by omega) (by omega) (by omega) (by omega)
      exact Or.inl ⟨rfl, _, _, rfl, (yp_e_n (a := 16) (b := 0) (h := vs.length) (by decide) (by omega) (by simp only [List.length_cons] at bd; omega)), ⟨_, T', cn, h0, by dsimp only; omega, rfl, (yp_e_n (a := 24) (b := a) (h := vs.length) (by decide) (by omega) (by simp only [List.length_cons] at bd; omega)), by rw [hf3, hf4]; exact hc, hc3, ⟨v2, S2, rfl⟩, hz⟩⟩
    · rw [if_neg h2] at hd
      exact hd.elim
theorem mn_18 {PX : Int32 → SX → Prop} {YS : (SY → Prop) → Prop} {U : SX} {W : SY} {n NF r N : Nat} {F : gm_A} {s G b p t pr cc lc fc m hb u : Nat} {vs : List Int32} {S : List gm_I} {T Tb : List Nat} {vr rt mem out : Nat → Int32} (c : cx PX YS U W n NF r F) (IH : RG PX YS U W n NF r F N) {a d e0 : Nat} {v : Int32} (hok : gm_ok W.2.2.2.2.2.2.2.2.2.2.2.2.2.2.2.2.2.2.2.2.2.2.2.2.1 W.2.2.2.2.2.2.2.2.2.2.2.2.2.2.2.2.2.2.2.2.2.2.2.2.2.1 n F NF m p ((18, a, d, e0, v) :: S) cc lc fc) (hz : zl W.2.2.2.2.2.2.2.2.2.2.2.2.2.2.2.2.2.2.2.2.2.2.2.2.1 W.2.2.2.2.2.2.2.2.2.2.2.2.2.2.2.2.2.2.2.2.2.2.2.2.2.1 n F NF Tb hb ((18, a, d, e0, v) :: S) T vs.length) (hf : frs W.2.2.2.2.2.2.2.2.2.2.2.2.2.2.2.2.2.2.2.2.2.2.2.2.1 W.2.2.2.2.2.2.2.2.2.2.2.2.2.2.2.2.2.2.2.2.2.2.2.2.2.1 n F NF rt b Tb hb u)
    (HY : ∀ Q, (∀ g, g ≤ G → yR Q W g (b + 1) vs p t pr T vr mem out) → YS Q) (hm : m ≤ 400) (hb7 : b ≤ 7) (ht : t ≤ 120) (hpr : pr ≤ s) (hN : t * 401 + m + u < N + 1) (hG : G + 2 * (t * 401 + m + u) + 5 ≤ 400000) (hs : s + 4 * (t * 401 + m + u) + 5 ≤ 1000000) : zX PX U r s b vs cc t pr vr rt mem out := by
  have hn := c.2.1.2.1
  have bd := mn_bd c hok hz hf hb7
  obtain ⟨m, rfl⟩ : ∃ m', m = m' + 1 := by
    cases m with
    | zero => exact hok.elim
    | succ m => exact ⟨m, rfl⟩
  obtain ⟨hI, hsc, hd⟩ := hok
  have hp := hI.1
  have l1 := hI.2.1.1
  have hv := hI.2.2.2.2.2.1.1
  have hs2 := hI.2.2.2.2.2.2.2
  unfold gm_d at hd
  dsimp only at hd
  rw [if_neg (by decide), if_neg (by decide), if_neg (by decide), if_neg (by decide), if_neg (by decide), if_neg (by decide), if_neg (by decide), if_neg (by decide), if_neg (by decide), if_neg (by decide), if_neg (by decide), if_neg (by decide), if_neg (by decide), if_neg (by decide), if_neg (by decide), if_neg (by decide), if_neg (by decide), if_pos rfl] at hd
  unfold zl at hz
  dsimp only at hz
  rw [if_neg (by decide), if_neg (by decide), if_neg (by decide), if_neg (by decide), if_neg (by decide), if_neg (by decide), if_neg (by decide), if_neg (by decide), if_neg (by decide), if_neg (by decide), if_neg (by decide), if_pos rfl] at hz
  obtain ⟨e, T', h0, cn, hh, rfl, he, hc, hc3, hz⟩ := hz
  have ha : a < n ∧ v = W.2.2.2.2.2.2.2.2.2.2.2.2.2.2.2.2.2.2.2.2.2.2.2.2.2.1 a ∧ W.2.2.2.2.2.2.2.2.2.2.2.2.2.2.2.2.2.2.2.2.2.2.2.2.1 a = 2 := by simpa [gm_vl] using hv
  obtain ⟨ha, rfl, hK2⟩ := ha
  obtain ⟨f, c2, hf1, hf2, hf3, hf4, hf5, hf6⟩ := mn_fun c ha hK2
  rw [hf3, hf4] at hc
  have ecn : c2 = cn := (nI_eq (by omega) (by omega)).mp hc
  subst ecn
  obtain ⟨_, hu, hok⟩ := hd
  have u1 := mn_up1 hu
  have u2 := mn_up2 hu
  have u3 := mn_up3 hu
  simp only [gm_sm] at l1
  simp [gw_e] at l1
  obtain ⟨mf, pf, ccf, lcf, c3, hmf, hokf, hbf, hsf, hcf, _⟩ := c.2.2.2.2.2.2.1 f hf1
  have hNF := c.2.2.2.2.1
  have dl : (vs.drop c2).length = h0 := by rw [List.length_drop]; omega
  have hpar : W.2.2.2.2.2.2.2.2.2.2.2.2.2.2.2.2.2.2.2.2.2.2.2.2.2.2.2.2.1 f = nI c2 := (congrFun c.2.2.1 f).trans hf4
  have hbeg : W.2.2.2.2.2.2.2.2.2.2.2.2.2.2.2.2.2.2.2.2.2.2.2.2.2.2.2.1 f = nI pf := (congrFun c.2.2.2.1 f).trans hbf
  refine zx_room c.1 (by omega) (by omega) (by omega) u1.1 u1.2.2 hb7 (fun hb => ?_) (fun hb => ?_)
  · refine zx_tick c.1 (by omega) (by omega) (by omega) u2.1 u2.2.2 ht (fun hT => ?_) (fun hT => ?_)
    · refine zx_enter c.1 (by omega) (by omega) (by omega) u3.1 (u3.2.1.trans hf2) (by omega) hf4 hc3 (by omega) hsf hb ?_
      refine IH (s + 1 + 1 + 1) (G + 1) _ _ _ _ _ _ _ _ h0 (m + u) _ _ _ (yp_n 26 p h0 :: T') _ _ _ _ hokf ?_ ?_ (fun Q q => HY Q (fun g hg => yl_call c.2.1 (by omega) hp (by simp only [List.length_cons] at bd ⊢; omega) (by simp only [List.length_cons] at bd ⊢; omega) he ha hf2 (by omega) hpar hc3 (by omega) hbeg (by omega) ht (fun z => absurd z (by omega)) (fun _ z => absurd z (by omega)) (fun _ _ => (q _ (by omega))))) hmf (by omega) (by omega) (by omega) (by omega) (by omega) (by omega)
      · rw [dl]
        exact zl_e (by simp) (yp_e_n (by decide) (by decide) (by omega)) (fun z => absurd z (by simp)) ⟨rfl, rfl, rfl⟩
      · exact ⟨m, p, S, cc + 3, lc, fc, T', Tb, _, u, rfl, hok, by omega, pk_us, hz, frs_rt b (fun j hj => pk_un (by omega)) hf, rfl⟩
    · exact c.2.2.2.2.2.2.2 4 _ 0 t pr mem out ht (by simp) (fun Q hq => HY Q (fun g hg => yl_call c.2.1 (by omega) hp (by simp only [List.length_cons] at bd ⊢; omega) (by simp only [List.length_cons] at bd ⊢; omega) he ha hf2 (by omega) hpar hc3 (by omega) hbeg (by omega) ht (fun z => absurd z (by omega)) (fun _ _ => hq) (fun _ z => absurd z (by omega))))
  · exact c.2.2.2.2.2.2.2 3 _ 0 t pr mem out ht (by simp) (fun Q hq => HY Q (fun g hg => yl_call c.2.1 (by omega) hp (by simp only [List.length_cons] at bd ⊢; omega) (by simp only [List.length_cons] at bd ⊢; omega) he ha hf2 (by omega) hpar hc3 (by omega) hbeg (by omega) ht (fun _ => hq) (fun z => absurd z (by omega)) (fun z => absurd z (by omega))))
end
section
/-! run: conditions and loops; the walk down to a marker -/
theorem yk_tru {post : SY → Prop} {W : SY} {g a p t pr h : Nat} {T : List Nat} {vr mem out va : Nat → Int32} {ca pd : Int32} (hg : g < 400000) (hT : T.length + 10 < 1300) {e : Nat} (he : yp_e e 21) (H : yD post W (g + 1) p T h pd ca a t pr va vr mem out) : yD post W g p (e :: T) h pd ca a t pr va vr mem out := by
  intro td hd
  refine yi_e 21 0 (by decide) (by decide) he (by omega) hg rfl (by omega) hd rfl rfl fun Q hQ => ?_
  exact br_f (by decide) (br_t (by decide) (br_t rfl (hQ _ (H td hd.2))))
theorem mn_dw {PX : Int32 → SX → Prop} {YS : (SY → Prop) → Prop} {U : SX} {W : SY} {n NF r : Nat} {F : gm_A} (c : cx PX YS U W n NF r F) {m p cc lc fc : Nat} {S1 Sb : List gm_I} (hok : gm_ok W.2.2.2.2.2.2.2.2.2.2.2.2.2.2.2.2.2.2.2.2.2.2.2.2.1 W.2.2.2.2.2.2.2.2.2.2.2.2.2.2.2.2.2.2.2.2.2.2.2.2.2.1 n F NF m p (S1 ++ Sb) cc lc fc) :
    ∃ m' p' cc' lc' fc', m' ≤ m ∧ gm_ok W.2.2.2.2.2.2.2.2.2.2.2.2.2.2.2.2.2.2.2.2.2.2.2.2.1 W.2.2.2.2.2.2.2.2.2.2.2.2.2.2.2.2.2.2.2.2.2.2.2.2.2.1 n F NF m' p' Sb cc' lc' fc' ∧ ∀ (Q : SY → Prop) (G h a t pr : Nat) (T Tb : List Nat) (pd ca : Int32) (va vr mem out : Nat → Int32), yd_R false pd Tb S1 T → Tb.length + 150 < 1300 → h < 1024 → G + m ≤ 400000 →
      (∀ g', g' ≤ G + (m - m') → yD Q W g' p' Tb h pd ca a t pr va vr mem out) → ∀ g, g ≤ G → yD Q W g p T h pd ca a t pr va vr mem out := by
  obtain ⟨k, m', p', cc', lc', fc', e1, hto, hok'⟩ := gm_to_ex c.2.1.2.2.1 m p S1 cc lc fc hok
  refine ⟨m', p', cc', lc', fc', by omega, hok', fun Q G h a t pr T Tb pd ca va vr mem out hR hTb hh hG H g hg => ?_⟩
  exact yd_walk (W := wD W h pd ca a t pr va vr mem out) (o := 0) (f0 := 0) (A0 := yA0) (R0 := []) (yb_h c.2.1 hh) rfl hTb k g p S1 cc lc fc T [] hto hR (by omega) (fun g' h1 h2 => H g' (by omega))
theorem ok_s {K V : Nat → Int32} {n : Nat} {F : gm_A} {NF m p : Nat} {S : List gm_I} {cc lc fc : Nat} (h : gm_ok K V n F NF m p S cc lc fc) : ∃ m', m = m' + 1 := by
  cases m with
  | zero => exact h.elim
  | succ m => exact ⟨m, rfl⟩
theorem mn_6 {PX : Int32 → SX → Prop} {YS : (SY → Prop) → Prop} {U : SX} {W : SY} {n NF r N : Nat} {F : gm_A} {s G b p t pr cc lc fc m hb u : Nat} {vs : List Int32} {S : List gm_I} {T Tb : List Nat} {vr rt mem out : Nat → Int32} (c : cx PX YS U W n NF r F) (IH : RG PX YS U W n NF r F N) {a d e0 : Nat} {v : Int32} (hok : gm_ok W.2.2.2.2.2.2.2.2.2.2.2.2.2.2.2.2.2.2.2.2.2.2.2.2.1 W.2.2.2.2.2.2.2.2.2.2.2.2.2.2.2.2.2.2.2.2.2.2.2.2.2.1 n F NF m p ((6, a, d, e0, v) :: S) cc lc fc) (hz : zl W.2.2.2.2.2.2.2.2.2.2.2.2.2.2.2.2.2.2.2.2.2.2.2.2.1 W.2.2.2.2.2.2.2.2.2.2.2.2.2.2.2.2.2.2.2.2.2.2.2.2.2.1 n F NF Tb hb ((6, a, d, e0, v) :: S) T vs.length) (hf : frs W.2.2.2.2.2.2.2.2.2.2.2.2.2.2.2.2.2.2.2.2.2.2.2.2.1 W.2.2.2.2.2.2.2.2.2.2.2.2.2.2.2.2.2.2.2.2.2.2.2.2.2.1 n F NF rt b Tb hb u)
    (HY : ∀ Q, (∀ g, g ≤ G → yR Q W g (b + 1) vs p t pr T vr mem out) → YS Q) (hm : m ≤ 400) (hb7 : b ≤ 7) (ht : t ≤ 120) (hpr : pr ≤ s) (hN : t * 401 + m + u < N + 1) (hG : G + 2 * (t * 401 + m + u) + 5 ≤ 400000) (hs : s + 4 * (t * 401 + m + u) + 5 ≤ 1000000) : zX PX U r s b vs cc t pr vr rt mem out := by
  have hn := c.2.1.2.1
  have bd := mn_bd c hok hz hf hb7
  obtain ⟨m, rfl⟩ : ∃ m', m = m' + 1 := by
    cases m with
    | zero => exact hok.elim
    | succ m => exact ⟨m, rfl⟩
  obtain ⟨hI, hsc, hd⟩ := hok
  have hp := hI.1
  have l1 := hI.2.1.1
  have hv := hI.2.2.2.2.2.1.1
  have hs2 := hI.2.2.2.2.2.2.2
  unfold gm_d at hd
  dsimp only at hd
  rw [if_neg (by decide), if_neg (by decide), if_neg (by decide), if_neg (by decide), if_neg (by decide), if_pos rfl] at hd
  unfold zl at hz
  dsimp only at hz
  rw [if_neg (by decide), if_neg (by decide), if_neg (by decide), if_neg (by decide), if_neg (by decide), if_neg (by decide), if_neg (by decide), if_pos rfl] at hz
  obtain ⟨e, T', h', hh, rfl, he, hz⟩ := hz
  obtain ⟨_, hu, hok⟩ := hd
  have u1 := mn_up1 hu
  simp only [gm_sm] at l1
  simp [gw_e] at l1
  obtain ⟨v1, vs, rfl⟩ : ∃ v1 vs', vs = v1 :: vs' := by
    cases vs with
    | nil => simp at hh
    | cons v1 vs => exact ⟨v1, vs, rfl⟩
  have e9 : vs.length = h' := by simpa using hh
  subst e9
  have lb : a + 2 ≤ lc := by have := hI.2.2.2.1; simp [gm_lb] at this; omega
  have l2' := hI.2.1.2.1
  obtain ⟨m2, p2, cc2, lc2, fc2, hm2, hok2, dw⟩ := mn_dw c (S1 := [gi_S]) hok
  obtain ⟨m3, rfl⟩ := ok_s hok2
  obtain ⟨hI2, _, hd2⟩ := hok2
  have hp2 := hI2.1
  have l2 := hI2.2.1.1
  unfold gm_d at hd2
  dsimp only at hd2
  rw [if_neg (by decide), if_neg (by decide), if_neg (by decide), if_neg (by decide), if_neg (by decide), if_neg (by decide), if_pos rfl] at hd2
  by_cases h1 : v1 = 0
  · by_cases h35 : gm_tk W.2.2.2.2.2.2.2.2.2.2.2.2.2.2.2.2.2.2.2.2.2.2.2.2.1 n p2 = 35
    · rw [if_pos h35] at hd2
      obtain ⟨_, hu2, hok3⟩ := hd2
      have hL := mn_lab hu2
      refine zx_j59 (pc' := cc2 + 1) c.1 (by omega) (by omega) (by simp only [List.length_cons] at bd; omega) u1.1 u1.2.1 (by omega) (fun _ => hL) (fun _ => ?_) (fun z => absurd h1 z)
      refine IH (s + 1) (G + 1 + (m - (m3 + 1)) + 1) _ _ _ _ _ _ _ _ _ _ _ _ (yp_n 3 0 vs.length :: T') _ _ _ _ _ hok3 (zl_e (by simp) (yp_e_n (a := 3) (b := 0) (h := vs.length) (by decide) (by omega) (by simp only [List.length_cons] at bd ⊢; omega)) (fun z => absurd z (by simp)) hz) hf (fun Q q => HY Q (fun g hg => yl_I c.2.1 (by omega) hp (by simp only [List.length_cons] at bd ⊢; omega) (by simp only [List.length_cons] at bd ⊢; omega) he (fun _ va ca hva => dw Q (G + 1) vs.length (b + 1) t pr _ (yp_n 7 2 vs.length :: T') 0 ca va vr mem out (yr_1 (by simp) (yp_e_n (a := 3) (b := 0) (h := vs.length) (by decide) (by omega) (by simp only [List.length_cons] at bd ⊢; omega)) rfl) (by simp only [List.length_cons] at bd ⊢; omega) (by simp only [List.length_cons] at bd ⊢; omega) (by omega) (fun g' hg' => yk_els c.2.1 (by omega) hp2 (by simp only [List.length_cons] at bd ⊢; omega) (by simp only [List.length_cons] at bd ⊢; omega) (yp_e_n (a := 7) (b := 2) (h := vs.length) (by decide) (by omega) (by simp only [List.length_cons] at bd ⊢; omega)) hva (fun z => absurd h35 z) (fun _ => (q _ (by omega)))) _ (by omega)) (fun z => absurd h1 z))) (by omega) hb7 ht (by omega) (by omega) (by omega) (by omega)
    · rw [if_neg h35] at hd2
      obtain ⟨_, hu2, hok3⟩ := hd2
      have hL := mn_lab hu2
      refine zx_j59 (pc' := cc2) c.1 (by omega) (by omega) (by simp only [List.length_cons] at bd; omega) u1.1 u1.2.1 (by omega) (fun _ => hL) (fun _ => ?_) (fun z => absurd h1 z)
      exact IH (s + 1) (G + 1 + (m - (m3 + 1)) + 1) _ _ _ _ _ _ _ _ _ _ _ _ _ _ _ _ _ _ hok3 hz hf (fun Q q => HY Q (fun g hg => yl_I c.2.1 (by omega) hp (by simp only [List.length_cons] at bd ⊢; omega) (by simp only [List.length_cons] at bd ⊢; omega) he (fun _ va ca hva => dw Q (G + 1) vs.length (b + 1) t pr _ (yp_n 7 2 vs.length :: T') 0 ca va vr mem out (yr_1 (by simp) (yp_e_n (a := 3) (b := 0) (h := vs.length) (by decide) (by omega) (by simp only [List.length_cons] at bd ⊢; omega)) rfl) (by simp only [List.length_cons] at bd ⊢; omega) (by simp only [List.length_cons] at bd ⊢; omega) (by omega) (fun g' hg' => yk_els c.2.1 (by omega) hp2 (by simp only [List.length_cons] at bd ⊢; omega) (by simp only [List.length_cons] at bd ⊢; omega) (yp_e_n (a := 7) (b := 2) (h := vs.length) (by decide) (by omega) (by simp only [List.length_cons] at bd ⊢; omega)) hva (fun _ => (q _ (by omega))) (fun z => absurd z h35)) _ (by omega)) (fun z => absurd h1 z))) (by omega) hb7 ht (by omega) (by omega) (by omega) (by omega)
  · refine zx_j59 (pc' := 0) c.1 (by omega) (by omega) (by simp only [List.length_cons] at bd; omega) u1.1 u1.2.1 (by omega) (fun z => absurd z h1) (fun z => absurd z h1) (fun _ => ?_)
    exact IH (s + 1) (G + 1) _ _ _ _ _ _ _ _ _ _ _ _ (yp_n 3 0 vs.length :: yp_n 7 1 vs.length :: T') _ _ _ _ _ hok (zl_e (by simp) (yp_e_n (a := 3) (b := 0) (h := vs.length) (by decide) (by omega) (by simp only [List.length_cons] at bd ⊢; omega)) (fun z => absurd z (by simp)) ⟨_, T', rfl, (yp_e_n (a := 7) (b := 1) (h := vs.length) (by decide) (by omega) (by simp only [List.length_cons] at bd ⊢; omega)), hz⟩) hf (fun Q q => HY Q (fun g hg => yl_I c.2.1 (by omega) hp (by simp only [List.length_cons] at bd ⊢; omega) (by simp only [List.length_cons] at bd ⊢; omega) he (fun z => absurd z h1) (fun _ => (q _ (by omega))))) (by omega) hb7 ht (by omega) (by omega) (by omega) (by omega)
theorem mn_7 {PX : Int32 → SX → Prop} {YS : (SY → Prop) → Prop} {U : SX} {W : SY} {n NF r N : Nat} {F : gm_A} {s G b p t pr cc lc fc m hb u : Nat} {vs : List Int32} {S : List gm_I} {T Tb : List Nat} {vr rt mem out : Nat → Int32} (c : cx PX YS U W n NF r F) (IH : RG PX YS U W n NF r F N) {a d e0 : Nat} {v : Int32} (hok : gm_ok W.2.2.2.2.2.2.2.2.2.2.2.2.2.2.2.2.2.2.2.2.2.2.2.2.1 W.2.2.2.2.2.2.2.2.2.2.2.2.2.2.2.2.2.2.2.2.2.2.2.2.2.1 n F NF m p ((7, a, d, e0, v) :: S) cc lc fc) (hz : zl W.2.2.2.2.2.2.2.2.2.2.2.2.2.2.2.2.2.2.2.2.2.2.2.2.1 W.2.2.2.2.2.2.2.2.2.2.2.2.2.2.2.2.2.2.2.2.2.2.2.2.2.1 n F NF Tb hb ((7, a, d, e0, v) :: S) T vs.length) (hf : frs W.2.2.2.2.2.2.2.2.2.2.2.2.2.2.2.2.2.2.2.2.2.2.2.2.1 W.2.2.2.2.2.2.2.2.2.2.2.2.2.2.2.2.2.2.2.2.2.2.2.2.2.1 n F NF rt b Tb hb u)
    (HY : ∀ Q, (∀ g, g ≤ G → yR Q W g (b + 1) vs p t pr T vr mem out) → YS Q) (hm : m ≤ 400) (hb7 : b ≤ 7) (ht : t ≤ 120) (hpr : pr ≤ s) (hN : t * 401 + m + u < N + 1) (hG : G + 2 * (t * 401 + m + u) + 5 ≤ 400000) (hs : s + 4 * (t * 401 + m + u) + 5 ≤ 1000000) : zX PX U r s b vs cc t pr vr rt mem out := by
  have hn := c.2.1.2.1
  have bd := mn_bd c hok hz hf hb7
  obtain ⟨m, rfl⟩ : ∃ m', m = m' + 1 := by
    cases m with
    | zero => exact hok.elim
    | succ m => exact ⟨m, rfl⟩
  obtain ⟨hI, hsc, hd⟩ := hok
  have hp := hI.1
  have l1 := hI.2.1.1
  have hv := hI.2.2.2.2.2.1.1
  have hs2 := hI.2.2.2.2.2.2.2
  unfold gm_d at hd
  dsimp only at hd
  rw [if_neg (by decide), if_neg (by decide), if_neg (by decide), if_neg (by decide), if_neg (by decide), if_neg (by decide), if_pos rfl] at hd
  unfold zl at hz
  dsimp only at hz
  rw [if_neg (by decide), if_neg (by decide), if_neg (by decide), if_neg (by decide), if_pos rfl] at hz
  obtain ⟨e, T', rfl, he, hz⟩ := hz
  have lb : a + 2 ≤ lc := by have := hI.2.2.2.1; simp [gm_lb] at this; omega
  have l2' := hI.2.1.2.1
  by_cases h35 : gm_tk W.2.2.2.2.2.2.2.2.2.2.2.2.2.2.2.2.2.2.2.2.2.2.2.2.1 n p = 35
  · rw [if_pos h35] at hd
    obtain ⟨_, hu, hok⟩ := hd
    have u1 := mn_up1 hu
    simp only [gm_sm] at l1
    simp [gw_e] at l1
    obtain ⟨m2, p2, cc2, lc2, fc2, hm2, hok2, dw⟩ := mn_dw c (S1 := [gi_S]) hok
    obtain ⟨m3, rfl⟩ := ok_s hok2
    obtain ⟨hI2, _, hd2⟩ := hok2
    have hp2 := hI2.1
    have l2 := hI2.2.1.1
    unfold gm_d at hd2
    dsimp only at hd2
    rw [if_neg (by decide), if_neg (by decide), if_neg (by decide), if_neg (by decide), if_neg (by decide), if_neg (by decide), if_neg (by decide), if_pos rfl] at hd2
    obtain ⟨_, hu2, hok3⟩ := hd2
    have hL := mn_lab hu2
    refine zx_j58 (pc' := cc2) c.1 (by omega) (by omega) (by omega) u1.1 u1.2.1 (by omega) hL ?_
    exact IH (s + 1) (G + 1 + (m - (m3 + 1)) + 1) _ _ _ _ _ _ _ _ _ _ _ _ _ _ _ _ _ _ hok3 hz hf (fun Q q => HY Q (fun g hg => yl_L1 c.2.1 (by omega) hp (by simp only [List.length_cons] at bd ⊢; omega) (by simp only [List.length_cons] at bd ⊢; omega) he (fun z => absurd h35 z) (fun _ va ca hva => dw Q (G + 1) vs.length (b + 1) t pr _ (yp_n 5 0 vs.length :: T') 0 ca va vr mem out (yr_1 (by simp) (yp_e_n (a := 3) (b := 0) (h := vs.length) (by decide) (by omega) (by simp only [List.length_cons] at bd ⊢; omega)) rfl) (by simp only [List.length_cons] at bd ⊢; omega) (by simp only [List.length_cons] at bd ⊢; omega) (by omega) (fun g' hg' => yk_rev c.2.1 (by omega) hp2 (by simp only [List.length_cons] at bd ⊢; omega) (by simp only [List.length_cons] at bd ⊢; omega) (yp_e_n (a := 5) (b := 0) (h := vs.length) (by decide) (by omega) (by simp only [List.length_cons] at bd ⊢; omega)) hva (q _ (by omega))) _ (by omega)))) (by omega) hb7 ht (by omega) (by omega) (by omega) (by omega)
  · rw [if_neg h35] at hd
    exact IH (s) (G + 1) _ _ _ _ _ _ _ _ _ _ _ _ _ _ _ _ _ _ hd.2.2 hz hf (fun Q q => HY Q (fun g hg => yl_L1 c.2.1 (by omega) hp (by simp only [List.length_cons] at bd ⊢; omega) (by simp only [List.length_cons] at bd ⊢; omega) he (fun _ => (q _ (by omega))) (fun z => absurd z h35))) (by omega) hb7 ht (by omega) (by omega) (by omega) (by omega)
theorem mn_9 {PX : Int32 → SX → Prop} {YS : (SY → Prop) → Prop} {U : SX} {W : SY} {n NF r N : Nat} {F : gm_A} {s G b p t pr cc lc fc m hb u : Nat} {vs : List Int32} {S : List gm_I} {T Tb : List Nat} {vr rt mem out : Nat → Int32} (c : cx PX YS U W n NF r F) (IH : RG PX YS U W n NF r F N) {a d e0 : Nat} {v : Int32} (hok : gm_ok W.2.2.2.2.2.2.2.2.2.2.2.2.2.2.2.2.2.2.2.2.2.2.2.2.1 W.2.2.2.2.2.2.2.2.2.2.2.2.2.2.2.2.2.2.2.2.2.2.2.2.2.1 n F NF m p ((9, a, d, e0, v) :: S) cc lc fc) (hz : zl W.2.2.2.2.2.2.2.2.2.2.2.2.2.2.2.2.2.2.2.2.2.2.2.2.1 W.2.2.2.2.2.2.2.2.2.2.2.2.2.2.2.2.2.2.2.2.2.2.2.2.2.1 n F NF Tb hb ((9, a, d, e0, v) :: S) T vs.length) (hf : frs W.2.2.2.2.2.2.2.2.2.2.2.2.2.2.2.2.2.2.2.2.2.2.2.2.1 W.2.2.2.2.2.2.2.2.2.2.2.2.2.2.2.2.2.2.2.2.2.2.2.2.2.1 n F NF rt b Tb hb u)
    (HY : ∀ Q, (∀ g, g ≤ G → yR Q W g (b + 1) vs p t pr T vr mem out) → YS Q) (hm : m ≤ 400) (hb7 : b ≤ 7) (ht : t ≤ 120) (hpr : pr ≤ s) (hN : t * 401 + m + u < N + 1) (hG : G + 2 * (t * 401 + m + u) + 5 ≤ 400000) (hs : s + 4 * (t * 401 + m + u) + 5 ≤ 1000000) : zX PX U r s b vs cc t pr vr rt mem out := by
  have hn := c.2.1.2.1
  have bd := mn_bd c hok hz hf hb7
  obtain ⟨m, rfl⟩ : ∃ m', m = m' + 1 := by
    cases m with
    | zero => exact hok.elim
    | succ m => exact ⟨m, rfl⟩
  obtain ⟨hI, hsc, hd⟩ := hok
  have hp := hI.1
  have l1 := hI.2.1.1
  have hv := hI.2.2.2.2.2.1.1
  have hs2 := hI.2.2.2.2.2.2.2
  unfold gm_d at hd
  dsimp only at hd
  rw [if_neg (by decide), if_neg (by decide), if_neg (by decide), if_neg (by decide), if_neg (by decide), if_neg (by decide), if_neg (by decide), if_neg (by decide), if_pos rfl] at hd
  unfold zl at hz
  dsimp only at hz
  rw [if_neg (by decide), if_neg (by decide), if_neg (by decide), if_neg (by decide), if_neg (by decide), if_neg (by decide), if_neg (by decide), if_neg (by decide), if_pos rfl] at hz
  obtain ⟨e, T', h', hh, rfl, he, hF, hz⟩ := hz
  have hq1 : 2 ≤ d ∧ d ≤ n := by simpa [gm_vl] using hv
  obtain ⟨_, hu, hok⟩ := hd
  have u1 := mn_up1 hu
  simp only [gm_sm] at l1
  simp [gw_e] at l1
  obtain ⟨v1, vs, rfl⟩ : ∃ v1 vs', vs = v1 :: vs' := by
    cases vs with
    | nil => simp at hh
    | cons v1 vs => exact ⟨v1, vs, rfl⟩
  have e9 : vs.length = h' := by simpa using hh
  subst e9
  have lb : a + 2 ≤ lc := by have := hI.2.2.2.1; simp [gm_lb] at this; omega
  have l2' := hI.2.1.2.1
  obtain ⟨m2, p2, cc2, lc2, fc2, hm2, hok2, dw⟩ := mn_dw c (S1 := [gi_S]) hok
  obtain ⟨m3, rfl⟩ := ok_s hok2
  obtain ⟨hI2, _, hd2⟩ := hok2
  have hp2 := hI2.1
  have l2 := hI2.2.1.1
  unfold gm_d at hd2
  dsimp only at hd2
  rw [if_neg (by decide), if_neg (by decide), if_neg (by decide), if_neg (by decide), if_neg (by decide), if_neg (by decide), if_neg (by decide), if_neg (by decide), if_neg (by decide), if_pos rfl] at hd2
  obtain ⟨_, hu2, hok3⟩ := hd2
  have hL := mn_lab hu2
  refine zx_j59 (pc' := cc2 + 1) c.1 (by omega) (by omega) (by simp only [List.length_cons] at bd; omega) u1.1 u1.2.1 (by omega) (fun _ => hL) (fun h1 => ?_) (fun h1 => ?_)
  · exact IH (s + 1) (G + 1 + (m - (m3 + 1)) + 1) _ _ _ _ _ _ _ _ _ _ _ _ _ _ _ _ _ _ hok3 hz hf (fun Q q => HY Q (fun g hg => yl_W c.2.1 (by omega) hp (by simp only [List.length_cons] at bd ⊢; omega) (by simp only [List.length_cons] at bd ⊢; omega) he (by omega) (fun _ va ca hva => dw Q (G + 1) vs.length (b + 1) t pr _ (yp_n 5 0 vs.length :: T') 0 ca va vr mem out (yr_1 (by simp) (yp_e_n (a := 3) (b := 0) (h := vs.length) (by decide) (by omega) (by simp only [List.length_cons] at bd ⊢; omega)) rfl) (by simp only [List.length_cons] at bd ⊢; omega) (by simp only [List.length_cons] at bd ⊢; omega) (by omega) (fun g' hg' => yk_rev c.2.1 (by omega) hp2 (by simp only [List.length_cons] at bd ⊢; omega) (by simp only [List.length_cons] at bd ⊢; omega) (yp_e_n (a := 5) (b := 0) (h := vs.length) (by decide) (by omega) (by simp only [List.length_cons] at bd ⊢; omega)) hva (q _ (by omega))) _ (by omega)) (fun z => absurd h1 z))) (by omega) hb7 ht (by omega) (by omega) (by omega) (by omega)
  · exact IH (s + 1) (G + 1) _ _ _ _ _ _ _ _ _ _ _ _ (yp_n 3 0 vs.length :: yp_n 9 d vs.length :: T') _ _ _ _ _ hok (zl_e (by simp) (yp_e_n (a := 3) (b := 0) (h := vs.length) (by decide) (by omega) (by simp only [List.length_cons] at bd ⊢; omega)) (fun z => absurd z (by simp)) ⟨d, _, T', rfl, by omega, (yp_e_n (a := 9) (b := d) (h := vs.length) (by decide) (by omega) (by simp only [List.length_cons] at bd ⊢; omega)), hF, hz⟩) hf (fun Q q => HY Q (fun g hg => yl_W c.2.1 (by omega) hp (by simp only [List.length_cons] at bd ⊢; omega) (by simp only [List.length_cons] at bd ⊢; omega) he (by omega) (fun z => absurd z h1) (fun _ => (q _ (by omega))))) (by omega) hb7 ht (by omega) (by omega) (by omega) (by omega)
theorem zl_head {K V : Nat → Int32} {n : Nat} {F : gm_A} {NF : Nat} {Tb T : List Nat} {hb h a q : Nat} {S : List gm_I} (hh : h < 1000) (hq : q < 1000) (hF : zlF K V n F NF a q S) (hz : zl K V n F NF Tb hb S T h) : zl K V n F NF Tb hb (gi_E 1 :: gi_X 5 :: gi_W a q :: S) (yp_n 16 0 h :: yp_n 4 5 h :: yp_n 8 q h :: T) h :=
  Or.inl ⟨rfl, _, _, rfl, yp_e_n (by decide) (by decide) (by omega), zl_e (by simp) (yp_e_n (by decide) (by decide) (by omega)) (fun z => absurd z (by simp)) ⟨_, T, h, rfl, rfl, yp_e_n (by decide) (by omega) (by omega), hF, hz⟩⟩
theorem mn_10 {PX : Int32 → SX → Prop} {YS : (SY → Prop) → Prop} {U : SX} {W : SY} {n NF r N : Nat} {F : gm_A} {s G b p t pr cc lc fc m hb u : Nat} {vs : List Int32} {S : List gm_I} {T Tb : List Nat} {vr rt mem out : Nat → Int32} (c : cx PX YS U W n NF r F) (IH : RG PX YS U W n NF r F N) {a d e0 : Nat} {v : Int32} (hok : gm_ok W.2.2.2.2.2.2.2.2.2.2.2.2.2.2.2.2.2.2.2.2.2.2.2.2.1 W.2.2.2.2.2.2.2.2.2.2.2.2.2.2.2.2.2.2.2.2.2.2.2.2.2.1 n F NF m p ((10, a, d, e0, v) :: S) cc lc fc) (hz : zl W.2.2.2.2.2.2.2.2.2.2.2.2.2.2.2.2.2.2.2.2.2.2.2.2.1 W.2.2.2.2.2.2.2.2.2.2.2.2.2.2.2.2.2.2.2.2.2.2.2.2.2.1 n F NF Tb hb ((10, a, d, e0, v) :: S) T vs.length) (hf : frs W.2.2.2.2.2.2.2.2.2.2.2.2.2.2.2.2.2.2.2.2.2.2.2.2.1 W.2.2.2.2.2.2.2.2.2.2.2.2.2.2.2.2.2.2.2.2.2.2.2.2.2.1 n F NF rt b Tb hb u)
    (HY : ∀ Q, (∀ g, g ≤ G → yR Q W g (b + 1) vs p t pr T vr mem out) → YS Q) (hm : m ≤ 400) (hb7 : b ≤ 7) (ht : t ≤ 120) (hpr : pr ≤ s) (hN : t * 401 + m + u < N + 1) (hG : G + 2 * (t * 401 + m + u) + 5 ≤ 400000) (hs : s + 4 * (t * 401 + m + u) + 5 ≤ 1000000) : zX PX U r s b vs cc t pr vr rt mem out := by
  have hn := c.2.1.2.1
  have bd := mn_bd c hok hz hf hb7
  obtain ⟨m, rfl⟩ : ∃ m', m = m' + 1 := by
    cases m with
    | zero => exact hok.elim
    | succ m => exact ⟨m, rfl⟩
  obtain ⟨hI, hsc, hd⟩ := hok
  have hp := hI.1
  have l1 := hI.2.1.1
  have hv := hI.2.2.2.2.2.1.1
  have hs2 := hI.2.2.2.2.2.2.2
  unfold gm_d at hd
  dsimp only at hd
  rw [if_neg (by decide), if_neg (by decide), if_neg (by decide), if_neg (by decide), if_neg (by decide), if_neg (by decide), if_neg (by decide), if_neg (by decide), if_neg (by decide), if_pos rfl] at hd
  unfold zl at hz
  dsimp only at hz
  rw [if_neg (by decide), if_neg (by decide), if_neg (by decide), if_pos rfl] at hz
  obtain ⟨q, e, T', rfl, hq, he, hF, hz⟩ := hz
  obtain ⟨_, hu, hok⟩ := hd
  have u1 := mn_up1 hu
  simp only [gm_sm] at l1
  simp [gw_e] at l1
  have hF' := hF
  obtain ⟨m0, cc0, lc0, fc0, hm0, hok0, hL, hk0, hpl0, hq2, hq120, hc0⟩ := hF
  have lb : a + 2 ≤ lc := by have := hI.2.2.2.1; simp [gm_lb] at this; omega
  have l2' := hI.2.1.2.1
  refine zx_j58 (pc' := cc0) c.1 (by omega) (by omega) (by omega) u1.1 u1.2.1 (by omega) hL ?_
  refine zx_tick c.1 (by omega) hc0 (by omega) hk0 hpl0 ht (fun hT => ?_) (fun hT => ?_)
  · exact IH (s + 1 + 1) (G + 1) _ _ _ _ _ _ _ _ _ _ _ _ _ _ _ _ _ _ hok0 (zl_head (by omega) (by omega) hF' hz) hf (fun Q q => HY Q (fun g hg => yl_O c.2.1 (by omega) hp (by simp only [List.length_cons] at bd ⊢; omega) (by simp only [List.length_cons] at bd ⊢; omega) he hq2 (by omega) ht (fun _ => (q _ (by omega))) (fun z => absurd z (by omega)))) hm0 hb7 (by omega) (by omega) (by omega) (by omega) (by omega)
  · exact c.2.2.2.2.2.2.2 4 _ 0 t pr mem out ht (by simp) (fun Q hq => HY Q (fun g hg => yl_O c.2.1 (by omega) hp (by simp only [List.length_cons] at bd ⊢; omega) (by simp only [List.length_cons] at bd ⊢; omega) he hq2 (by omega) ht (fun z => absurd z (by omega)) (fun _ => hq)))
end
section
/-! run: expressions -/
theorem vs_c {vs : List Int32} (h : 1 ≤ vs.length) : ∃ v1 l, vs = v1 :: l := by
  cases vs with
  | nil => simp at h
  | cons v1 l => exact ⟨v1, l, rfl⟩
theorem mn_una {PX : Int32 → SX → Prop} {YS : (SY → Prop) → Prop} {U : SX} {W : SY} {n NF r N : Nat} {F : gm_A} {s G b p t pr cc lc fc m hb u : Nat} {vs : List Int32} {S : List gm_I} {T Tb : List Nat} {vr rt mem out : Nat → Int32} (c : cx PX YS U W n NF r F) (IH : RG PX YS U W n NF r F N) {R : List gm_I} (hd : gm_una W.2.2.2.2.2.2.2.2.2.2.2.2.2.2.2.2.2.2.2.2.2.2.2.2.1 W.2.2.2.2.2.2.2.2.2.2.2.2.2.2.2.2.2.2.2.2.2.2.2.2.2.1 n (fun _ _ => False) (fun p' S' lc' fc' b es lw _ fw => b = false ∧ gm_up F cc fc p' es lw none fw = F ∧ gm_ok W.2.2.2.2.2.2.2.2.2.2.2.2.2.2.2.2.2.2.2.2.2.2.2.2.1 W.2.2.2.2.2.2.2.2.2.2.2.2.2.2.2.2.2.2.2.2.2.2.2.2.2.1 n F NF m p' S' (cc + es.length) lc' fc') p R lc fc) (hz : zl W.2.2.2.2.2.2.2.2.2.2.2.2.2.2.2.2.2.2.2.2.2.2.2.2.1 W.2.2.2.2.2.2.2.2.2.2.2.2.2.2.2.2.2.2.2.2.2.2.2.2.2.1 n F NF Tb hb R T (vs.length + 1)) (hf : frs W.2.2.2.2.2.2.2.2.2.2.2.2.2.2.2.2.2.2.2.2.2.2.2.2.1 W.2.2.2.2.2.2.2.2.2.2.2.2.2.2.2.2.2.2.2.2.2.2.2.2.2.1 n F NF rt b Tb hb u)
    (HY : ∀ Q, (∀ g, g ≤ G → yUn Q W g (b + 1) vs p t pr T vr mem out) → YS Q) (hp : p ≤ n) (l1 : cc ≤ 3 * p) (bd : T.length < 1150 ∧ vs.length < 500) (hm : m ≤ 400) (hb7 : b ≤ 7) (ht : t ≤ 120) (hpr : pr ≤ s) (hN : t * 401 + (m + 1) + u < N + 1) (hG : G + 2 * (t * 401 + (m + 1) + u) + 5 ≤ 400000) (hs : s + 4 * (t * 401 + (m + 1) + u) + 5 ≤ 1000000) : zX PX U r s b vs cc t pr vr rt mem out := by
  have hn := c.2.1.2.1
  have hb1 := bd.1
  have hb2 := bd.2
  unfold gm_una at hd
  by_cases h28 : gm_tk W.2.2.2.2.2.2.2.2.2.2.2.2.2.2.2.2.2.2.2.2.2.2.2.2.1 n p = 28
  · rw [if_pos h28] at hd
    refine IH (s) (G + 1) _ _ _ _ _ _ _ _ _ _ _ _ (yp_n 18 0 vs.length :: yp_n 19 28 vs.length :: T) _ _ _ _ _ hd.2.2 ?_ hf (fun Q q => HY Q (fun g hg => yu_s (d := 28) c.2.1 (by omega) hp (by omega) (by omega) (by omega) h28 (q _ (by omega)))) (by omega) hb7 ht (by omega) (by omega) (by omega) (by omega)
    exact ⟨_, _, rfl, (yp_e_n (a := 18) (b := 0) (h := vs.length) (by decide) (by omega) (by omega)), zl_e (by simp) (yp_e_n (a := 19) (b := 28) (h := vs.length) (by decide) (by omega) (by omega)) (fun _ => by omega) hz⟩
  rw [if_neg h28] at hd
  by_cases h32 : gm_tk W.2.2.2.2.2.2.2.2.2.2.2.2.2.2.2.2.2.2.2.2.2.2.2.2.1 n p = 32
  · rw [if_pos h32] at hd
    refine IH (s) (G + 1) _ _ _ _ _ _ _ _ _ _ _ _ (yp_n 18 0 vs.length :: yp_n 19 32 vs.length :: T) _ _ _ _ _ hd.2.2 ?_ hf (fun Q q => HY Q (fun g hg => yu_s (d := 32) c.2.1 (by omega) hp (by omega) (by omega) (by omega) h32 (q _ (by omega)))) (by omega) hb7 ht (by omega) (by omega) (by omega) (by omega)
    exact ⟨_, _, rfl, (yp_e_n (a := 18) (b := 0) (h := vs.length) (by decide) (by omega) (by omega)), zl_e (by simp) (yp_e_n (a := 19) (b := 32) (h := vs.length) (by decide) (by omega) (by omega)) (fun _ => by omega) hz⟩
  rw [if_neg h32] at hd
  by_cases h33 : gm_tk W.2.2.2.2.2.2.2.2.2.2.2.2.2.2.2.2.2.2.2.2.2.2.2.2.1 n p = 33
  · rw [if_pos h33] at hd
    refine IH (s) (G + 1) _ _ _ _ _ _ _ _ _ _ _ _ (yp_n 18 0 vs.length :: yp_n 19 33 vs.length :: T) _ _ _ _ _ hd.2.2 ?_ hf (fun Q q => HY Q (fun g hg => yu_s (d := 33) c.2.1 (by omega) hp (by omega) (by omega) (by omega) h33 (q _ (by omega)))) (by omega) hb7 ht (by omega) (by omega) (by omega) (by omega)
    exact ⟨_, _, rfl, (yp_e_n (a := 18) (b := 0) (h := vs.length) (by decide) (by omega) (by omega)), zl_e (by simp) (yp_e_n (a := 19) (b := 33) (h := vs.length) (by decide) (by omega) (by omega)) (fun _ => by omega) hz⟩
  rw [if_neg h33] at hd
  by_cases h0 : gm_tk W.2.2.2.2.2.2.2.2.2.2.2.2.2.2.2.2.2.2.2.2.2.2.2.2.1 n p = 0
  · rw [if_pos h0] at hd
    have hq := gm_tk_lt h0 (by decide)
    have u1 := mn_up1 hd.2.1
    refine zx_push c.1 (by omega) (by omega) (by omega) u1.1 u1.2.1 ?_
    exact IH (s + 1) (G + 1) _ _ _ _ _ _ _ _ _ _ _ _ _ _ _ _ _ _ hd.2.2 hz hf (fun Q q => HY Q (fun g hg => yu_0 c.2.1 (by omega) hp (by omega) (by omega) h0 (q _ (by omega)))) (by omega) hb7 ht (by omega) (by omega) (by omega) (by omega)
  rw [if_neg h0] at hd
  by_cases h1 : gm_tk W.2.2.2.2.2.2.2.2.2.2.2.2.2.2.2.2.2.2.2.2.2.2.2.2.1 n p = 1
  · rw [if_pos h1] at hd
    have hq := gm_tk_lt h1 (by decide)
    have u1 := mn_up1 hd.2.1
    obtain ⟨w, hw, ew⟩ := (c.2.1.2.2.1 p hq).2.1 ((gm_tk_K hq).symm.trans h1)
    refine zx_load c.1 (by omega) (by omega) (by omega) u1.1 (u1.2.1.trans ew) hw hb7 ?_
    exact IH (s + 1) (G + 1) _ _ _ _ _ _ _ _ _ _ _ _ _ _ _ _ _ _ hd.2.2 hz hf (fun Q q => HY Q (fun g hg => yu_1 c.2.1 (by omega) hp (by omega) (by omega) rfl hb7 h1 ew hw (q _ (by omega)))) (by omega) hb7 ht (by omega) (by omega) (by omega) (by omega)
  rw [if_neg h1] at hd
  by_cases h2 : gm_tk W.2.2.2.2.2.2.2.2.2.2.2.2.2.2.2.2.2.2.2.2.2.2.2.2.1 n p = 2
  · rw [if_pos h2] at hd
    have hq := gm_tk_lt h2 (by decide)
    by_cases h4 : gm_tk W.2.2.2.2.2.2.2.2.2.2.2.2.2.2.2.2.2.2.2.2.2.2.2.2.1 n (p + 1) = 4
    · rw [if_pos h4] at hd
      obtain ⟨f, cn, hf1, hf2, hf3, hf4, hf5, hf6⟩ := mn_fun c hq ((gm_tk_K hq).symm.trans h2)
      refine IH (s) (G + 1) _ _ _ _ _ _ _ _ _ _ _ _ (yp_n 23 p vs.length :: yp_n 25 p vs.length :: T) _ _ _ _ _ hd.2.2 ?_ hf (fun Q q => HY Q (fun g hg => yu_2 c.2.1 (by omega) hp (by omega) (by omega) h2 h4 (q _ (by omega)))) (by omega) hb7 ht (by omega) (by omega) (by omega) (by omega)
      exact ⟨_, _, cn, rfl, (yp_e_n (a := 23) (b := p) (h := vs.length) (by decide) (by omega) (by omega)), by rw [hf3]; exact hf4, hf5, ⟨_, R, rfl⟩, ⟨_, T, vs.length, cn, rfl, rfl, rfl, by rw [hf3]; exact hf4, hf5, hz⟩⟩
    · rw [if_neg h4] at hd
      exact hd.elim
  rw [if_neg h2] at hd
  by_cases h3 : gm_tk W.2.2.2.2.2.2.2.2.2.2.2.2.2.2.2.2.2.2.2.2.2.2.2.2.1 n p = 3
  · rw [if_pos h3] at hd
    have hq := gm_tk_lt h3 (by decide)
    by_cases h4 : gm_tk W.2.2.2.2.2.2.2.2.2.2.2.2.2.2.2.2.2.2.2.2.2.2.2.2.1 n (p + 1) = 6
    · rw [if_pos h4] at hd
      refine IH (s) (G + 1) _ _ _ _ _ _ _ _ _ _ _ _ (yp_n 16 0 vs.length :: yp_n 4 7 vs.length :: yp_n 22 p vs.length :: T) _ _ _ _ _ hd.2.2 ?_ hf (fun Q q => HY Q (fun g hg => yu_3 c.2.1 (by omega) hp (by omega) (by omega) h3 h4 (q _ (by omega)))) (by omega) hb7 ht (by omega) (by omega) (by omega) (by omega)
      exact Or.inl ⟨rfl, _, _, rfl, (yp_e_n (a := 16) (b := 0) (h := vs.length) (by decide) (by omega) (by omega)), zl_e (by simp) (yp_e_n (a := 4) (b := 7) (h := vs.length) (by decide) (by omega) (by omega)) (fun z => absurd z (by simp)) (zl_e (by simp) (yp_e_n (a := 22) (b := p) (h := vs.length) (by decide) (by omega) (by omega)) (fun _ => by omega) hz)⟩
    · rw [if_neg h4] at hd
      exact hd.elim
  rw [if_neg h3] at hd
  by_cases h4 : gm_tk W.2.2.2.2.2.2.2.2.2.2.2.2.2.2.2.2.2.2.2.2.2.2.2.2.1 n p = 4
  · rw [if_pos h4] at hd
    refine IH (s) (G + 1) _ _ _ _ _ _ _ _ _ _ _ _ (yp_n 16 0 vs.length :: yp_n 4 5 vs.length :: T) _ _ _ _ _ hd.2.2 ?_ hf (fun Q q => HY Q (fun g hg => yu_4 c.2.1 (by omega) hp (by omega) (by omega) h4 (q _ (by omega)))) (by omega) hb7 ht (by omega) (by omega) (by omega) (by omega)
    exact Or.inl ⟨rfl, _, _, rfl, (yp_e_n (a := 16) (b := 0) (h := vs.length) (by decide) (by omega) (by omega)), zl_e (by simp) (yp_e_n (a := 4) (b := 5) (h := vs.length) (by decide) (by omega) (by omega)) (fun z => absurd z (by simp)) hz⟩
  rw [if_neg h4] at hd
  exact hd.elim
theorem mn_14 {PX : Int32 → SX → Prop} {YS : (SY → Prop) → Prop} {U : SX} {W : SY} {n NF r N : Nat} {F : gm_A} {s G b p t pr cc lc fc m hb u : Nat} {vs : List Int32} {S : List gm_I} {T Tb : List Nat} {vr rt mem out : Nat → Int32} (c : cx PX YS U W n NF r F) (IH : RG PX YS U W n NF r F N) {a d e0 : Nat} {v : Int32} (hok : gm_ok W.2.2.2.2.2.2.2.2.2.2.2.2.2.2.2.2.2.2.2.2.2.2.2.2.1 W.2.2.2.2.2.2.2.2.2.2.2.2.2.2.2.2.2.2.2.2.2.2.2.2.2.1 n F NF m p ((14, a, d, e0, v) :: S) cc lc fc) (hz : zl W.2.2.2.2.2.2.2.2.2.2.2.2.2.2.2.2.2.2.2.2.2.2.2.2.1 W.2.2.2.2.2.2.2.2.2.2.2.2.2.2.2.2.2.2.2.2.2.2.2.2.2.1 n F NF Tb hb ((14, a, d, e0, v) :: S) T vs.length) (hf : frs W.2.2.2.2.2.2.2.2.2.2.2.2.2.2.2.2.2.2.2.2.2.2.2.2.1 W.2.2.2.2.2.2.2.2.2.2.2.2.2.2.2.2.2.2.2.2.2.2.2.2.2.1 n F NF rt b Tb hb u)
    (HY : ∀ Q, (∀ g, g ≤ G → yR Q W g (b + 1) vs p t pr T vr mem out) → YS Q) (hm : m ≤ 400) (hb7 : b ≤ 7) (ht : t ≤ 120) (hpr : pr ≤ s) (hN : t * 401 + m + u < N + 1) (hG : G + 2 * (t * 401 + m + u) + 5 ≤ 400000) (hs : s + 4 * (t * 401 + m + u) + 5 ≤ 1000000) : zX PX U r s b vs cc t pr vr rt mem out := by
  have hn := c.2.1.2.1
  have bd := mn_bd c hok hz hf hb7
  obtain ⟨m, rfl⟩ : ∃ m', m = m' + 1 := by
    cases m with
    | zero => exact hok.elim
    | succ m => exact ⟨m, rfl⟩
  obtain ⟨hI, hsc, hd⟩ := hok
  have hp := hI.1
  have l1 := hI.2.1.1
  have hv := hI.2.2.2.2.2.1.1
  have hs2 := hI.2.2.2.2.2.2.2
  unfold gm_d at hd
  dsimp only at hd
  rw [if_neg (by decide), if_neg (by decide), if_neg (by decide), if_neg (by decide), if_neg (by decide), if_neg (by decide), if_neg (by decide), if_neg (by decide), if_neg (by decide), if_neg (by decide), if_neg (by decide), if_neg (by decide), if_neg (by decide), if_pos rfl] at hd
  unfold zl at hz
  dsimp only at hz
  rw [if_neg (by decide), if_neg (by decide), if_neg (by decide), if_neg (by decide), if_neg (by decide), if_neg (by decide), if_pos rfl] at hz
  obtain ⟨e, T', rfl, he, hz⟩ := hz
  simp only [List.length_cons] at bd
  exact mn_una (S := []) (G := G) c IH hd hz hf (fun Q q => HY Q (fun g hg => yl_N c.2.1 (by omega) hp (by omega) (by omega) he (q g hg))) hp (by omega) (by omega) (by omega) hb7 ht hpr hN hG hs
theorem mn_12 {PX : Int32 → SX → Prop} {YS : (SY → Prop) → Prop} {U : SX} {W : SY} {n NF r N : Nat} {F : gm_A} {s G b p t pr cc lc fc m hb u : Nat} {vs : List Int32} {S : List gm_I} {T Tb : List Nat} {vr rt mem out : Nat → Int32} (c : cx PX YS U W n NF r F) (IH : RG PX YS U W n NF r F N) {a d e0 : Nat} {v : Int32} (hok : gm_ok W.2.2.2.2.2.2.2.2.2.2.2.2.2.2.2.2.2.2.2.2.2.2.2.2.1 W.2.2.2.2.2.2.2.2.2.2.2.2.2.2.2.2.2.2.2.2.2.2.2.2.2.1 n F NF m p ((12, a, d, e0, v) :: S) cc lc fc) (hz : zl W.2.2.2.2.2.2.2.2.2.2.2.2.2.2.2.2.2.2.2.2.2.2.2.2.1 W.2.2.2.2.2.2.2.2.2.2.2.2.2.2.2.2.2.2.2.2.2.2.2.2.2.1 n F NF Tb hb ((12, a, d, e0, v) :: S) T vs.length) (hf : frs W.2.2.2.2.2.2.2.2.2.2.2.2.2.2.2.2.2.2.2.2.2.2.2.2.1 W.2.2.2.2.2.2.2.2.2.2.2.2.2.2.2.2.2.2.2.2.2.2.2.2.2.1 n F NF rt b Tb hb u)
    (HY : ∀ Q, (∀ g, g ≤ G → yR Q W g (b + 1) vs p t pr T vr mem out) → YS Q) (hm : m ≤ 400) (hb7 : b ≤ 7) (ht : t ≤ 120) (hpr : pr ≤ s) (hN : t * 401 + m + u < N + 1) (hG : G + 2 * (t * 401 + m + u) + 5 ≤ 400000) (hs : s + 4 * (t * 401 + m + u) + 5 ≤ 1000000) : zX PX U r s b vs cc t pr vr rt mem out := by
  have hn := c.2.1.2.1
  have bd := mn_bd c hok hz hf hb7
  obtain ⟨m, rfl⟩ : ∃ m', m = m' + 1 := by
    cases m with
    | zero => exact hok.elim
    | succ m => exact ⟨m, rfl⟩
  obtain ⟨hI, hsc, hd⟩ := hok
  have hp := hI.1
  have l1 := hI.2.1.1
  have hv := hI.2.2.2.2.2.1.1
  have hs2 := hI.2.2.2.2.2.2.2
  unfold gm_d at hd
  dsimp only at hd
  rw [if_neg (by decide), if_neg (by decide), if_neg (by decide), if_neg (by decide), if_neg (by decide), if_neg (by decide), if_neg (by decide), if_neg (by decide), if_neg (by decide), if_neg (by decide), if_neg (by decide), if_pos rfl] at hd
  unfold zl at hz
  dsimp only at hz
  rw [if_neg (by decide), if_neg (by decide), if_neg (by decide), if_neg (by decide), if_neg (by decide), if_pos rfl] at hz
  simp only [gm_sm] at l1
  simp [gw_e] at l1
  rcases hz with ⟨h1, e, T', rfl, he, hz⟩ | ⟨h1, e, f, T', rfl, he, hf2, hz⟩
  · simp only [List.length_cons] at bd
    subst h1
    exact mn_una (S := []) (G := G) c IH hd (zl_e (e := yp_n 17 1 vs.length) (by simp) (yp_e_n (a := 17) (b := 1) (h := vs.length) (by decide) (by omega) (by omega)) (fun _ => by omega) hz) hf (fun Q q => HY Q (fun g hg => yl_E1 c.2.1 (by omega) hp (by omega) (by omega) he (q g hg))) hp (by omega) (by simp only [List.length_cons]; omega) (by omega) hb7 ht hpr hN hG hs
  · simp only [List.length_cons] at bd
    exact mn_una (S := []) (G := G) c IH hd (zl_e (by simp) hf2 (fun _ => by omega) hz) hf (fun Q q => HY Q (fun g hg => yl_N c.2.1 (by omega) hp (by omega) (by simp only [List.length_cons]; omega) he (q g hg))) hp (by omega) (by simp only [List.length_cons]; omega) (by omega) hb7 ht hpr hN hG hs
theorem mn_13 {PX : Int32 → SX → Prop} {YS : (SY → Prop) → Prop} {U : SX} {W : SY} {n NF r N : Nat} {F : gm_A} {s G b p t pr cc lc fc m hb u : Nat} {vs : List Int32} {S : List gm_I} {T Tb : List Nat} {vr rt mem out : Nat → Int32} (c : cx PX YS U W n NF r F) (IH : RG PX YS U W n NF r F N) {a d e0 : Nat} {v : Int32} (hok : gm_ok W.2.2.2.2.2.2.2.2.2.2.2.2.2.2.2.2.2.2.2.2.2.2.2.2.1 W.2.2.2.2.2.2.2.2.2.2.2.2.2.2.2.2.2.2.2.2.2.2.2.2.2.1 n F NF m p ((13, a, d, e0, v) :: S) cc lc fc) (hz : zl W.2.2.2.2.2.2.2.2.2.2.2.2.2.2.2.2.2.2.2.2.2.2.2.2.1 W.2.2.2.2.2.2.2.2.2.2.2.2.2.2.2.2.2.2.2.2.2.2.2.2.2.1 n F NF Tb hb ((13, a, d, e0, v) :: S) T vs.length) (hf : frs W.2.2.2.2.2.2.2.2.2.2.2.2.2.2.2.2.2.2.2.2.2.2.2.2.1 W.2.2.2.2.2.2.2.2.2.2.2.2.2.2.2.2.2.2.2.2.2.2.2.2.2.1 n F NF rt b Tb hb u)
    (HY : ∀ Q, (∀ g, g ≤ G → yR Q W g (b + 1) vs p t pr T vr mem out) → YS Q) (hm : m ≤ 400) (hb7 : b ≤ 7) (ht : t ≤ 120) (hpr : pr ≤ s) (hN : t * 401 + m + u < N + 1) (hG : G + 2 * (t * 401 + m + u) + 5 ≤ 400000) (hs : s + 4 * (t * 401 + m + u) + 5 ≤ 1000000) : zX PX U r s b vs cc t pr vr rt mem out := by
  have hn := c.2.1.2.1
  have bd := mn_bd c hok hz hf hb7
  obtain ⟨m, rfl⟩ : ∃ m', m = m' + 1 := by
    cases m with
    | zero => exact hok.elim
    | succ m => exact ⟨m, rfl⟩
  obtain ⟨hI, hsc, hd⟩ := hok
  have hp := hI.1
  have l1 := hI.2.1.1
  have hv := hI.2.2.2.2.2.1.1
  have hs2 := hI.2.2.2.2.2.2.2
  unfold gm_d at hd
  dsimp only at hd
  rw [if_neg (by decide), if_neg (by decide), if_neg (by decide), if_neg (by decide), if_neg (by decide), if_neg (by decide), if_neg (by decide), if_neg (by decide), if_neg (by decide), if_neg (by decide), if_neg (by decide), if_neg (by decide), if_pos rfl] at hd
  unfold zl at hz
  dsimp only at hz
  rw [if_neg (by decide), if_neg (by decide), if_neg (by decide), if_neg (by decide), if_neg (by decide), if_neg (by decide), if_neg (by decide), if_neg (by decide), if_neg (by decide), if_neg (by decide), if_neg (by decide), if_neg (by decide), if_neg (by decide), if_neg (by decide)] at hz
  obtain ⟨e, T', rfl, he, h1, hz⟩ := hz
  have he : yp_e e (17 + 32 * a) := he
  have h1 := h1 (by simp)
  have hw : 1 ≤ a ∧ a ≤ 11 := by simpa [gm_vl] using hv
  have hs2' := gm_str_le (gm_tk W.2.2.2.2.2.2.2.2.2.2.2.2.2.2.2.2.2.2.2.2.2.2.2.2.1 n p)
  simp only [List.length_cons] at bd
  simp only [gm_sm] at l1
  simp [gw_e] at l1
  unfold gm_bin at hd
  by_cases h0 : gm_str (gm_tk W.2.2.2.2.2.2.2.2.2.2.2.2.2.2.2.2.2.2.2.2.2.2.2.2.1 n p) < a
  · rw [if_pos h0] at hd
    exact IH (s) (G + 1) _ _ _ _ _ _ _ _ _ _ _ _ _ _ _ _ _ _ hd.2.2 hz hf (fun Q q => HY Q (fun g hg => yl_R0 c.2.1 (by omega) hp (by omega) (by omega) he hw.2 h0 (q _ (by omega)))) (by omega) hb7 ht (by omega) (by omega) (by omega) (by omega)
  rw [if_neg h0] at hd
  have hq : p < n := by
    by_cases z : p < n
    · exact z
    · rw [show gm_tk W.2.2.2.2.2.2.2.2.2.2.2.2.2.2.2.2.2.2.2.2.2.2.2.2.1 n p = -1 from if_neg z, gm_str0] at h0
      omega
  have sc : ∀ (q k : Nat), (q = 1 ∧ k = 61 ∨ q = 2 ∧ k = 60) → gm_str (gm_tk W.2.2.2.2.2.2.2.2.2.2.2.2.2.2.2.2.2.2.2.2.2.2.2.2.1 n p) = q → (gm_up F cc fc (p + 1) [(57, 0, p), (k, nI lc, p)] none none none = F) → gm_ok W.2.2.2.2.2.2.2.2.2.2.2.2.2.2.2.2.2.2.2.2.2.2.2.2.1 W.2.2.2.2.2.2.2.2.2.2.2.2.2.2.2.2.2.2.2.2.2.2.2.2.2.1 n F NF m (p + 1) (gi_E (q + 1) :: gi_T lc p :: gi_R a :: S) (cc + 2) (lc + 2) fc → zX PX U r s b vs cc t pr vr rt mem out := by
    intro q k hqk hstr hu hok
    obtain ⟨v1, vs, rfl⟩ := vs_c h1
    simp only [List.length_cons] at bd h1 hz
    have u1 := mn_up1 hu
    have u2 := mn_up2 hu
    have l2' := hI.2.1.2.1
    obtain ⟨m2, p2, cc2, lc2, fc2, hm2, hok2, dw⟩ := mn_dw c (S1 := [gi_E (q + 1)]) hok
    obtain ⟨m3, rfl⟩ := ok_s hok2
    obtain ⟨hI2, _, hd2⟩ := hok2
    have hp2 := hI2.1
    unfold gm_d at hd2
    dsimp only at hd2
    rw [if_neg (by decide), if_neg (by decide), if_neg (by decide), if_neg (by decide), if_neg (by decide), if_neg (by decide), if_neg (by decide), if_neg (by decide), if_neg (by decide), if_neg (by decide), if_neg (by decide), if_neg (by decide), if_neg (by decide), if_neg (by decide), if_pos rfl] at hd2
    obtain ⟨_, hu2, hok3⟩ := hd2
    have hL := mn_lab hu2
    have zR : ∀ e, yp_e e (17 + 32 * a) → zl W.2.2.2.2.2.2.2.2.2.2.2.2.2.2.2.2.2.2.2.2.2.2.2.2.1 W.2.2.2.2.2.2.2.2.2.2.2.2.2.2.2.2.2.2.2.2.2.2.2.2.2.1 n F NF Tb hb (gi_R a :: S) (e :: T') (vs.length + 1) := fun e he => zl_e (by simp) he (fun _ => by omega) hz
    refine zx_un c.1 (by omega) (by omega) (by omega) u1.1 (by omega) ?_
    have short : (v1 = 0 ↔ q = 2) → zX PX U r (s + 1 + 1) b (zv_u 57 v1 :: vs) (cc2 + 1) t pr vr rt mem out := by
      intro hi
      refine IH (s + 1 + 1) (G + 1 + (m - (m3 + 1)) + 2) _ _ _ _ _ _ _ _ _ _ _ _ (yp_n 17 a (vs.length + 1) :: T') _ _ _ _ _ hok3 (zR _ (yp_e_n (a := 17) (b := a) (h := vs.length + 1) (by decide) (by omega) (by omega))) hf (fun Q q => HY Q (fun g hg => yl_R2 c.2.1 (by omega) hp (by omega) (by omega) he hw.2 hq (by omega) hstr (by omega) (fun _ va ca hva => dw Q (G + 1) (vs.length + 1) (b + 1) t pr _ (yp_n 21 0 (vs.length + 1) :: yp_n 5 0 (vs.length + 1) :: yp_n 17 a (vs.length + 1) :: T') 0 ca va vr mem out (yr_E (by omega) (yp_e_n (a := 18) (b := 0) (h := vs.length + 1) (by decide) (by omega) (by omega)) (yp_e_n (a := 17) (b := _) (h := vs.length + 1) (by decide) (by omega) (by omega)) rfl) (by simp only [List.length_cons]; omega) (by omega) (by omega) (fun g' hg' => yk_tru (by omega) (by simp only [List.length_cons]; omega) (yp_e_n (a := 21) (b := 0) (h := vs.length + 1) (by decide) (by omega) (by omega)) (yk_rev (vs := zv_u 57 v1 :: vs) c.2.1 (by omega) hp2 (by simp only [List.length_cons]; omega) (by simp only [List.length_cons]; omega) (yp_e_n (a := 5) (b := 0) (h := vs.length + 1) (by decide) (by omega) (by omega)) hva (q _ (by omega)))) _ (by omega)) (fun z => absurd hi z))) (by omega) hb7 ht (by omega) (by omega) (by omega) (by omega)
    have long : ¬ (v1 = 0 ↔ q = 2) → zX PX U r (s + 1 + 1) b vs (cc + 1 + 1) t pr vr rt mem out := by
      intro hi
      refine IH (s + 1 + 1) (G + 1) _ _ _ _ _ _ _ _ _ _ _ _ (yp_n 18 0 vs.length :: yp_n 17 (q + 1) vs.length :: yp_n 21 0 vs.length :: yp_n 17 a (vs.length + 1) :: T') _ _ _ _ _ hok ?_ hf (fun Q q => HY Q (fun g hg => yl_R2 c.2.1 (by omega) hp (by omega) (by omega) he hw.2 hq (by omega) hstr (by omega) (fun z => absurd z hi) (fun _ => (q _ (by omega))))) (by omega) hb7 ht (by omega) (by omega) (by omega) (by omega)
      exact Or.inr ⟨by dsimp only; omega, _, _, _, rfl, (yp_e_n (a := 18) (b := 0) (h := vs.length) (by decide) (by omega) (by omega)), (yp_e_n (a := 17) (b := _) (h := vs.length) (by decide) (by omega) (by omega)), zl_e (by simp) (yp_e_n (a := 21) (b := 0) (h := vs.length) (by decide) (by omega) (by omega)) (fun _ => by omega) (zR _ (yp_e_n (a := 17) (b := a) (h := vs.length + 1) (by decide) (by omega) (by omega)))⟩
    have tv : zv_u 57 v1 = 0 ↔ v1 = 0 := by
      by_cases z : v1 = 0
      · rw [show zv_u 57 v1 = 0 from if_pos z]; exact ⟨fun _ => z, fun _ => rfl⟩
      · rw [show zv_u 57 v1 = 1 from if_neg z]; exact ⟨fun w => absurd w (by decide), fun w => absurd w z⟩
    rcases hqk with ⟨rfl, rfl⟩ | ⟨rfl, rfl⟩
    · exact zx_j61 (pc' := cc2 + 1) c.1 (by omega) (by omega) (by omega) u2.1 u2.2.1 (by omega) (fun _ => hL) (fun z => short ⟨fun w => absurd (tv.mpr w) z, fun w => absurd w (by decide)⟩) (fun z => long (fun i => absurd (i.mp (tv.mp z)) (by decide)))
    · exact zx_j60 (pc' := cc2 + 1) c.1 (by omega) (by omega) (by omega) u2.1 u2.2.1 (by omega) (fun _ => hL) (fun z => short ⟨fun _ => rfl, fun _ => tv.mp z⟩) (fun z => long (fun i => z (tv.mpr (i.mpr rfl))))
  by_cases h13 : gm_tk W.2.2.2.2.2.2.2.2.2.2.2.2.2.2.2.2.2.2.2.2.2.2.2.2.1 n p = 13
  · rw [if_pos h13] at hd
    exact sc 1 61 (Or.inl ⟨rfl, rfl⟩) (by rw [h13]; decide) hd.2.1 hd.2.2
  rw [if_neg h13] at hd
  by_cases h14 : gm_tk W.2.2.2.2.2.2.2.2.2.2.2.2.2.2.2.2.2.2.2.2.2.2.2.2.1 n p = 14
  · rw [if_pos h14] at hd
    exact sc 2 60 (Or.inr ⟨rfl, rfl⟩) (by rw [h14]; decide) hd.2.1 hd.2.2
  rw [if_neg h14] at hd
  have h2 : 2 < gm_str (gm_tk W.2.2.2.2.2.2.2.2.2.2.2.2.2.2.2.2.2.2.2.2.2.2.2.2.1 n p) := by
    obtain ⟨k, hk1, hk2⟩ := (c.2.1.2.2.1 p hq).1
    rw [gm_tk_K hq, hk2] at h0 h13 h14 ⊢
    have := gm_str_k hk1 (by omega)
    have e13 : k ≠ 13 := fun z => h13 (by rw [z]; rfl)
    have e14 : k ≠ 14 := fun z => h14 (by rw [z]; rfl)
    unfold gm_str
    rw [nI_clamp (by omega)]
    repeat' split
    all_goals omega
  refine IH s (G + 1) _ _ _ _ _ _ _ _ _ _ _ _ (yp_n 18 0 vs.length :: yp_n 17 (gm_str (gm_tk W.2.2.2.2.2.2.2.2.2.2.2.2.2.2.2.2.2.2.2.2.2.2.2.2.1 n p) + 1) vs.length :: yp_n 20 p vs.length :: yp_n 17 a vs.length :: T') _ _ _ _ _ hd.2.2 ?_ hf (fun Q q => HY Q (fun g hg => yl_R1 c.2.1 (by omega) hp (by omega) (by omega) he hw.2 hq h0 h2 (q _ (by omega)))) (by omega) hb7 ht (by omega) (by omega) (by omega) (by omega)
  exact Or.inr ⟨by dsimp only; omega, _, _, _, rfl, (yp_e_n (a := 18) (b := 0) (h := vs.length) (by decide) (by omega) (by omega)), (yp_e_n (a := 17) (b := _) (h := vs.length) (by decide) (by omega) (by omega)), ⟨_, _, vs.length, rfl, rfl, (yp_e_n (a := 20) (b := p) (h := vs.length) (by decide) (by omega) (by omega)), fun _ => h1, zl_e (by simp) (yp_e_n (a := 17) (b := a) (h := vs.length) (by decide) (by omega) (by omega)) (fun _ => h1) hz⟩⟩
end
section
/-! run: statements -/
theorem mn_stm {PX : Int32 → SX → Prop} {YS : (SY → Prop) → Prop} {U : SX} {W : SY} {n NF r N : Nat} {F : gm_A} {s G b p t pr cc lc fc m hb u : Nat} {vs : List Int32} {S : List gm_I} {T Tb : List Nat} {vr rt mem out : Nat → Int32} (c : cx PX YS U W n NF r F) (IH : RG PX YS U W n NF r F N) {R : List gm_I} (hd : gm_stm W.2.2.2.2.2.2.2.2.2.2.2.2.2.2.2.2.2.2.2.2.2.2.2.2.1 W.2.2.2.2.2.2.2.2.2.2.2.2.2.2.2.2.2.2.2.2.2.2.2.2.2.1 n (fun _ _ => False) (fun p' S' lc' fc' b es lw _ fw => b = false ∧ gm_up F cc fc p' es lw none fw = F ∧ gm_ok W.2.2.2.2.2.2.2.2.2.2.2.2.2.2.2.2.2.2.2.2.2.2.2.2.1 W.2.2.2.2.2.2.2.2.2.2.2.2.2.2.2.2.2.2.2.2.2.2.2.2.2.1 n F NF m p' S' (cc + es.length) lc' fc') p R cc lc fc) (hz : zl W.2.2.2.2.2.2.2.2.2.2.2.2.2.2.2.2.2.2.2.2.2.2.2.2.1 W.2.2.2.2.2.2.2.2.2.2.2.2.2.2.2.2.2.2.2.2.2.2.2.2.2.1 n F NF Tb hb R T vs.length) (hsl : gm_sl R) (hf : frs W.2.2.2.2.2.2.2.2.2.2.2.2.2.2.2.2.2.2.2.2.2.2.2.2.1 W.2.2.2.2.2.2.2.2.2.2.2.2.2.2.2.2.2.2.2.2.2.2.2.2.2.1 n F NF rt b Tb hb u)
    (HY : ∀ Q, (∀ g, g ≤ G → ySt Q W g (b + 1) vs p t pr T vr mem out) → YS Q) (hp : p ≤ n) (l1 : cc ≤ 3 * p) (l2 : lc ≤ 2 * p) (bd : T.length < 1150 ∧ vs.length < 500) (hm : m ≤ 400) (hb7 : b ≤ 7) (ht : t ≤ 120) (hpr : pr ≤ s) (hN : t * 401 + (m + 1) + u < N + 1) (hG : G + 2 * (t * 401 + (m + 1) + u) + 5 ≤ 400000) (hs : s + 4 * (t * 401 + (m + 1) + u) + 5 ≤ 1000000) : zX PX U r s b vs cc t pr vr rt mem out := by
  have hn := c.2.1.2.1
  have hb1 := bd.1
  have hb2 := bd.2
  unfold gm_stm at hd
  by_cases h8 : gm_tk W.2.2.2.2.2.2.2.2.2.2.2.2.2.2.2.2.2.2.2.2.2.2.2.2.1 n p = 8
  · rw [if_pos h8] at hd
    exact IH (s) (G + 1) _ _ _ _ _ _ _ _ _ _ _ _ (yp_n 2 0 vs.length :: T) _ _ _ _ _ hd.2.2 (zl_e (by simp) (yp_e_n (a := 2) (b := 0) (h := vs.length) (by decide) (by omega) (by omega)) (fun z => absurd z (by simp)) hz) hf (fun Q q => HY Q (fun g hg => ys_8 c.2.1 (by omega) hp (by omega) (by omega) h8 (q _ (by omega)))) (by omega) hb7 ht (by omega) (by omega) (by omega) (by omega)
  rw [if_neg h8] at hd
  by_cases h1 : gm_tk W.2.2.2.2.2.2.2.2.2.2.2.2.2.2.2.2.2.2.2.2.2.2.2.2.1 n p = 1
  · rw [if_pos h1] at hd
    have hq := gm_tk_lt h1 (by decide)
    by_cases hx : gm_tk W.2.2.2.2.2.2.2.2.2.2.2.2.2.2.2.2.2.2.2.2.2.2.2.2.1 n (p + 1) = 12
    · rw [if_pos hx] at hd
      obtain ⟨w, hw, ew⟩ := (c.2.1.2.2.1 p hq).2.1 ((gm_tk_K hq).symm.trans h1)
      rw [ew, nI_clamp (by omega)] at hd
      refine IH (s) (G + 1) _ _ _ _ _ _ _ _ _ _ _ _ (yp_n 16 0 vs.length :: yp_n 13 w vs.length :: yp_n 4 10 vs.length :: T) _ _ _ _ _ hd.2.2 ?_ hf (fun Q q => HY Q (fun g hg => ys_1 c.2.1 (by omega) hp (by omega) (by omega) h1 hx ew hw (q _ (by omega)))) (by omega) hb7 ht (by omega) (by omega) (by omega) (by omega)
      exact Or.inl ⟨rfl, _, _, rfl, (yp_e_n (a := 16) (b := 0) (h := vs.length) (by decide) (by omega) (by omega)), ⟨_, _, vs.length, rfl, rfl, (yp_e_n (a := 13) (b := w) (h := vs.length) (by decide) (by omega) (by omega)), fun z => absurd z (by simp), zl_e (by simp) (yp_e_n (a := 4) (b := 10) (h := vs.length) (by decide) (by omega) (by omega)) (fun z => absurd z (by simp)) hz⟩⟩
    · rw [if_neg hx] at hd
      exact hd.elim
  rw [if_neg h1] at hd
  by_cases h3 : gm_tk W.2.2.2.2.2.2.2.2.2.2.2.2.2.2.2.2.2.2.2.2.2.2.2.2.1 n p = 3
  · rw [if_pos h3] at hd
    have hq := gm_tk_lt h3 (by decide)
    by_cases hx : gm_tk W.2.2.2.2.2.2.2.2.2.2.2.2.2.2.2.2.2.2.2.2.2.2.2.2.1 n (p + 1) = 6
    · rw [if_pos hx] at hd
      refine IH (s) (G + 1) _ _ _ _ _ _ _ _ _ _ _ _ (yp_n 16 0 vs.length :: yp_n 4 7 vs.length :: yp_n 4 12 vs.length :: yp_n 16 0 vs.length :: yp_n 14 p vs.length :: yp_n 4 10 vs.length :: T) _ _ _ _ _ hd.2.2 ?_ hf (fun Q q => HY Q (fun g hg => ys_3 c.2.1 (by omega) hp (by omega) (by omega) h3 hx (q _ (by omega)))) (by omega) hb7 ht (by omega) (by omega) (by omega) (by omega)
      exact Or.inl ⟨rfl, _, _, rfl, (yp_e_n (a := 16) (b := 0) (h := vs.length) (by decide) (by omega) (by omega)), zl_e (by simp) (yp_e_n (a := 4) (b := 7) (h := vs.length) (by decide) (by omega) (by omega)) (fun z => absurd z (by simp)) (zl_e (by simp) (yp_e_n (a := 4) (b := 12) (h := vs.length) (by decide) (by omega) (by omega)) (fun z => absurd z (by simp)) (Or.inl ⟨rfl, _, _, rfl, (yp_e_n (a := 16) (b := 0) (h := vs.length) (by decide) (by omega) (by omega)), ⟨_, _, vs.length, rfl, rfl, (yp_e_n (a := 14) (b := p) (h := vs.length) (by decide) (by omega) (by omega)), zl_e (by simp) (yp_e_n (a := 4) (b := 10) (h := vs.length) (by decide) (by omega) (by omega)) (fun z => absurd z (by simp)) hz⟩⟩))⟩
    · rw [if_neg hx] at hd
      exact hd.elim
  rw [if_neg h3] at hd
  by_cases h2 : gm_tk W.2.2.2.2.2.2.2.2.2.2.2.2.2.2.2.2.2.2.2.2.2.2.2.2.1 n p = 2
  · rw [if_pos h2] at hd
    have hq := gm_tk_lt h2 (by decide)
    by_cases hx : gm_tk W.2.2.2.2.2.2.2.2.2.2.2.2.2.2.2.2.2.2.2.2.2.2.2.2.1 n (p + 1) = 4
    · rw [if_pos hx] at hd
      obtain ⟨f, cn, hf1, hf2, hf3, hf4, hf5, hf6⟩ := mn_fun c hq ((gm_tk_K hq).symm.trans h2)
      refine IH (s) (G + 1) _ _ _ _ _ _ _ _ _ _ _ _ (yp_n 23 p vs.length :: yp_n 25 p vs.length :: yp_n 15 0 vs.length :: yp_n 4 10 vs.length :: T) _ _ _ _ _ hd.2.2 ?_ hf (fun Q q => HY Q (fun g hg => ys_2 c.2.1 (by omega) hp (by omega) (by omega) h2 hx (q _ (by omega)))) (by omega) hb7 ht (by omega) (by omega) (by omega) (by omega)
      exact ⟨_, _, cn, rfl, (yp_e_n (a := 23) (b := p) (h := vs.length) (by decide) (by omega) (by omega)), by rw [hf3]; exact hf4, hf5, ⟨_, _, rfl⟩, ⟨_, _, vs.length, cn, rfl, rfl, rfl, by rw [hf3]; exact hf4, hf5, ⟨_, _, vs.length, rfl, rfl, (yp_e_n (a := 15) (b := 0) (h := vs.length) (by decide) (by omega) (by omega)), fun z => absurd z (by simp), zl_e (by simp) (yp_e_n (a := 4) (b := 10) (h := vs.length) (by decide) (by omega) (by omega)) (fun z => absurd z (by simp)) hz⟩⟩⟩
    · rw [if_neg hx] at hd
      exact hd.elim
  rw [if_neg h2] at hd
  by_cases h34 : gm_tk W.2.2.2.2.2.2.2.2.2.2.2.2.2.2.2.2.2.2.2.2.2.2.2.2.1 n p = 34
  · rw [if_pos h34] at hd
    have hq := gm_tk_lt h34 (by decide)
    by_cases hx : gm_tk W.2.2.2.2.2.2.2.2.2.2.2.2.2.2.2.2.2.2.2.2.2.2.2.2.1 n (p + 1) = 4
    · rw [if_pos hx] at hd
      refine IH (s) (G + 1) _ _ _ _ _ _ _ _ _ _ _ _ (yp_n 16 0 vs.length :: yp_n 4 5 vs.length :: yp_n 6 0 vs.length :: T) _ _ _ _ _ hd.2.2 ?_ hf (fun Q q => HY Q (fun g hg => ys_34 c.2.1 (by omega) hp (by omega) (by omega) h34 hx (q _ (by omega)))) (by omega) hb7 ht (by omega) (by omega) (by omega) (by omega)
      exact Or.inl ⟨rfl, _, _, rfl, (yp_e_n (a := 16) (b := 0) (h := vs.length) (by decide) (by omega) (by omega)), zl_e (by simp) (yp_e_n (a := 4) (b := 5) (h := vs.length) (by decide) (by omega) (by omega)) (fun z => absurd z (by simp)) ⟨_, T, vs.length, rfl, rfl, (yp_e_n (a := 6) (b := 0) (h := vs.length) (by decide) (by omega) (by omega)), hz⟩⟩
    · rw [if_neg hx] at hd
      exact hd.elim
  rw [if_neg h34] at hd
  by_cases h36 : gm_tk W.2.2.2.2.2.2.2.2.2.2.2.2.2.2.2.2.2.2.2.2.2.2.2.2.1 n p = 36
  · rw [if_pos h36] at hd
    have hq := gm_tk_lt h36 (by decide)
    by_cases hx : gm_tk W.2.2.2.2.2.2.2.2.2.2.2.2.2.2.2.2.2.2.2.2.2.2.2.2.1 n (p + 1) = 4
    · rw [if_pos hx] at hd
      have u1 := mn_up1 hd.2.1
      have hL := mn_lab hd.2.1
      refine zx_tick c.1 (by omega) (by omega) (by omega) u1.1 u1.2.2 ht (fun hT => ?_) (fun hT => ?_)
      · exact IH (s + 1) (G + 1) _ _ _ _ _ _ _ _ _ _ _ _ (yp_n 16 0 vs.length :: yp_n 4 5 vs.length :: yp_n 8 (p + 2) vs.length :: T) _ _ _ _ _ hd.2.2 (zl_head (by omega) (by omega) ⟨m, cc, lc + 2, fc, by omega, hd.2.2, hL, u1.1, u1.2.2, by omega, by have := gm_tk_lt hx (by decide); omega, by omega⟩ hz) hf (fun Q q => HY Q (fun g hg => ys_36 c.2.1 (by omega) hp (by omega) (by omega) ht h36 hx (fun _ => (q _ (by omega))) (fun z => absurd z (by omega)))) (by omega) hb7 (by omega) (by omega) (by omega) (by omega) (by omega)
      · exact c.2.2.2.2.2.2.2 4 _ 0 t pr mem out ht (by simp) (fun Q hq => HY Q (fun g hg => ys_36 c.2.1 (by omega) hp (by omega) (by omega) ht h36 hx (fun z => absurd z (by omega)) (fun _ => hq)))
    · rw [if_neg hx] at hd
      exact hd.elim
  rw [if_neg h36] at hd
  by_cases h37 : gm_tk W.2.2.2.2.2.2.2.2.2.2.2.2.2.2.2.2.2.2.2.2.2.2.2.2.1 n p = 37
  · rw [if_pos h37] at hd
    have hq := gm_tk_lt h37 (by decide)
    cases ho : gm_opn R with
    | nil => rw [ho] at hd; exact absurd hd.1 (by decide)
    | cons l ol =>
      rw [ho] at hd
      obtain ⟨_, hu, hok⟩ := hd
      have u1 := mn_up1 hu
      obtain ⟨S1, x, S2, q, e, T2, x1, x2, rfl, hyd, hq10, he, hF, hz2, hsl2⟩ := zl_brk (pd := 1) hsl hz ho
      obtain ⟨t1, l', xb, xc, xv⟩ := x
      have t10 : t1 = 10 := x1
      have el : l' = l := x2
      subst t10 el
      obtain ⟨m2, p2, cc2, lc2, fc2, hm2, hok2, dw⟩ := mn_dw c (S1 := gi_X 10 :: S1) hok
      obtain ⟨m3, rfl⟩ := ok_s hok2
      obtain ⟨hI2, _, hd2⟩ := hok2
      have hp2 := hI2.1
      have l22 := hI2.2.1.2.1
      have lb : l' + 2 ≤ lc2 := by have := hI2.2.2.2.1; simp [gm_lb] at this; omega
      unfold gm_d at hd2
      dsimp only at hd2
      rw [if_neg (by decide), if_neg (by decide), if_neg (by decide), if_neg (by decide), if_neg (by decide), if_neg (by decide), if_neg (by decide), if_neg (by decide), if_neg (by decide), if_pos rfl] at hd2
      obtain ⟨_, hu2, hok3⟩ := hd2
      have hL := mn_lab hu2
      have hfb := frs_bd c.2.1.2.2.1 c.2.1.2.1 b hf
      have hT2 := zl_len hz2
      have hTT : (e :: T2).length ≤ 1100 := by
        have h1 := zl_bd c.2.1.2.2.1 c.2.1.2.1 hok3 hz2
        simp only [List.length_cons]
        omega
      simp only [List.length_cons] at hTT
      refine zx_j58 (pc' := cc2 + 1) c.1 (by omega) (by omega) (by omega) u1.1 u1.2.1 (by omega) hL ?_
      exact IH (s + 1) (G + 1 + (m - (m3 + 1)) + 1) _ _ _ _ _ _ _ _ _ _ _ _ _ _ _ _ _ _ hok3 hz2 hf (fun Q q => HY Q (fun g hg => ys_37 (d := 37) c.2.1 (by omega) hp (by omega) (by omega) (Or.inl rfl) h37 (fun va hva => dw Q (G + 1) vs.length (b + 1) t pr _ (e :: T2) 1 0 va vr mem out (yr_1 (by simp) (yp_e_n (a := 4) (b := 10) (h := vs.length) (by decide) (by omega) (by omega)) hyd) (by simp only [List.length_cons]; omega) (by omega) (by omega) (fun g' hg' => yk_brk c.2.1 (by omega) hp2 (by omega) (by omega) he hq10 hva (q _ (by omega))) _ (by omega)))) (by omega) hb7 ht (by omega) (by omega) (by omega) (by omega)
  rw [if_neg h37] at hd
  by_cases h38 : gm_tk W.2.2.2.2.2.2.2.2.2.2.2.2.2.2.2.2.2.2.2.2.2.2.2.2.1 n p = 38
  · rw [if_pos h38] at hd
    have hq := gm_tk_lt h38 (by decide)
    cases ho : gm_opn R with
    | nil => rw [ho] at hd; exact absurd hd.1 (by decide)
    | cons l ol =>
      rw [ho] at hd
      obtain ⟨_, hu, hok⟩ := hd
      have u1 := mn_up1 hu
      obtain ⟨S1, x, S2, q, e, T2, x1, x2, rfl, hyd, hq10, he, hF, hz2, hsl2⟩ := zl_brk (pd := 2) hsl hz ho
      obtain ⟨t1, l', xb, xc, xv⟩ := x
      have t10 : t1 = 10 := x1
      have el : l' = l := x2
      subst t10 el
      obtain ⟨m2, p2, cc2, lc2, fc2, hm2, hok2, dw⟩ := mn_dw c (S1 := gi_X 10 :: S1) hok
      obtain ⟨m3, rfl⟩ := ok_s hok2
      obtain ⟨hI2, _, hd2⟩ := hok2
      have hp2 := hI2.1
      have l22 := hI2.2.1.2.1
      have lb : l' + 2 ≤ lc2 := by have := hI2.2.2.2.1; simp [gm_lb] at this; omega
      unfold gm_d at hd2
      dsimp only at hd2
      rw [if_neg (by decide), if_neg (by decide), if_neg (by decide), if_neg (by decide), if_neg (by decide), if_neg (by decide), if_neg (by decide), if_neg (by decide), if_neg (by decide), if_pos rfl] at hd2
      obtain ⟨_, hu2, hok3⟩ := hd2
      have hL := mn_lab hu2
      have hfb := frs_bd c.2.1.2.2.1 c.2.1.2.1 b hf
      have hT2 := zl_len hz2
      have hTT : (e :: T2).length ≤ 1100 := by
        have h1 := zl_bd c.2.1.2.2.1 c.2.1.2.1 hok3 hz2
        simp only [List.length_cons]
        omega
      simp only [List.length_cons] at hTT
      have hF' := hF
      obtain ⟨m0, cc0, lc0, fc0, hm0, hok0, hL0, hk0, hpl0, hq2, hq120, hc0⟩ := hF
      refine zx_j58 (pc' := cc0) c.1 (by omega) (by omega) (by omega) u1.1 u1.2.1 (by omega) hL0 ?_
      refine zx_tick c.1 (by omega) hc0 (by omega) hk0 hpl0 ht (fun hT => ?_) (fun hT => ?_)
      · exact IH (s + 1 + 1) (G + 1 + (m - (m3 + 1)) + 1) _ _ _ _ _ _ _ _ _ _ _ _ _ _ _ _ _ _ hok0 (zl_head (by omega) (by omega) hF' hz2) hf (fun Q q => HY Q (fun g hg => ys_37 (d := 38) c.2.1 (by omega) hp (by omega) (by omega) (Or.inr rfl) h38 (fun va hva => dw Q (G + 1) vs.length (b + 1) t pr _ (e :: T2) 2 0 va vr mem out (yr_1 (by simp) (yp_e_n (a := 4) (b := 10) (h := vs.length) (by decide) (by omega) (by omega)) hyd) (by simp only [List.length_cons]; omega) (by omega) (by omega) (fun g' hg' => yk_con c.2.1 (by omega) hp2 (by omega) (by omega) he hq2 hq10 ht hva (fun _ => (q _ (by omega))) (fun z => absurd z (by omega))) _ (by omega)))) hm0 hb7 (by omega) (by omega) (by omega) (by omega) (by omega)
      · exact c.2.2.2.2.2.2.2 4 _ 0 t pr mem out ht (by simp) (fun Q hq => HY Q (fun g hg => ys_37 (d := 38) c.2.1 (by omega) hp (by omega) (by omega) (Or.inr rfl) h38 (fun va hva => dw Q (G + 1) vs.length (b + 1) t pr _ (e :: T2) 2 0 va vr mem out (yr_1 (by simp) (yp_e_n (a := 4) (b := 10) (h := vs.length) (by decide) (by omega) (by omega)) hyd) (by simp only [List.length_cons]; omega) (by omega) (by omega) (fun g' hg' => yk_con c.2.1 (by omega) hp2 (by omega) (by omega) he hq2 hq10 ht hva (fun z => absurd z (by omega)) (fun _ => hq)) _ (by omega))))
  rw [if_neg h38] at hd
  by_cases h39 : gm_tk W.2.2.2.2.2.2.2.2.2.2.2.2.2.2.2.2.2.2.2.2.2.2.2.2.1 n p = 39
  · rw [if_pos h39] at hd
    have hq := gm_tk_lt h39 (by decide)
    refine IH (s) (G + 1) _ _ _ _ _ _ _ _ _ _ _ _ (yp_n 16 0 vs.length :: yp_n 11 0 vs.length :: yp_n 4 10 vs.length :: T) _ _ _ _ _ hd.2.2 ?_ hf (fun Q q => HY Q (fun g hg => ys_39 (d := 39) (e := 11) c.2.1 (by omega) hp (by omega) (by omega) (by omega) h39 (q _ (by omega)))) (by omega) hb7 ht (by omega) (by omega) (by omega) (by omega)
    exact Or.inl ⟨rfl, _, _, rfl, (yp_e_n (a := 16) (b := 0) (h := vs.length) (by decide) (by omega) (by omega)), ⟨_, _, vs.length, rfl, rfl, (yp_e_n (a := 11) (b := 0) (h := vs.length) (by decide) (by omega) (by omega)), fun z => absurd z (by simp), zl_e (by simp) (yp_e_n (a := 4) (b := 10) (h := vs.length) (by decide) (by omega) (by omega)) (fun z => absurd z (by simp)) hz⟩⟩
  rw [if_neg h39] at hd
  by_cases h40 : gm_tk W.2.2.2.2.2.2.2.2.2.2.2.2.2.2.2.2.2.2.2.2.2.2.2.2.1 n p = 40
  · rw [if_pos h40] at hd
    have hq := gm_tk_lt h40 (by decide)
    refine IH (s) (G + 1) _ _ _ _ _ _ _ _ _ _ _ _ (yp_n 16 0 vs.length :: yp_n 12 0 vs.length :: yp_n 4 10 vs.length :: T) _ _ _ _ _ hd.2.2 ?_ hf (fun Q q => HY Q (fun g hg => ys_39 (d := 40) (e := 12) c.2.1 (by omega) hp (by omega) (by omega) (by omega) h40 (q _ (by omega)))) (by omega) hb7 ht (by omega) (by omega) (by omega) (by omega)
    exact Or.inl ⟨rfl, _, _, rfl, (yp_e_n (a := 16) (b := 0) (h := vs.length) (by decide) (by omega) (by omega)), ⟨_, _, vs.length, rfl, rfl, (yp_e_n (a := 12) (b := 0) (h := vs.length) (by decide) (by omega) (by omega)), fun z => absurd z (by simp), zl_e (by simp) (yp_e_n (a := 4) (b := 10) (h := vs.length) (by decide) (by omega) (by omega)) (fun z => absurd z (by simp)) hz⟩⟩
  rw [if_neg h40] at hd
  exact hd.elim
theorem mn_4 {PX : Int32 → SX → Prop} {YS : (SY → Prop) → Prop} {U : SX} {W : SY} {n NF r N : Nat} {F : gm_A} {s G b p t pr cc lc fc m hb u : Nat} {vs : List Int32} {S : List gm_I} {T Tb : List Nat} {vr rt mem out : Nat → Int32} (c : cx PX YS U W n NF r F) (IH : RG PX YS U W n NF r F N) {a d e0 : Nat} {v : Int32} (hok : gm_ok W.2.2.2.2.2.2.2.2.2.2.2.2.2.2.2.2.2.2.2.2.2.2.2.2.1 W.2.2.2.2.2.2.2.2.2.2.2.2.2.2.2.2.2.2.2.2.2.2.2.2.2.1 n F NF m p ((4, a, d, e0, v) :: S) cc lc fc) (hz : zl W.2.2.2.2.2.2.2.2.2.2.2.2.2.2.2.2.2.2.2.2.2.2.2.2.1 W.2.2.2.2.2.2.2.2.2.2.2.2.2.2.2.2.2.2.2.2.2.2.2.2.2.1 n F NF Tb hb ((4, a, d, e0, v) :: S) T vs.length) (hf : frs W.2.2.2.2.2.2.2.2.2.2.2.2.2.2.2.2.2.2.2.2.2.2.2.2.1 W.2.2.2.2.2.2.2.2.2.2.2.2.2.2.2.2.2.2.2.2.2.2.2.2.2.1 n F NF rt b Tb hb u)
    (HY : ∀ Q, (∀ g, g ≤ G → yR Q W g (b + 1) vs p t pr T vr mem out) → YS Q) (hm : m ≤ 400) (hb7 : b ≤ 7) (ht : t ≤ 120) (hpr : pr ≤ s) (hN : t * 401 + m + u < N + 1) (hG : G + 2 * (t * 401 + m + u) + 5 ≤ 400000) (hs : s + 4 * (t * 401 + m + u) + 5 ≤ 1000000) : zX PX U r s b vs cc t pr vr rt mem out := by
  have hn := c.2.1.2.1
  have bd := mn_bd c hok hz hf hb7
  obtain ⟨m, rfl⟩ : ∃ m', m = m' + 1 := by
    cases m with
    | zero => exact hok.elim
    | succ m => exact ⟨m, rfl⟩
  obtain ⟨hI, hsc, hd⟩ := hok
  have hp := hI.1
  have l1 := hI.2.1.1
  have hv := hI.2.2.2.2.2.1.1
  have hs2 := hI.2.2.2.2.2.2.2
  unfold gm_d at hd
  dsimp only at hd
  rw [if_neg (by decide), if_neg (by decide), if_neg (by decide), if_pos rfl] at hd
  unfold zl at hz
  dsimp only at hz
  rw [if_neg (by decide), if_neg (by decide), if_neg (by decide), if_neg (by decide), if_neg (by decide), if_neg (by decide), if_neg (by decide), if_neg (by decide), if_neg (by decide), if_neg (by decide), if_neg (by decide), if_neg (by decide), if_neg (by decide), if_neg (by decide)] at hz
  obtain ⟨e, T', rfl, he, _, hz⟩ := hz
  simp only [List.length_cons] at bd
  exact mn_stm (S := []) (G := G) c IH hd hz (hs2.1 (by simp)) hf (fun Q q => HY Q (fun g hg => yl_S c.2.1 (by omega) hp (by omega) (by omega) he (q g hg))) hp (by omega) hI.2.1.2.1 (by omega) (by omega) hb7 ht hpr hN hG hs
theorem mn_3 {PX : Int32 → SX → Prop} {YS : (SY → Prop) → Prop} {U : SX} {W : SY} {n NF r N : Nat} {F : gm_A} {s G b p t pr cc lc fc m hb u : Nat} {vs : List Int32} {S : List gm_I} {T Tb : List Nat} {vr rt mem out : Nat → Int32} (c : cx PX YS U W n NF r F) (IH : RG PX YS U W n NF r F N) {a d e0 : Nat} {v : Int32} (hok : gm_ok W.2.2.2.2.2.2.2.2.2.2.2.2.2.2.2.2.2.2.2.2.2.2.2.2.1 W.2.2.2.2.2.2.2.2.2.2.2.2.2.2.2.2.2.2.2.2.2.2.2.2.2.1 n F NF m p ((3, a, d, e0, v) :: S) cc lc fc) (hz : zl W.2.2.2.2.2.2.2.2.2.2.2.2.2.2.2.2.2.2.2.2.2.2.2.2.1 W.2.2.2.2.2.2.2.2.2.2.2.2.2.2.2.2.2.2.2.2.2.2.2.2.2.1 n F NF Tb hb ((3, a, d, e0, v) :: S) T vs.length) (hf : frs W.2.2.2.2.2.2.2.2.2.2.2.2.2.2.2.2.2.2.2.2.2.2.2.2.1 W.2.2.2.2.2.2.2.2.2.2.2.2.2.2.2.2.2.2.2.2.2.2.2.2.2.1 n F NF rt b Tb hb u)
    (HY : ∀ Q, (∀ g, g ≤ G → yR Q W g (b + 1) vs p t pr T vr mem out) → YS Q) (hm : m ≤ 400) (hb7 : b ≤ 7) (ht : t ≤ 120) (hpr : pr ≤ s) (hN : t * 401 + m + u < N + 1) (hG : G + 2 * (t * 401 + m + u) + 5 ≤ 400000) (hs : s + 4 * (t * 401 + m + u) + 5 ≤ 1000000) : zX PX U r s b vs cc t pr vr rt mem out := by
  have hn := c.2.1.2.1
  have bd := mn_bd c hok hz hf hb7
  obtain ⟨m, rfl⟩ : ∃ m', m = m' + 1 := by
    cases m with
    | zero => exact hok.elim
    | succ m => exact ⟨m, rfl⟩
  obtain ⟨hI, hsc, hd⟩ := hok
  have hp := hI.1
  have l1 := hI.2.1.1
  have hv := hI.2.2.2.2.2.1.1
  have hs2 := hI.2.2.2.2.2.2.2
  unfold gm_d at hd
  dsimp only at hd
  rw [if_neg (by decide), if_neg (by decide), if_pos rfl] at hd
  unfold zl at hz
  dsimp only at hz
  rw [if_neg (by decide), if_neg (by decide), if_neg (by decide), if_neg (by decide), if_neg (by decide), if_neg (by decide), if_neg (by decide), if_neg (by decide), if_neg (by decide), if_neg (by decide), if_neg (by decide), if_neg (by decide), if_neg (by decide), if_neg (by decide)] at hz
  obtain ⟨e, T', rfl, he, _, hz⟩ := hz
  simp only [List.length_cons] at bd
  by_cases h9 : gm_tk W.2.2.2.2.2.2.2.2.2.2.2.2.2.2.2.2.2.2.2.2.2.2.2.2.1 n p = 9
  · rw [if_pos h9] at hd
    exact IH (s) (G + 1) _ _ _ _ _ _ _ _ _ _ _ _ _ _ _ _ _ _ hd.2.2 hz hf (fun Q q => HY Q (fun g hg => yl_B9 c.2.1 (by omega) hp (by omega) (by omega) he h9 (q _ (by omega)))) (by omega) hb7 ht (by omega) (by omega) (by omega) (by omega)
  · rw [if_neg h9] at hd
    exact mn_stm (S := []) (G := G) c IH hd (zl_e (e := yp_n 2 0 vs.length) (by simp) (yp_e_n (a := 2) (b := 0) (h := vs.length) (by decide) (by omega) (by omega)) (fun z => absurd z (by simp)) hz) ⟨by simp, hs2.1 (by simp)⟩ hf (fun Q q => HY Q (fun g hg => yl_B c.2.1 (by omega) hp (by omega) (by omega) he h9 (q g hg))) hp (by omega) hI.2.1.2.1 (by simp only [List.length_cons]; omega) (by omega) hb7 ht hpr hN hG hs
theorem mn_19 {PX : Int32 → SX → Prop} {YS : (SY → Prop) → Prop} {U : SX} {W : SY} {n NF r N : Nat} {F : gm_A} {s G b p t pr cc lc fc m hb u : Nat} {vs : List Int32} {S : List gm_I} {T Tb : List Nat} {vr rt mem out : Nat → Int32} (c : cx PX YS U W n NF r F) (IH : RG PX YS U W n NF r F N) {a d e0 : Nat} {v : Int32} (hok : gm_ok W.2.2.2.2.2.2.2.2.2.2.2.2.2.2.2.2.2.2.2.2.2.2.2.2.1 W.2.2.2.2.2.2.2.2.2.2.2.2.2.2.2.2.2.2.2.2.2.2.2.2.2.1 n F NF m p ((19, a, d, e0, v) :: S) cc lc fc) (hz : zl W.2.2.2.2.2.2.2.2.2.2.2.2.2.2.2.2.2.2.2.2.2.2.2.2.1 W.2.2.2.2.2.2.2.2.2.2.2.2.2.2.2.2.2.2.2.2.2.2.2.2.2.1 n F NF Tb hb ((19, a, d, e0, v) :: S) T vs.length) (hf : frs W.2.2.2.2.2.2.2.2.2.2.2.2.2.2.2.2.2.2.2.2.2.2.2.2.1 W.2.2.2.2.2.2.2.2.2.2.2.2.2.2.2.2.2.2.2.2.2.2.2.2.2.1 n F NF rt b Tb hb u)
    (HY : ∀ Q, (∀ g, g ≤ G → yR Q W g (b + 1) vs p t pr T vr mem out) → YS Q) (hm : m ≤ 400) (hb7 : b ≤ 7) (ht : t ≤ 120) (hpr : pr ≤ s) (hN : t * 401 + m + u < N + 1) (hG : G + 2 * (t * 401 + m + u) + 5 ≤ 400000) (hs : s + 4 * (t * 401 + m + u) + 5 ≤ 1000000) : zX PX U r s b vs cc t pr vr rt mem out := by
  have hn := c.2.1.2.1
  have bd := mn_bd c hok hz hf hb7
  obtain ⟨m, rfl⟩ : ∃ m', m = m' + 1 := by
    cases m with
    | zero => exact hok.elim
    | succ m => exact ⟨m, rfl⟩
  obtain ⟨hI, hsc, hd⟩ := hok
  have hp := hI.1
  have l1 := hI.2.1.1
  have hv := hI.2.2.2.2.2.1.1
  have hs2 := hI.2.2.2.2.2.2.2
  unfold gm_d at hd
  dsimp only at hd
  rw [if_neg (by decide), if_neg (by decide), if_neg (by decide), if_neg (by decide), if_neg (by decide), if_neg (by decide), if_neg (by decide), if_neg (by decide), if_neg (by decide), if_neg (by decide), if_pos (by decide)] at hd
  unfold zl at hz
  dsimp only at hz
  rw [if_neg (by decide), if_neg (by decide), if_neg (by decide), if_neg (by decide), if_neg (by decide), if_neg (by decide), if_neg (by decide), if_neg (by decide), if_neg (by decide), if_pos rfl] at hz
  obtain ⟨e, T', h', hh, rfl, he, h31, hz⟩ := hz
  obtain ⟨_, hu, hok⟩ := hd
  have u1 := mn_up1 hu
  simp only [gm_sm] at l1
  simp [gw_e] at l1
  simp only [List.length_cons] at bd
  have hv2 : gm_ve W.2.2.2.2.2.2.2.2.2.2.2.2.2.2.2.2.2.2.2.2.2.2.2.2.1 n (19, a, d, e0, v) := by simpa [gm_vl] using hv
  unfold gm_ve at hv2
  dsimp only at hv2
  rw [if_neg (by decide), if_neg (by decide)] at hv2
  have he : yp_e e e0 := he
  obtain ⟨v1, vs, rfl⟩ := vs_c (vs := vs) (by omega)
  have e9 : vs.length = h' := by simpa using hh
  subst e9
  simp only [List.length_cons] at bd
  rcases hv2 with ⟨hk1, hk2, hd3, hKd, rfl⟩ | ⟨rfl, w, hw, rfl, rfl⟩ | ⟨rfl, rfl⟩ | ⟨rfl, rfl⟩ | ⟨rfl, rfl⟩
  · obtain ⟨x1, vs, rfl⟩ := vs_c (h31 hk2)
    simp only [List.length_cons] at bd
    refine zx_bin c.1 (by omega) (by omega) (by omega) u1.1 hk1 hk2 u1.2.2 (fun z => ?_) (fun z => ?_)
    · exact c.2.2.2.2.2.2.2 1 _ 0 t pr mem out ht (by simp) (fun Q hq => HY Q (fun g hg => yl_comp c.2.1 (by omega) hp (by omega) (by omega) he hd3 hKd hk1 hk2 (fun _ => hq) (fun w => absurd z w)))
    · exact IH (s + 1) (G + 1) _ _ _ _ _ _ _ _ _ _ _ _ _ _ _ _ _ _ hok hz hf (fun Q q => HY Q (fun g hg => yl_comp c.2.1 (by omega) hp (by omega) (by omega) he hd3 hKd hk1 hk2 (fun w => absurd w z) (fun _ => (q _ (by omega))))) (by omega) hb7 ht (by omega) (by omega) (by omega) (by omega)
  · refine zx_set c.1 (by omega) (by omega) (by omega) u1.1 u1.2.1 hw hb7 ?_
    exact IH (s + 1) (G + 1) _ _ _ _ _ _ _ _ _ _ _ _ _ _ _ _ _ _ hok hz hf (fun Q q => HY Q (fun g hg => yl_set c.2.1 (by omega) hp (by omega) (by omega) rfl hb7 he hw (q _ (by omega)))) (by omega) hb7 ht (by omega) (by omega) (by omega) (by omega)
  · obtain ⟨S', rfl⟩ := hs2.2.1 ⟨rfl, rfl⟩
    have hs3 := hs2.2.2.2
    have hz' := hz
    unfold zl at hz'
    dsimp only at hz'
    rw [if_neg (by decide), if_neg (by decide), if_neg (by decide), if_neg (by decide), if_neg (by decide), if_neg (by decide), if_neg (by decide), if_neg (by decide), if_neg (by decide), if_neg (by decide), if_neg (by decide), if_neg (by decide), if_neg (by decide), if_neg (by decide)] at hz'
    obtain ⟨e2, T2, rfl, he2, _, hz2⟩ := hz'
    have hsl := hs3.1 (by simp)
    obtain ⟨hhb, S1, x, hx2, rfl, hyd⟩ := zl_sl hsl hz2
    obtain ⟨m2, p2, cc2, lc2, fc2, hm2, hok2, dw⟩ := mn_dw c (S1 := gi_X 10 :: S1) (Sb := [x, gi_P]) hok
    have hp2 := (gm_ok_inv hok2).1
    have hfb := frs_bd c.2.1.2.2.1 c.2.1.2.1 b hf
    simp only [List.length_cons] at bd
    obtain ⟨m3, rfl⟩ := ok_s hok2
    cases b with
    | zero =>
      obtain ⟨rfl, rfl, rfl⟩ := hf
      have ev : vs = [] := List.length_eq_zero_iff.mp hhb
      subst ev
      refine zx_ret0 (b := 0) c.1 (by omega) (by omega) (by simp) u1.1 ?_
      refine c.2.2.2.2.2.2.2 0 (-1) v1 t pr mem out ht (by simp) (fun Q hq => HY Q (fun g hg => ?_))
      refine yl_ret c.2.1 (by omega) hp (by simp) (by simp only [List.length_cons]; omega) he (fun va hva => ?_)
      exact dw Q (G + 1) ([] : List Int32).length 1 t pr _ [yp_n 26 0 0] 3 v1 va vr mem out (yr_1 (by simp) he2 hyd) (by simp) (by simp) (by omega) (fun g' hg' => yk_frame (vs := []) (b := 0) c.2.1 (by omega) hp2 (by simp) (by simp) rfl (by decide) rfl hva (yl_done (n := n) (vs := []) (T := []) (by omega) hq)) _ (by omega)
    | succ b =>
      obtain ⟨mc, pc, Sc, ccc, lcc, fcc, T3, Tb', hb', u', rfl, hokc, hmc, hrt, hzc, hfc, rfl⟩ := hf
      have hpc := (gm_ok_inv hokc).1
      simp only [List.length_cons] at hfb
      refine zx_ret c.1 (by omega) (by omega) (by omega) u1.1 (by omega) hrt ?_
      refine IH (s + 1) (G + 1 + (m - (m3 + 1)) + 1) _ _ _ _ _ _ _ _ _ _ _ _ _ _ _ _ _ _ hokc (by rw [List.length_cons, hhb]; exact hzc) hfc (fun Q q => HY Q (fun g hg => yl_ret c.2.1 (by omega) hp (by omega) (by simp only [List.length_cons]; omega) he (fun va hva => dw Q (G + 1) vs.length (b + 1 + 1) t pr _ (yp_n 26 pc hb :: T3) 3 v1 va vr mem out (yr_1 (by simp) he2 hyd) (by simp only [List.length_cons]; omega) (by omega) (by omega) (fun g' hg' => yk_frame (b := b + 1) c.2.1 (by omega) hp2 (by omega) (by omega) (by rw [hhb]) (by omega) rfl hva (q _ (by omega))) _ (by omega)))) hmc (by omega) ht (by omega) (by omega) (by omega) (by omega)
  · refine zx_print c.1 (by omega) (by omega) (by omega) u1.1 (by omega) ?_
    exact IH (s + 1) (G + 1) _ _ _ _ _ _ _ _ _ _ _ _ _ _ _ _ _ _ hok hz hf (fun Q q => HY Q (fun g hg => yl_print c.2.1 (by omega) hp (by omega) (by omega) he (by omega) (q _ (by omega)))) (by omega) hb7 ht (by omega) (by omega) (by omega) (by omega)
  · refine zx_drop c.1 (by omega) (by omega) (by omega) u1.1 ?_
    exact IH (s + 1) (G + 1) _ _ _ _ _ _ _ _ _ _ _ _ _ _ _ _ _ _ hok hz hf (fun Q q => HY Q (fun g hg => yl_drop c.2.1 (by omega) hp (by omega) (by omega) he (q _ (by omega)))) (by omega) hb7 ht (by omega) (by omega) (by omega) (by omega)
end
section
/-! run: the induction -/
theorem mn_all {PX : Int32 → SX → Prop} {YS : (SY → Prop) → Prop} {U : SX} {W : SY} {n NF r : Nat} {F : gm_A} (c : cx PX YS U W n NF r F) : ∀ N, RG PX YS U W n NF r F N := by
  intro N
  induction N with
  | zero => intro s G b p t pr cc lc fc m hb u vs S T Tb vr rt mem out _ _ _ _ _ _ _ _ hN; omega
  | succ N IH =>
    intro s G b p t pr cc lc fc m hb u vs S T Tb vr rt mem out hok hz hf HY hm hb7 ht hpr hN hG hs
    cases S with
    | nil => exact hz.elim
    | cons x S =>
      obtain ⟨k, a, d, e0, v⟩ := x
      have hv := (gm_ok_inv hok).2.2.2.2.2.1.1
      by_cases z : k = 2
      · subst z; exact mn_2 c IH hok hz hf HY hm hb7 ht hpr hN hG hs
      by_cases z : k = 3
      · subst z; exact mn_3 c IH hok hz hf HY hm hb7 ht hpr hN hG hs
      by_cases z : k = 4
      · subst z; exact mn_4 c IH hok hz hf HY hm hb7 ht hpr hN hG hs
      by_cases z : k = 5
      · subst z; exact mn_5 c IH hok hz hf HY hm hb7 ht hpr hN hG hs
      by_cases z : k = 6
      · subst z; exact mn_6 c IH hok hz hf HY hm hb7 ht hpr hN hG hs
      by_cases z : k = 7
      · subst z; exact mn_7 c IH hok hz hf HY hm hb7 ht hpr hN hG hs
      by_cases z : k = 8
      · subst z; exact mn_8 c IH hok hz hf HY hm hb7 ht hpr hN hG hs
      by_cases z : k = 9
      · subst z; exact mn_9 c IH hok hz hf HY hm hb7 ht hpr hN hG hs
      by_cases z : k = 10
      · subst z; exact mn_10 c IH hok hz hf HY hm hb7 ht hpr hN hG hs
      by_cases z : k = 11
      · subst z; exact mn_11 c IH hok hz hf HY hm hb7 ht hpr hN hG hs
      by_cases z : k = 12
      · subst z; exact mn_12 c IH hok hz hf HY hm hb7 ht hpr hN hG hs
      by_cases z : k = 13
      · subst z; exact mn_13 c IH hok hz hf HY hm hb7 ht hpr hN hG hs
      by_cases z : k = 14
      · subst z; exact mn_14 c IH hok hz hf HY hm hb7 ht hpr hN hG hs
      by_cases z : k = 15
      · subst z; exact mn_15 c IH hok hz hf HY hm hb7 ht hpr hN hG hs
      by_cases z : k = 16
      · subst z; exact mn_16 c IH hok hz hf HY hm hb7 ht hpr hN hG hs
      by_cases z : k = 17
      · subst z; exact mn_17 c IH hok hz hf HY hm hb7 ht hpr hN hG hs
      by_cases z : k = 18
      · subst z; exact mn_18 c IH hok hz hf HY hm hb7 ht hpr hN hG hs
      by_cases z : k = 19
      · subst z; exact mn_19 c IH hok hz hf HY hm hb7 ht hpr hN hG hs
      by_cases z : k = 20
      · subst z; exact mn_20 c IH hok hz hf HY hm hb7 ht hpr hN hG hs
      exfalso
      by_cases z1 : k = 1
      · subst z1
        unfold zl at hz
        rw [if_pos rfl] at hz
        exact hz
      unfold gm_vl at hv
      dsimp only at hv
      repeat' split at hv
      all_goals omega
/-! run: the two beginnings -/
def zr_vs (c : Nat) (a b d : Int32) : List Int32 := if c = 0 then [] else if c = 1 then [a] else if c = 2 then [b, a] else [d, b, a]
theorem zr_len {c : Nat} {a b d : Int32} (hc : c ≤ 3) : (zr_vs c a b d).length = c := by
  have : c = 0 ∨ c = 1 ∨ c = 2 ∨ c = 3 := by omega
  rcases this with rfl | rfl | rfl | rfl <;> rfl
theorem zr_V {c : Nat} {a b d : Int32} {va : Nat → Int32} (hc : c ≤ 3) : zp_V (upd (upd (upd va 0 a) 1 b) 2 d) (zr_vs c a b d) := by
  have h0 : upd (upd (upd va 0 a) 1 b) 2 d 0 = a := by rw [pk_un (by decide), pk_un (by decide), pk_us]
  have h1 : upd (upd (upd va 0 a) 1 b) 2 d 1 = b := by rw [pk_un (by decide), pk_us]
  have h2 : upd (upd (upd va 0 a) 1 b) 2 d 2 = d := pk_us
  have : c = 0 ∨ c = 1 ∨ c = 2 ∨ c = 3 := by omega
  rcases this with rfl | rfl | rfl | rfl
  · trivial
  · exact ⟨h0, trivial⟩
  · exact ⟨h1, h0, trivial⟩
  · exact ⟨h2, h1, h0, trivial⟩
def yz_P (post : Int32 → SY → Prop) : SY → Prop := fun u => match u with
  | (f_count, f_place, f_length, f_functions, f_loaded, f_loops, f_outside, f_tt, f_vt, f_pos, f_bad, f_checking, f_live, f_pending, f_carry, f_active, f_ticks, f_status, f_result, f_endedAt, f_used, f_printed, a_kind, a_value, a_code, a_number, a_given, a_begins, a_params, a_todo, a_val, a_vars, a_output, a_memory) => ((f_status = 0 → wY_run_93 post (a_val 0) f_count f_place f_length f_functions f_loaded f_loops f_outside f_tt f_vt f_pos f_bad f_checking f_live f_pending f_carry f_active f_ticks f_status f_result f_endedAt f_used f_printed a_kind a_value a_code a_number a_given a_begins a_params a_todo a_val a_vars a_output a_memory) ∧ (¬ f_status = 0 → wY_run_93 post 0 f_count f_place f_length f_functions f_loaded f_loops f_outside f_tt f_vt f_pos f_bad f_checking f_live f_pending f_carry f_active f_ticks f_status f_result f_endedAt f_used f_printed a_kind a_value a_code a_number a_given a_begins a_params a_todo a_val a_vars a_output a_memory))
theorem yz_all {post : Int32 → SY → Prop} {f_count f_place f_length f_functions f_loaded f_loops f_outside f_tt f_vt f_pos f_bad f_checking f_live f_pending f_carry f_active f_ticks f_status f_result f_endedAt f_used f_printed : Int32} {a_kind a_value a_code a_number a_given a_begins a_params a_todo a_val a_vars a_output a_memory : Nat → Int32} {f c q NF : Nat} {x p1 p2 p3 : Int32} (hl : f_loaded = 1) (hx : x = nI f) (hf : f < NF) (hNF : NF ≤ 4) (hfn : f_functions = nI NF) (hc : a_params f = nI c) (hc3 : c ≤ 3) (hb : a_begins f = nI q)
    (H : ∀ td, yp_Td td [yp_n 2 0 0, yp_n 26 0 0] → yL (yz_P post) 0 (f_count, f_place, f_length, f_functions, f_loaded, f_loops, f_outside, nI 2, nI 0, nI q, 0, 0, 1, 0, f_carry, nI 1, nI 120, 0, f_result, -1, f_used, nI 0, a_kind, a_value, a_code, a_number, a_given, a_begins, a_params, td, upd (upd (upd a_val 0 p1) 1 p2) 2 p3, zp_ent 0 c 6 a_vars (zr_vs c p1 p2 p3), a_output, a_memory)) : wpY_run post (f_count, f_place, f_length, f_functions, f_loaded, f_loops, f_outside, f_tt, f_vt, f_pos, f_bad, f_checking, f_live, f_pending, f_carry, f_active, f_ticks, f_status, f_result, f_endedAt, f_used, f_printed, a_kind, a_value, a_code, a_number, a_given, a_begins, a_params, a_todo, a_val, a_vars, a_output, a_memory) x p1 p2 p3 := by
  subst hl hx
  refine br_f (by decide) (br_f (nI_pos (by omega)) ?_)
  rw [hfn]
  refine br_t (nI_lt hf (by omega)) ?_
  unfold wpY_begin
  refine ⟨rfl, rfl, br_t rfl ⟨rfl, rfl, nm_e (nm_e (nm_e ?_))⟩⟩
  unfold wpY_enter
  refine br_f (show ¬ (0 : Int32) = 8 by decide) (br_t (by decide) ?_)
  refine ym_ent (h := 0) (a := 0) (p := 0) (T := []) rfl (by omega) hc hc3 rfl (by decide) rfl (by decide) rfl (by decide) hb rfl (by simp) trivial (by rw [zr_len hc3]; omega) (zr_V hc3) fun td hd => ?_
  unfold wpY_work
  have H := H td hd 400001 (by decide)
  rw [hfn] at H
  exact ⟨400001, H⟩
theorem xr_all {post : Int32 → SX → Prop} {f_tokenCount f_planCount f_next f_wrongToken f_looseJump f_latestPlace f_openLoopCount f_codeCount f_labelCount f_functionCount f_registerCount f_activeCalls f_stackCount f_nextCode f_running f_ending f_endingPlace f_resultValue f_ticksUsed f_printedCount : Int32} {a_tokenKind a_tokenValue a_planKind a_planValue a_planPlace a_argumentCount a_openLoop a_codeKind a_codeValue a_codePlace a_labelTarget a_functionStart a_functionParameters a_register a_frame a_returnTo a_stack a_element a_outputValue : Nat → Int32} {f c pc NF r : Nat} {x p1 p2 p3 : Int32} {vr : Nat → Int32} (hx : x = nI f) (hf : f < NF) (hNF : NF ≤ 4) (hfn : f_functionCount = nI NF) (hc : a_functionParameters f = nI c) (hc3 : c ≤ 3) (hst : a_functionStart f = nI pc) (hr : f_registerCount = nI r) (hr1 : 1 ≤ r) (hr6 : r ≤ 6)
    (H : ∀ reg fr st, zp_R r 0 reg fr (zp_ent 0 c 6 vr (zr_vs c p1 p2 p3)) → zL post 0 (f_tokenCount, f_planCount, f_next, f_wrongToken, f_looseJump, f_latestPlace, f_openLoopCount, f_codeCount, f_labelCount, f_functionCount, f_registerCount, nI 1, nI 0, nI pc, 1, 0, -1, 0, nI 0, nI 0, a_tokenKind, a_tokenValue, a_planKind, a_planValue, a_planPlace, a_argumentCount, a_openLoop, a_codeKind, a_codeValue, a_codePlace, a_labelTarget, a_functionStart, a_functionParameters, reg, fr, upd a_returnTo 0 0, st, a_element, a_outputValue)) : wpX_run post (f_tokenCount, f_planCount, f_next, f_wrongToken, f_looseJump, f_latestPlace, f_openLoopCount, f_codeCount, f_labelCount, f_functionCount, f_registerCount, f_activeCalls, f_stackCount, f_nextCode, f_running, f_ending, f_endingPlace, f_resultValue, f_ticksUsed, f_printedCount, a_tokenKind, a_tokenValue, a_planKind, a_planValue, a_planPlace, a_argumentCount, a_openLoop, a_codeKind, a_codeValue, a_codePlace, a_labelTarget, a_functionStart, a_functionParameters, a_register, a_frame, a_returnTo, a_stack, a_element, a_outputValue) x p1 p2 p3 := by
  subst hx
  have ef : (nI f).toNatClampNeg = f := nI_clamp (by omega)
  refine br_f (nI_pos (by omega)) (br_f (nI_ge (b := 4) (by omega) (by decide)) ?_)
  rw [hfn]
  refine br_t (nI_lt hf (by omega)) ?_
  refine ⟨vp_in_nI (by omega) (by decide), nm_r (e' := nI c) (by rw [ef]; exact hc) ?_⟩
  have ent : ∀ st, zp_V st (zr_vs c p1 p2 p3) → wX_run_64 post (nI f) f_tokenCount f_planCount f_next f_wrongToken f_looseJump f_latestPlace f_openLoopCount f_codeCount f_labelCount f_functionCount f_registerCount 0 (nI (zr_vs c p1 p2 p3).length) 0 1 0 (-1) 0 0 0 a_tokenKind a_tokenValue a_planKind a_planValue a_planPlace a_argumentCount a_openLoop a_codeKind a_codeValue a_codePlace a_labelTarget a_functionStart a_functionParameters a_register a_frame a_returnTo st a_element a_outputValue := by
    intro st hv
    unfold wX_run_64
    refine zm_enter (a := 0) (vr := vr) hr hr1 hr6 rfl (by omega) hc hc3 rfl (by decide) (fun b hb => absurd hb (by omega)) rfl (by rw [zr_len hc3]; omega) hv (by rw [zr_len hc3]; omega) fun reg fr hR hV => ⟨1000001, ?_⟩
    rw [hst]
    have e0 : ((zr_vs c p1 p2 p3).drop c).length = 0 := by rw [List.length_drop, zr_len hc3]; omega
    rw [e0]
    exact H reg fr st hR 1000001 (by decide)
  rw [← hfn]
  have : c = 0 ∨ c = 1 ∨ c = 2 ∨ c = 3 := by omega
  rcases this with rfl | rfl | rfl | rfl
  · exact br_t (by decide) (br_t (by decide) (br_t (by decide) (ent _ trivial)))
  · refine br_f (by decide) ?_
    refine zm_push (vs := []) rfl (by simp) trivial fun st hv => ?_
    exact br_t (by decide) (br_t (by decide) (ent st hv))
  · refine br_f (by decide) ?_
    refine zm_push (vs := []) rfl (by simp) trivial fun st hv => ?_
    refine br_f (by decide) ?_
    refine zm_push (vs := [p1]) rfl (by simp) hv fun st hv => ?_
    exact br_t (by decide) (ent st hv)
  · refine br_f (by decide) ?_
    refine zm_push (vs := []) rfl (by simp) trivial fun st hv => ?_
    refine br_f (by decide) ?_
    refine zm_push (vs := [p1]) rfl (by simp) hv fun st hv => ?_
    refine br_f (by decide) ?_
    exact zm_push (vs := [p2, p1]) rfl (by simp) hv fun st hv => ent st hv
end
section
/-! run on both sides -/
theorem i_vc_run {k : Nat} {u : SX} {v : SY} (I : i_Rel k u v) (hk : k + 5 ≤ 2561) (v1 : Int32) (v2 : Int32) (v3 : Int32) (v4 : Int32) : wpX_run (fun r u' => wpY_run (fun r' v' => r' = r ∧ i_Rel (k + 5) u' v') v v1 v2 v3 v4) u v1 v2 v3 v4 := by
  obtain ⟨f_tokenCount, f_planCount, f_next, f_wrongToken, f_looseJump, f_latestPlace, f_openLoopCount, f_codeCount, f_labelCount, f_functionCount, f_registerCount, f_activeCalls, f_stackCount, f_nextCode, f_running, f_ending, f_endingPlace, f_resultValue, f_ticksUsed, f_printedCount, a_tokenKind, a_tokenValue, a_planKind, a_planValue, a_planPlace, a_argumentCount, a_openLoop, a_codeKind, a_codeValue, a_codePlace, a_labelTarget, a_functionStart, a_functionParameters, a_register, a_frame, a_returnTo, a_stack, a_element, a_outputValue⟩ := u
  obtain ⟨f_count, f_place, f_length, f_functions, f_loaded, f_loops, f_outside, f_tt, f_vt, f_pos, f_bad, f_checking, f_live, f_pending, f_carry, f_active, f_ticks, f_status, f_result, f_endedAt, f_used, f_printed, a_kind, a_value, a_code, a_number, a_given, a_begins, a_params, a_todo, a_val, a_vars, a_output, a_memory⟩ := v
  have I' := I
  obtain ⟨⟨n0, t1, t2, hn0, htk⟩, rfl, rfl, rfl, rfl, rfl, hreg, rfl, rfl, rfl, rfl, rfl, rfl, hL⟩ := I
  have I5 : i_Rel (k + 5) (f_tokenCount, f_planCount, f_next, f_wrongToken, f_looseJump, f_place, f_openLoopCount, f_codeCount, f_labelCount, f_functionCount, f_registerCount, f_activeCalls, f_stackCount, f_nextCode, f_running, f_ending, f_endedAt, f_result, f_used, f_printed, a_kind, a_value, a_planKind, a_planValue, a_planPlace, a_given, a_openLoop, a_codeKind, a_codeValue, a_codePlace, a_labelTarget, a_functionStart, a_params, a_register, a_frame, a_returnTo, a_stack, a_memory, a_output) (f_count, f_place, f_length, f_functions, f_loaded, f_loops, f_outside, f_tt, f_vt, f_pos, f_bad, f_checking, f_live, f_pending, f_carry, f_active, f_ticks, f_status, f_result, f_endedAt, f_used, f_printed, a_kind, a_value, a_code, a_number, a_given, a_begins, a_params, a_todo, a_val, a_vars, a_output, a_memory) := I'
  by_cases h0 : v1 < 0
  · refine br_t h0 ?_
    refine br_c (fun _ => ⟨rfl, I5⟩) (fun _ => br_t h0 ⟨rfl, I5⟩)
  rcases hL with ⟨l1, l2⟩ | ⟨l1, n, NF, e1, hn, e2, e3, hNF, hK, hok, hcnt⟩
  · subst l1 l2
    refine br_f h0 (br_c (fun _ => br_t rfl ⟨rfl, I5⟩) (fun _ => br_f h0 (br_t rfl ⟨rfl, I5⟩)))
  obtain ⟨f, hf31, rfl⟩ := nI_of h0
  by_cases hf : f < NF
  · obtain ⟨r, hr, hr1, hr6⟩ := hreg
    obtain ⟨m', p', cc', lc', w, hm', hokf, hbg, hst, hfp, hw0, hw3⟩ := gm_fun hf 400 0 [gi_P] 0 0 0 hok (by omega)
    obtain ⟨c, hc3, rfl⟩ := nI_of2 (M := 3) (n := 3) (by decide) (Int32.not_lt.mpr hw0) hw3
    have hfun : ∀ f, f < NF → ∃ m p cc lc c, m ≤ 400 ∧ gm_ok a_code a_number n (a_codeKind, a_codeValue, a_codePlace, a_labelTarget, a_given, a_functionStart, a_params, a_begins) NF m p [gi_B, gi_F, gi_P] cc lc (f + 1) ∧ a_begins f = nI p ∧ a_functionStart f = nI cc ∧ a_params f = nI c ∧ c ≤ 3 := by
      intro f hf
      obtain ⟨m', p', cc', lc', w, hm', hokf, hbg, hst, hfp, hw0, hw3⟩ := gm_fun hf 400 0 [gi_P] 0 0 0 hok (by omega)
      obtain ⟨c, hc3, rfl⟩ := nI_of2 (M := 3) (n := 3) (by decide) (Int32.not_lt.mpr hw0) hw3
      exact ⟨m', p', cc', lc', c, by omega, hokf, hbg, hst, hfp, hc3⟩
    have C : cx (fun r u' => wpY_run (fun r' v' => r' = r ∧ i_Rel (k + 5) u' v') (f_count, f_place, f_length, f_functions, f_loaded, f_loops, f_outside, f_tt, f_vt, f_pos, f_bad, f_checking, f_live, f_pending, f_carry, f_active, f_ticks, f_status, f_result, f_endedAt, f_used, f_printed, a_kind, a_value, a_code, a_number, a_given, a_begins, a_params, a_todo, a_val, a_vars, a_output, a_memory) (nI f) v2 v3 v4)
        (fun Q => ∀ td, yp_Td td [yp_n 2 0 0, yp_n 26 0 0] → yL Q 0 (f_count, f_place, f_length, f_functions, f_loaded, f_loops, f_outside, nI 2, nI 0, nI p', 0, 0, 1, 0, f_carry, nI 1, nI 120, 0, f_result, -1, f_used, nI 0, a_kind, a_value, a_code, a_number, a_given, a_begins, a_params, td, upd (upd (upd a_val 0 v2) 1 v3) 2 v4, zp_ent 0 c 6 a_vars (zr_vs c v2 v3 v4), a_output, a_memory))
        (f_tokenCount, f_planCount, f_next, f_wrongToken, f_looseJump, f_place, f_openLoopCount, f_codeCount, f_labelCount, f_functionCount, f_registerCount, f_activeCalls, f_stackCount, f_nextCode, f_running, f_ending, f_endedAt, f_result, f_used, f_printed, a_kind, a_value, a_planKind, a_planValue, a_planPlace, a_given, a_openLoop, a_codeKind, a_codeValue, a_codePlace, a_labelTarget, a_functionStart, a_params, a_register, a_frame, a_returnTo, a_stack, a_memory, a_output) (f_count, f_place, f_length, f_functions, f_loaded, f_loops, f_outside, f_tt, f_vt, f_pos, f_bad, 0, f_live, f_pending, f_carry, f_active, f_ticks, f_status, f_result, f_endedAt, f_used, f_printed, a_kind, a_value, a_code, a_number, a_given, a_begins, a_params, a_todo, a_val, a_vars, a_output, a_memory) n NF r (a_codeKind, a_codeValue, a_codePlace, a_labelTarget, a_given, a_functionStart, a_params, a_begins) := by
      refine ⟨⟨rfl, rfl, rfl, rfl, rfl, rfl, hr, hr1, hr6⟩, ⟨e1, hn, hK, rfl⟩, rfl, rfl, hNF, hcnt, hfun, ?_⟩
      intro how pl v t pr mem out ht hv HQ ac sc nc reg fr rt st
      refine yz_all l1 rfl hf hNF e2 hfp hc3 hbg (HQ _ ?_)
      intro tt vt pos bad live pe ca ac' td va vr hva
      have eu : 120 - nI t = nI (120 - t) := pk_sub (a := 120) ht
      refine br_c (fun z => nm_r eu ⟨rfl, ?_⟩) (fun z => nm_r eu ⟨rfl, ?_⟩)
      · rw [hva z]
        exact rl_mk ⟨⟨n0, t1, t2, hn0, htk⟩, rfl, rfl, rfl, rfl, rfl, ⟨r, hr, hr1, hr6⟩, rfl, rfl, rfl, rfl, rfl, rfl, Or.inr ⟨l1, n, NF, e1, hn, e2, e3, hNF, hK, hok, hcnt⟩⟩
      · have ev : v = 0 := hv.resolve_left z
        subst ev
        exact rl_mk ⟨⟨n0, t1, t2, hn0, htk⟩, rfl, rfl, rfl, rfl, rfl, ⟨r, hr, hr1, hr6⟩, rfl, rfl, rfl, rfl, rfl, rfl, Or.inr ⟨l1, n, NF, e1, hn, e2, e3, hNF, hK, hok, hcnt⟩⟩
    refine xr_all (vr := a_vars) rfl hf hNF e3 hfp hc3 hst hr hr1 hr6 fun reg fr st hR => ?_
    refine mn_all C 49000 0 0 0 p' 120 0 cc' lc' (f + 1) m' 0 0 [] [gi_B, gi_F, gi_P] [yp_n 2 0 0, yp_n 26 0 0] [yp_n 26 0 0] (zp_ent 0 c 6 a_vars (zr_vs c v2 v3 v4)) (upd a_returnTo 0 0) a_memory a_output hokf ?_ ⟨rfl, rfl, rfl⟩ ?_ (by omega) (by omega) (by omega) (by omega) (by omega) (by omega) (by omega) reg fr st hR trivial
    · exact zl_e (by simp) (yp_e_n (a := 2) (b := 0) (h := 0) (by decide) (by decide) (by decide)) (fun z => absurd z (by simp)) ⟨rfl, rfl, rfl⟩
    · intro Q hq td hd
      exact hq 0 (Nat.le_refl _) td _ f_carry hd trivial
  · have hlt : ¬ nI f < nI NF := nI_nlt (by omega) hf31
    have y5 : wpY_run (fun r' v' => r' = 5 ∧ i_Rel (k + 5) (f_tokenCount, f_planCount, f_next, f_wrongToken, f_looseJump, f_place, f_openLoopCount, f_codeCount, f_labelCount, f_functionCount, f_registerCount, f_activeCalls, f_stackCount, f_nextCode, f_running, f_ending, f_endedAt, f_result, f_used, f_printed, a_kind, a_value, a_planKind, a_planValue, a_planPlace, a_given, a_openLoop, a_codeKind, a_codeValue, a_codePlace, a_labelTarget, a_functionStart, a_params, a_register, a_frame, a_returnTo, a_stack, a_memory, a_output) v') (f_count, f_place, f_length, f_functions, f_loaded, f_loops, f_outside, f_tt, f_vt, f_pos, f_bad, f_checking, f_live, f_pending, f_carry, f_active, f_ticks, f_status, f_result, f_endedAt, f_used, f_printed, a_kind, a_value, a_code, a_number, a_given, a_begins, a_params, a_todo, a_val, a_vars, a_output, a_memory) (nI f) v2 v3 v4 := by
      refine br_f (by rw [l1]; decide) (br_f h0 ?_)
      rw [e2]
      rw [e2] at I5
      exact br_f hlt ⟨rfl, I5⟩
    refine br_f h0 (br_c (fun _ => y5) (fun _ => ?_))
    rw [e3]
    rw [e3] at y5
    exact br_f hlt y5
end
