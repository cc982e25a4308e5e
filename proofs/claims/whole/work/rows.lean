section
theorem pk_us {f : Nat → Int32} {k : Nat} {x : Int32} : upd f k x k = x := if_pos rfl
theorem pk_un {f : Nat → Int32} {k j : Nat} {x : Int32} (h : j ≠ k) : upd f k x j = f j := if_neg h
theorem pk_sub {a b : Nat} (h : b ≤ a) : nI a - nI b = nI (a - b) := by
  obtain ⟨c, rfl⟩ : ∃ c, a = c + b := ⟨a - b, by omega⟩
  rw [← nI_add, Int32.add_sub_cancel, Nat.add_sub_cancel]
theorem pk_m1 (n : Nat) : nI (n + 1) + (-1) = nI n := by
  rw [← nI_1, Int32.add_assoc, show (1 : Int32) + (-1) = 0 from rfl, Int32.add_zero]
theorem pk_mul (a b : Nat) : nI a * nI b = nI (a * b) := (Int32.ofNat_mul a b).symm
theorem pk_ix (x : Int32) {n : Nat} (hn : n < 2 ^ 31) : x < 0 ∨ nI n ≤ x ∨ ∃ j : Nat, j < n ∧ x = nI j := by
  by_cases h : x < 0
  · exact Or.inl h
  · obtain ⟨j, hj, rfl⟩ := nI_of h
    by_cases h2 : j < n
    · exact Or.inr (Or.inr ⟨j, h2, rfl⟩)
    · exact Or.inr (Or.inl (nI_le (by omega) hj))
theorem pk_le {x y : Int32} {A B : Prop} (a b : Nat) (f : a ≤ b → A) (g : b < a → B) (hx : x = nI a := by rfl) (hy : y = nI b := by rfl) (ha : a < 2 ^ 31 := by omega) (hb : b < 2 ^ 31 := by omega) : (x ≤ y → A) ∧ (¬ x ≤ y → B) := by
  subst hx hy
  rw [nI_leI ha hb]
  exact ⟨f, fun z => g (by omega)⟩
theorem pk_lt {x y : Int32} {A B : Prop} (a b : Nat) (f : a < b → A) (g : b ≤ a → B) (hx : x = nI a := by rfl) (hy : y = nI b := by rfl) (ha : a < 2 ^ 31 := by omega) (hb : b < 2 ^ 31 := by omega) : (x < y → A) ∧ (¬ x < y → B) := by
  subst hx hy
  rw [nI_ltI ha hb]
  exact ⟨f, fun z => g (by omega)⟩
theorem pk_eq {x y : Int32} {A B : Prop} (a b : Nat) (f : a = b → A) (g : a ≠ b → B) (hx : x = nI a := by rfl) (hy : y = nI b := by rfl) (ha : a < 2 ^ 31 := by omega) (hb : b < 2 ^ 31 := by omega) : (x = y → A) ∧ (¬ x = y → B) := by
  subst hx hy
  rw [nI_eq ha hb]
  exact ⟨f, g⟩
theorem pk_in {x : Int32} (n N : Nat) (h : n < N) (hx : x = nI n := by rfl) (hN : N < 2 ^ 31 := by omega) : vp_in x N := by
  subst hx
  exact vp_in_nI h hN
theorem pk_cl {x : Int32} (n : Nat) (hx : x = nI n := by rfl) (h : n < 2 ^ 31 := by omega) : x.toNatClampNeg = n := by
  subst hx
  exact nI_clamp h
theorem pk_tn {n : Nat} (h : n < 2 ^ 32) : (nI n).toBitVec.toNat = n := Nat.mod_eq_of_lt h
theorem pk_and (x : Int32) {m : Int32} (k : Nat) (hm : m.toBitVec.toNat = 2 ^ k - 1) : x &&& m = nI (x.toBitVec.toNat % 2 ^ k) := by
  apply Int32.toBitVec_inj.mp
  apply BitVec.eq_of_toNat_eq
  rw [Int32.toBitVec_and, BitVec.toNat_and, hm, Nat.and_two_pow_sub_one_eq_mod]
  show _ = (BitVec.ofNat 32 _).toNat
  rw [BitVec.toNat_ofNat]
  exact (Nat.mod_eq_of_lt (Nat.lt_of_le_of_lt (Nat.mod_le _ _) x.toBitVec.isLt)).symm
theorem pk_andN {n : Nat} (h : n < 2 ^ 32) {m : Int32} (k : Nat) (hm : m.toBitVec.toNat = 2 ^ k - 1) : nI n &&& m = nI (n % 2 ^ k) := by
  rw [pk_and _ k hm, pk_tn h]
theorem pk_shl (a s : Int32) (k : Nat) (hs : (s.toBitVec.smod 32).toNat = k) : (a <<< s).toBitVec.toNat = a.toBitVec.toNat * 2 ^ k % 2 ^ 32 := by
  show (a.toBitVec <<< (s.toBitVec.smod 32).toNat).toNat = _
  rw [hs, BitVec.toNat_shiftLeft, Nat.shiftLeft_eq]
theorem pk_shlN {n : Nat} (s : Int32) (k : Nat) (hs : (s.toBitVec.smod 32).toNat = k) (h : n * 2 ^ k < 2 ^ 32) : nI n <<< s = nI (n * 2 ^ k) := by
  apply Int32.toBitVec_inj.mp
  apply BitVec.eq_of_toNat_eq
  have hn : n < 2 ^ 32 := Nat.lt_of_le_of_lt (Nat.le_mul_of_pos_right n (Nat.two_pow_pos k)) h
  rw [pk_shl _ _ k hs, pk_tn hn, pk_tn h, Nat.mod_eq_of_lt h]
theorem pk_shr (a s : Int32) (k : Nat) (hs : (s.toBitVec.smod 32).toNat = k) : (a >>> s).toInt = a.toInt >>> k := by
  show (a.toBitVec.sshiftRight (s.toBitVec.smod 32).toNat).toInt = _
  rw [hs, BitVec.toInt_sshiftRight]
  rfl
theorem pk_shrN {n : Nat} (h : n < 2 ^ 31) (s : Int32) (k : Nat) (hs : (s.toBitVec.smod 32).toNat = k) : nI n >>> s = nI (n / 2 ^ k) := by
  apply Int32.toInt_inj.mp
  have h2 : n / 2 ^ k ≤ n := Nat.div_le_self _ _
  rw [pk_shr _ _ k hs, nI_toInt h, nI_toInt (by omega), Int.shiftRight_eq_div_pow]
  rfl
theorem pk_fb (r : Int32) : fits .byte (.int r.toInt8.toInt32) = true := by
  have ⟨a, b⟩ := lg_i2b_range r
  have h1 : (-128 : Int32).toInt = -128 := by decide
  have h2 : (127 : Int32).toInt = 127 := by decide
  simp only [fits, Bool.and_eq_true, decide_eq_true_eq, Int32.le_iff_toInt_le, h1, h2]
  omega
theorem pk_vb (z : Int32) : vp_nar .byte z.toInt8.toInt32 = z.toInt8.toInt32 := by rw [vp_nar_byte]; simp
end
section
/-! G: a machine over the tokens, between the two parsers -/
abbrev gm_I : Type := Nat × Nat × Nat × Nat × Int32
abbrev gm_M : Type := Nat × Int32 × Nat
abbrev gm_K (α : Sort _) := Nat → List gm_I → Nat → Nat → Bool → List gm_M → Option (Nat × Nat) → Option (Nat × Nat) → Option Int32 → α
def gm_tk (K : Nat → Int32) (n p : Nat) : Int32 := if p < n then K p else -1
abbrev gi_P : gm_I := (1, 0, 0, 0, 0)
abbrev gi_F : gm_I := (2, 0, 0, 0, 0)
abbrev gi_B : gm_I := (3, 0, 0, 0, 0)
abbrev gi_S : gm_I := (4, 0, 0, 0, 0)
abbrev gi_X (k : Nat) : gm_I := (5, k, 0, 0, 0)
abbrev gi_I (l : Nat) : gm_I := (6, l, 0, 0, 0)
abbrev gi_L (l : Nat) : gm_I := (7, l, 0, 0, 0)
abbrev gi_U (l : Nat) : gm_I := (8, l, 0, 0, 0)
abbrev gi_W (l q : Nat) : gm_I := (9, l, q, 0, 0)
abbrev gi_O (l : Nat) : gm_I := (10, l, 0, 0, 0)
abbrev gi_M0 (k q e : Nat) (v : Int32) : gm_I := (11, k, q, e, v)
abbrev gi_M1 (k q e : Nat) (v : Int32) : gm_I := (19, k, q, e, v)
abbrev gi_M2 (k q e : Nat) (v : Int32) : gm_I := (20, k, q, e, v)
abbrev gi_E (w : Nat) : gm_I := (12, w, 0, 0, 0)
abbrev gi_R (w : Nat) : gm_I := (13, w, 0, 0, 0)
abbrev gi_N : gm_I := (14, 0, 0, 0, 0)
abbrev gi_T (l q : Nat) : gm_I := (15, l, q, 0, 0)
abbrev gi_A (q : Nat) : gm_I := (16, q, 0, 0, 0)
abbrev gi_G (q c : Nat) : gm_I := (17, q, c, 0, 0)
abbrev gi_C (q : Nat) (v : Int32) : gm_I := (18, q, 0, 0, v)
def gm_opn : List gm_I → List Nat
  | [] => []
  | x :: S => if x.1 = 10 then x.2.1 :: gm_opn S else gm_opn S
def gm_str (t : Int32) : Nat :=
  if t.toNatClampNeg < 13 then 0 else if 31 < t.toNatClampNeg then 0 else if t.toNatClampNeg < 18 then t.toNatClampNeg - 12
  else if t.toNatClampNeg < 20 then 6 else if t.toNatClampNeg < 24 then 7 else if t.toNatClampNeg < 27 then 8 else if t.toNatClampNeg < 29 then 9 else 10
def gm_brk {α : Sort _} (C : gm_K α) (p : Nat) (S : List gm_I) (lc fc d : Nat) : List Nat → α
  | [] => C (p + 1) (gi_X 10 :: S) lc fc true [] none none none
  | a :: _ => C (p + 1) (gi_X 10 :: S) lc fc false [(58, nI (a + d), p)] none none none
def gm_stm {α : Sort _} (K V : Nat → Int32) (n : Nat) (E : Nat → Option Int32 → α) (C : gm_K α) (p : Nat) (S : List gm_I) (cc lc fc : Nat) : α :=
  if gm_tk K n p = 8 then C (p + 1) (gi_B :: S) lc fc false [] none none none
  else if gm_tk K n p = 1 then
    (if gm_tk K n (p + 1) = 12 then C (p + 2) (gi_E 1 :: gi_M1 53 p (13 + 32 * (V p).toNatClampNeg) (V p) :: gi_X 10 :: S) lc fc false [] none none none else E (p + 1) none)
  else if gm_tk K n p = 3 then
    (if gm_tk K n (p + 1) = 6 then C (p + 2) (gi_E 1 :: gi_X 7 :: gi_X 12 :: gi_E 1 :: gi_M2 55 p (14 + 32 * p) (V p) :: gi_X 10 :: S) lc fc false [] none none none else E (p + 1) none)
  else if gm_tk K n p = 2 then
    (if gm_tk K n (p + 1) = 4 then C (p + 2) (gi_A p :: gi_C p (V p) :: gi_M1 56 0 15 0 :: gi_X 10 :: S) lc fc false [] none none none else E (p + 1) none)
  else if gm_tk K n p = 34 then
    (if gm_tk K n (p + 1) = 4 then C (p + 2) (gi_E 1 :: gi_X 5 :: gi_I lc :: S) (lc + 2) fc false [] none none none else E (p + 1) none)
  else if gm_tk K n p = 36 then
    (if gm_tk K n (p + 1) = 4 then C (p + 2) (gi_E 1 :: gi_X 5 :: gi_W lc (p + 2) :: S) (lc + 2) fc false [(63, 0, p)] (some (lc, cc)) none none else E (p + 1) none)
  else if gm_tk K n p = 37 then gm_brk C p S lc fc 1 (gm_opn S)
  else if gm_tk K n p = 38 then gm_brk C p S lc fc 0 (gm_opn S)
  else if gm_tk K n p = 39 then C (p + 1) (gi_E 1 :: gi_M1 39 p 11 0 :: gi_X 10 :: S) lc fc false [] none none none
  else if gm_tk K n p = 40 then C (p + 1) (gi_E 1 :: gi_M1 40 p 12 0 :: gi_X 10 :: S) lc fc false [] none none none
  else E p none
def gm_una {α : Sort _} (K V : Nat → Int32) (n : Nat) (E : Nat → Option Int32 → α) (C : gm_K α) (p : Nat) (S : List gm_I) (lc fc : Nat) : α :=
  if gm_tk K n p = 28 then C (p + 1) (gi_N :: gi_M0 50 p 915 0 :: S) lc fc false [] none none none
  else if gm_tk K n p = 32 then C (p + 1) (gi_N :: gi_M0 32 p 1043 0 :: S) lc fc false [] none none none
  else if gm_tk K n p = 33 then C (p + 1) (gi_N :: gi_M0 33 p 1075 0 :: S) lc fc false [] none none none
  else if gm_tk K n p = 0 then C (p + 1) S lc fc false [(51, V p, p)] none none none
  else if gm_tk K n p = 1 then C (p + 1) S lc fc false [(52, V p, p)] none none none
  else if gm_tk K n p = 2 then
    (if gm_tk K n (p + 1) = 4 then C (p + 2) (gi_A p :: gi_C p (V p) :: S) lc fc false [] none none none else E (p + 1) none)
  else if gm_tk K n p = 3 then
    (if gm_tk K n (p + 1) = 6 then C (p + 2) (gi_E 1 :: gi_X 7 :: gi_M0 54 p (22 + 32 * p) 0 :: S) lc fc false [] none none none else E (p + 1) none)
  else if gm_tk K n p = 4 then C (p + 1) (gi_E 1 :: gi_X 5 :: S) lc fc false [] none none none
  else E p none
def gm_bin {α : Sort _} (K : Nat → Int32) (n : Nat) (C : gm_K α) (p w : Nat) (S : List gm_I) (lc fc : Nat) : α :=
  if gm_str (gm_tk K n p) < w then C p S lc fc false [] none none none
  else if gm_tk K n p = 13 then C (p + 1) (gi_E 2 :: gi_T lc p :: gi_R w :: S) (lc + 2) fc false [(57, 0, p), (61, nI lc, p)] none none none
  else if gm_tk K n p = 14 then C (p + 1) (gi_E 3 :: gi_T lc p :: gi_R w :: S) (lc + 2) fc false [(57, 0, p), (60, nI lc, p)] none none none
  else C (p + 1) (gi_E (gm_str (gm_tk K n p) + 1) :: gi_M1 (gm_tk K n p).toNatClampNeg p (20 + 32 * p) 0 :: gi_R w :: S) lc fc false [] none none none
def gm_prg {α : Sort _} (K V : Nat → Int32) (n : Nat) (E : Nat → Option Int32 → α) (C : gm_K α) (p : Nat) (S : List gm_I) (lc fc : Nat) : α :=
  if gm_tk K n p = -1 ∧ 0 < fc then C p S lc fc false [] none none none
  else if fc = 4 then E p none
  else if gm_tk K n p = 41 then
    (if gm_tk K n (p + 1) = 0 ∧ 0 ≤ V (p + 1) ∧ V (p + 1) ≤ 3 then
      (if gm_tk K n (p + 2) = 8 then C (p + 3) (gi_B :: gi_F :: gi_P :: S) lc (fc + 1) false [] none none (some (V (p + 1))) else E (p + 2) (some (V (p + 1))))
    else E (p + 1) none)
  else E p none
def gm_d {α : Sort _} (K V : Nat → Int32) (n : Nat) (E : Nat → Option Int32 → α) (C : gm_K α) (p : Nat) (x : gm_I) (S : List gm_I) (cc lc fc : Nat) : α :=
  if x.1 = 1 then gm_prg K V n E C p S lc fc
  else if x.1 = 2 then C p S lc fc false [(51, 0, 0), (39, 0, 0)] none none none
  else if x.1 = 3 then (if gm_tk K n p = 9 then C (p + 1) S lc fc false [] none none none else gm_stm K V n E C p (gi_B :: S) cc lc fc)
  else if x.1 = 4 then gm_stm K V n E C p S cc lc fc
  else if x.1 = 5 then (if gm_tk K n p = nI x.2.1 then C (p + 1) S lc fc false [] none none none else E p none)
  else if x.1 = 6 then C p (gi_S :: gi_L x.2.1 :: S) lc fc false [(59, nI x.2.1, 0)] none none none
  else if x.1 = 7 then (if gm_tk K n p = 35 then C (p + 1) (gi_S :: gi_U x.2.1 :: S) lc fc false [(58, nI (x.2.1 + 1), 0)] (some (x.2.1, cc + 1)) none none
    else C p S lc fc false [] (some (x.2.1, cc)) none none)
  else if x.1 = 8 then C p S lc fc false [] (some (x.2.1 + 1, cc)) none none
  else if x.1 = 9 then C p (gi_S :: gi_O x.2.1 :: S) lc fc false [(59, nI (x.2.1 + 1), 0)] none none none
  else if x.1 = 10 then C p S lc fc false [(58, nI x.2.1, 0)] (some (x.2.1 + 1, cc + 1)) none none
  else if x.1 = 11 ∨ x.1 = 19 ∨ x.1 = 20 then C p S lc fc false [(x.2.1, x.2.2.2.2, x.2.2.1)] none none none
  else if x.1 = 12 then gm_una K V n E C p (gi_R x.2.1 :: S) lc fc
  else if x.1 = 13 then gm_bin K n C p x.2.1 S lc fc
  else if x.1 = 14 then gm_una K V n E C p S lc fc
  else if x.1 = 15 then C p S lc fc false [(57, 0, x.2.2.1)] (some (x.2.1, cc + 1)) none none
  else if x.1 = 16 then (if gm_tk K n p = 5 then C (p + 1) S lc fc false [] none (some (x.2.1, 0)) none
    else C p (gi_E 1 :: gi_G x.2.1 1 :: S) lc fc false [] none (some (x.2.1, 1)) none)
  else if x.1 = 17 then (if gm_tk K n p = 5 then C (p + 1) S lc fc false [] none none none
    else if gm_tk K n p = 11 then C (p + 1) (gi_E 1 :: gi_G x.2.1 (x.2.2.1 + 1) :: S) lc fc false [] none (some (x.2.1, x.2.2.1 + 1)) none
    else E p none)
  else if x.1 = 18 then C p S lc fc false [(62, 0, x.2.1), (63, 0, x.2.1), (64, x.2.2.2.2, 0)] none none none
  else E p none
/-! the step as a value: monotone, one result -/
abbrev gm_R : Type := (Nat × Option Int32) ⊕ (Nat × List gm_I × Nat × Nat × Bool × List gm_M × Option (Nat × Nat) × Option (Nat × Nat) × Option Int32)
def gm_v (K V : Nat → Int32) (n p : Nat) (x : gm_I) (S : List gm_I) (cc lc fc : Nat) : gm_R :=
  gm_d K V n (fun e w => Sum.inl (e, w)) (fun p S lc fc o es lw aw fw => Sum.inr (p, S, lc, fc, o, es, lw, aw, fw)) p x S cc lc fc
def gm_el {α : Sort _} (E : Nat → Option Int32 → α) (C : gm_K α) : gm_R → α
  | Sum.inl (e, w) => E e w
  | Sum.inr (p, S, lc, fc, o, es, lw, aw, fw) => C p S lc fc o es lw aw fw
section
variable {α β : Sort _} (K V : Nat → Int32) (n : Nat)
theorem gm_map_brk (f : α → β) (C : gm_K α) (p : Nat) (S : List gm_I) (lc fc d : Nat) (l : List Nat) :
    gm_brk (fun p S lc fc o es lw aw fw => f (C p S lc fc o es lw aw fw)) p S lc fc d l = f (gm_brk C p S lc fc d l) := by
  cases l <;> rfl
theorem gm_map_stm (f : α → β) (E : Nat → Option Int32 → α) (C : gm_K α) (p : Nat) (S : List gm_I) (cc lc fc : Nat) :
    gm_stm K V n (fun e w => f (E e w)) (fun p S lc fc o es lw aw fw => f (C p S lc fc o es lw aw fw)) p S cc lc fc = f (gm_stm K V n E C p S cc lc fc) := by
  unfold gm_stm
  simp only [apply_ite f, gm_map_brk]
theorem gm_map_una (f : α → β) (E : Nat → Option Int32 → α) (C : gm_K α) (p : Nat) (S : List gm_I) (lc fc : Nat) :
    gm_una K V n (fun e w => f (E e w)) (fun p S lc fc o es lw aw fw => f (C p S lc fc o es lw aw fw)) p S lc fc = f (gm_una K V n E C p S lc fc) := by
  unfold gm_una
  repeat' split
  all_goals rfl
theorem gm_map_bin (f : α → β) (C : gm_K α) (p w : Nat) (S : List gm_I) (lc fc : Nat) :
    gm_bin K n (fun p S lc fc o es lw aw fw => f (C p S lc fc o es lw aw fw)) p w S lc fc = f (gm_bin K n C p w S lc fc) := by
  unfold gm_bin
  repeat' split
  all_goals rfl
theorem gm_map_prg (f : α → β) (E : Nat → Option Int32 → α) (C : gm_K α) (p : Nat) (S : List gm_I) (lc fc : Nat) :
    gm_prg K V n (fun e w => f (E e w)) (fun p S lc fc o es lw aw fw => f (C p S lc fc o es lw aw fw)) p S lc fc = f (gm_prg K V n E C p S lc fc) := by
  unfold gm_prg
  repeat' split
  all_goals rfl
theorem gm_map (f : α → β) (E : Nat → Option Int32 → α) (C : gm_K α) (p : Nat) (x : gm_I) (S : List gm_I) (cc lc fc : Nat) :
    gm_d K V n (fun e w => f (E e w)) (fun p S lc fc o es lw aw fw => f (C p S lc fc o es lw aw fw)) p x S cc lc fc = f (gm_d K V n E C p x S cc lc fc) := by
  unfold gm_d
  simp only [apply_ite f, gm_map_stm, gm_map_una, gm_map_bin, gm_map_prg]
end
theorem gm_eq {α : Sort _} (K V : Nat → Int32) (n : Nat) (E : Nat → Option Int32 → α) (C : gm_K α) (p : Nat) (x : gm_I) (S : List gm_I) (cc lc fc : Nat) :
    gm_d K V n E C p x S cc lc fc = gm_el E C (gm_v K V n p x S cc lc fc) :=
  gm_map K V n (gm_el E C) (fun e w => Sum.inl (e, w)) (fun p S lc fc o es lw aw fw => Sum.inr (p, S, lc, fc, o, es, lw, aw, fw)) p x S cc lc fc
theorem gm_mono {K V : Nat → Int32} {n : Nat} {E E' : Nat → Option Int32 → Prop} {C C' : gm_K Prop} {p : Nat} {x : gm_I} {S : List gm_I} {cc lc fc : Nat}
    (h : gm_d K V n E C p x S cc lc fc) (hE : ∀ e w, E e w → E' e w)
    (hC : ∀ p S lc fc o es lw aw fw, C p S lc fc o es lw aw fw → C' p S lc fc o es lw aw fw) : gm_d K V n E' C' p x S cc lc fc := by
  rw [gm_eq] at h ⊢
  revert h
  generalize gm_v K V n p x S cc lc fc = r
  intro h
  match r, h with
  | Sum.inl (e, w), h => exact hE e w h
  | Sum.inr (p, S, lc, fc, o, es, lw, aw, fw), h => exact hC _ _ _ _ _ _ _ _ _ h
theorem gm_and {K V : Nat → Int32} {n : Nat} {E E' E2 : Nat → Option Int32 → Prop} {C C' C2 : gm_K Prop} {p : Nat} {x : gm_I} {S : List gm_I} {cc lc fc : Nat}
    (h : gm_d K V n E C p x S cc lc fc) (h' : gm_d K V n E' C' p x S cc lc fc) (hE : ∀ e w, E e w → E' e w → E2 e w)
    (hC : ∀ p S lc fc o es lw aw fw, C p S lc fc o es lw aw fw → C' p S lc fc o es lw aw fw → C2 p S lc fc o es lw aw fw) : gm_d K V n E2 C2 p x S cc lc fc := by
  rw [gm_eq] at h h' ⊢
  revert h h'
  generalize gm_v K V n p x S cc lc fc = r
  intro h h'
  match r, h, h' with
  | Sum.inl (e, w), h, h' => exact hE e w h h'
  | Sum.inr (p, S, lc, fc, o, es, lw, aw, fw), h, h' => exact hC _ _ _ _ _ _ _ _ _ h h'
end
section
/-! weights and invariants of G -/
def gm_sm (w : gm_I → Nat) : List gm_I → Nat
  | [] => 0
  | x :: S => w x + gm_sm w S
def gw_e (x : gm_I) : Nat := if x.1 = 2 then 2 else if x.1 = 6 then 2 else if x.1 = 7 then 1 else if x.1 = 9 then 2 else if x.1 = 10 then 1 else if x.1 = 11 then 1 else if x.1 = 19 then 1 else if x.1 = 20 then 1 else if x.1 = 15 then 1 else if x.1 = 18 then 3 else 0
def gw_p (x : gm_I) : Nat := if x.1 = 2 then 2 else if x.1 = 3 then 2 else if x.1 = 6 then 3 else if x.1 = 9 then 3 else if x.1 = 12 then 2 else if x.1 = 15 then 2 else if x.1 = 16 then 3 else if x.1 = 18 then 3 else 1
def gw_m (x : gm_I) : Nat := if x.1 = 3 then 0 else if x.1 = 4 then 0 else if x.1 = 5 then 0 else if x.1 = 6 then 2 else if x.1 = 9 then 2 else if x.1 = 14 then 0 else if x.1 = 16 then 2 else if x.1 = 17 then 0 else 1
def gw_c (x : gm_I) : Nat := if x.1 = 1 then 0 else if x.1 = 3 then 0 else if x.1 = 4 then 0 else if x.1 = 5 then 0 else if x.1 = 6 then 2 else if x.1 = 9 then 2 else if x.1 = 14 then 0 else if x.1 = 17 then 0 else 1
def gw_r (x : gm_I) : Nat := if x.1 = 3 then 1 else if x.1 = 4 then 1 else if x.1 = 5 then 1 else if x.1 = 6 then 1 else if x.1 = 9 then 1 else if x.1 = 12 then 1 else if x.1 = 14 then 1 else if x.1 = 16 then 1 else if x.1 = 17 then 1 else 0
def gw_a (x : gm_I) : Nat := if x.1 = 19 then 2 else if x.1 = 20 then 4 else if x.1 = 6 then 2 else if x.1 = 9 then 2 else if x.1 = 17 then 2 * x.2.2.1 else 0
def gw_b (x : gm_I) : Nat := if x.1 = 12 then 1 else if x.1 = 14 then 1 else if x.1 = 16 then 1 else if x.1 = 17 then 2 else 0
def gm_tb : List gm_I → Nat
  | [] => 0
  | x :: _ => if x.1 = 3 then 1 else if x.1 = 4 then 1 else if x.1 = 13 then 1 else 0
theorem gm_tb_n : gm_tb [] = 0 := rfl
theorem gm_tb_c (x : gm_I) (S : List gm_I) : gm_tb (x :: S) = if x.1 = 3 then 1 else if x.1 = 4 then 1 else if x.1 = 13 then 1 else 0 := rfl
theorem gm_tb1 (S : List gm_I) : gm_tb S ≤ 1 := by
  cases S with
  | nil => simp [gm_tb]
  | cons x S => simp only [gm_tb]; repeat' split
                all_goals omega
theorem gm_tk_lt {K : Nat → Int32} {n p : Nat} {k : Int32} (h : gm_tk K n p = k) (hk : ¬ (-1 : Int32) = k) : p < n := by
  unfold gm_tk at h
  split at h
  · assumption
  · exact absurd h hk
theorem gm_tk_K {K : Nat → Int32} {n p : Nat} (h : p < n) : gm_tk K n p = K p := if_pos h
def gm_lin (p : Nat) (S : List gm_I) (cc lc : Nat) : Prop :=
  cc + gm_sm gw_e S ≤ 3 * p ∧ lc ≤ 2 * p ∧ gm_sm gw_p S ≤ 4 * p + 1 ∧ gm_sm gw_c S + gm_tb S ≤ p ∧ gm_sm gw_a S ≤ p + gm_sm gw_b S
/-- what a step does to the weights: lin again, the measure falls (by m), the need doesn't -/
def gm_lc (n p m r cc : Nat) : gm_K Prop := fun p' S' lc' _ _ es _ _ _ =>
  gm_lin p' S' (cc + es.length) lc' ∧ p ≤ p' ∧ p' ≤ n ∧ gm_sm gw_m S' + 3 * (n - p') < m + 3 * (n - p) ∧ p + r ≤ p' + gm_sm gw_r S'
theorem gl_stm {K V : Nat → Int32} {n p : Nat} {S : List gm_I} {cc lc fc : Nat} (h1 : cc + gm_sm gw_e S ≤ 3 * p) (h2 : lc ≤ 2 * p) (h3 : gm_sm gw_p S ≤ 4 * p + 1)
    (h4 : gm_sm gw_c S + 1 ≤ p) (h5 : gm_sm gw_a S ≤ p + gm_sm gw_b S) :
    gm_stm K V n (fun _ _ => True) (gm_lc n p (gm_sm gw_m S) (1 + gm_sm gw_r S) cc) p S cc lc fc := by
  unfold gm_stm
  repeat' split
  all_goals try trivial
  all_goals try (cases hO : gm_opn S)
  all_goals
    have hp := gm_tk_lt (by assumption : gm_tk K n p = _) (by decide)
    try have hq := gm_tk_lt (by assumption : gm_tk K n (p + 1) = _) (by decide)
    simp [gm_brk, gm_lc, gm_lin, gm_sm, gw_e, gw_p, gw_m, gw_c, gw_r, gw_a, gw_b, gm_tb_c, gm_tb_n]
    omega
theorem gl_una {K V : Nat → Int32} {n p : Nat} {S : List gm_I} {cc lc fc : Nat} (h1 : cc + gm_sm gw_e S ≤ 3 * p) (h2 : lc ≤ 2 * p) (h3 : gm_sm gw_p S + 1 ≤ 4 * p + 1)
    (h4 : gm_sm gw_c S ≤ p) (h5 : gm_sm gw_a S ≤ p + 1 + gm_sm gw_b S) :
    gm_una K V n (fun _ _ => True) (gm_lc n p (gm_sm gw_m S) (1 + gm_sm gw_r S) cc) p S lc fc := by
  have ht := gm_tb1 S
  unfold gm_una
  repeat' split
  all_goals try trivial
  all_goals
    have hp := gm_tk_lt (by assumption : gm_tk K n p = _) (by decide)
    try have hq := gm_tk_lt (by assumption : gm_tk K n (p + 1) = _) (by decide)
    simp [gm_lc, gm_lin, gm_sm, gw_e, gw_p, gw_m, gw_c, gw_r, gw_a, gw_b, gm_tb_c, gm_tb_n]
    omega
theorem gm_str0 : gm_str (-1) = 0 := by decide
theorem gl_bin {K : Nat → Int32} {n p w : Nat} {S : List gm_I} {cc lc fc : Nat} (hw : 1 ≤ w) (hn : p ≤ n) (h1 : cc + gm_sm gw_e S ≤ 3 * p) (h2 : lc ≤ 2 * p) (h3 : gm_sm gw_p S + 1 ≤ 4 * p + 1)
    (h4 : gm_sm gw_c S + 2 ≤ p) (h5 : gm_sm gw_a S ≤ p + gm_sm gw_b S) :
    gm_bin K n (gm_lc n p (gm_sm gw_m S + 1) (gm_sm gw_r S) cc) p w S lc fc := by
  have ht := gm_tb1 S
  unfold gm_bin
  split
  · simp [gm_lc, gm_lin, gm_sm, gw_e, gw_p, gw_m, gw_c, gw_r, gw_a, gw_b, gm_tb_c, gm_tb_n]
    omega
  · rename_i hs
    have hp : p < n := by
      by_cases z : p < n
      · exact z
      · rw [show gm_tk K n p = -1 from if_neg z, gm_str0] at hs
        omega
    repeat' split
    all_goals
      simp [gm_lc, gm_lin, gm_sm, gw_e, gw_p, gw_m, gw_c, gw_r, gw_a, gw_b, gm_tb_c, gm_tb_n]
      omega
theorem gl_prg {K V : Nat → Int32} {n p : Nat} {S : List gm_I} {cc lc fc : Nat} (hn : p ≤ n) (h1 : cc + gm_sm gw_e S ≤ 3 * p) (h2 : lc ≤ 2 * p) (h3 : gm_sm gw_p S + 1 ≤ 4 * p + 1)
    (h4 : gm_sm gw_c S ≤ p) (h5 : gm_sm gw_a S ≤ p + gm_sm gw_b S) (h0 : S = []) :
    gm_prg K V n (fun _ _ => True) (gm_lc n p (gm_sm gw_m S + 1) (gm_sm gw_r S) cc) p S lc fc := by
  subst h0
  unfold gm_prg
  repeat' split
  all_goals try trivial
  · simp [gm_lc, gm_lin, gm_sm, gw_e, gw_p, gw_m, gw_c, gw_r, gw_a, gw_b, gm_tb_c, gm_tb_n] at *
    omega
  · rename_i ha hb hc
    have hp := gm_tk_lt hc (by decide)
    simp [gm_lc, gm_lin, gm_sm, gw_e, gw_p, gw_m, gw_c, gw_r, gw_a, gw_b, gm_tb_c, gm_tb_n] at *
    omega
theorem gm_mono_stm {K V : Nat → Int32} {n : Nat} {C C' : gm_K Prop} {p : Nat} {S : List gm_I} {cc lc fc : Nat}
    (h : gm_stm K V n (fun _ _ => True) C p S cc lc fc) (hC : ∀ p S lc fc o es lw aw fw, C p S lc fc o es lw aw fw → C' p S lc fc o es lw aw fw) : gm_stm K V n (fun _ _ => True) C' p S cc lc fc :=
  gm_mono (E := fun _ _ => True) (x := gi_S) h (fun _ _ _ => trivial) hC
theorem gm_mono_una {K V : Nat → Int32} {n : Nat} {C C' : gm_K Prop} {p : Nat} {S : List gm_I} {lc fc : Nat}
    (h : gm_una K V n (fun _ _ => True) C p S lc fc) (hC : ∀ p S lc fc o es lw aw fw, C p S lc fc o es lw aw fw → C' p S lc fc o es lw aw fw) : gm_una K V n (fun _ _ => True) C' p S lc fc :=
  gm_mono (E := fun _ _ => True) (x := gi_N) (cc := 0) h (fun _ _ _ => trivial) hC
theorem gm_tk_lt' {K : Nat → Int32} {n p k : Nat} (h : gm_tk K n p = nI k) (hk : k ≤ 41 := by omega) : p < n := by
  refine gm_tk_lt h (fun z => ?_)
  have := nI_pos' (n := k) (by omega)
  rw [← z] at this
  exact absurd this (by decide)
theorem gl_d {K V : Nat → Int32} {n p : Nat} {x : gm_I} {S : List gm_I} {cc lc fc : Nat} (hn : p ≤ n) (h : gm_lin p (x :: S) cc lc)
    (h0 : x.1 = 1 → S = []) (h5' : x.1 = 5 → x.2.1 ≤ 41) (h13 : x.1 = 13 → 1 ≤ x.2.1) (h17 : x.1 = 17 → 1 ≤ x.2.2.1) :
    gm_d K V n (fun _ _ => True) (gm_lc n p (gm_sm gw_m (x :: S)) (gm_sm gw_r (x :: S)) cc) p x S cc lc fc := by
  obtain ⟨h1, h2, h3, h4, h5⟩ := h
  obtain ⟨t, a, b, e, v⟩ := x
  have ht := gm_tb1 S
  unfold gm_d
  dsimp only at *
  by_cases z : t = 1
  · subst z; rw [if_pos rfl]
    simp [gm_sm, gw_e, gw_p, gw_m, gw_c, gw_r, gw_a, gw_b, gm_tb_c, gm_tb_n] at h1 h3 h4 h5
    have H := gl_prg (K := K) (V := V) (n := n) (p := p) (S := S) (cc := cc) (lc := lc) (fc := fc) hn (by omega) h2 (by omega) (by omega) (by omega) (h0 rfl)
    simpa [gm_sm, gw_m, gw_r, Nat.add_comm] using H
  rw [if_neg z]
  by_cases z : t = 2
  · subst z; rw [if_pos rfl]
    simp [gm_lc, gm_lin, gm_sm, gw_e, gw_p, gw_m, gw_c, gw_r, gw_a, gw_b, gm_tb_c, gm_tb_n] at *
    omega
  rw [if_neg z]
  by_cases z : t = 3
  · subst z; rw [if_pos rfl]
    split
    · rename_i z1; have hp := gm_tk_lt z1 (by decide)
      simp [gm_lc, gm_lin, gm_sm, gw_e, gw_p, gw_m, gw_c, gw_r, gw_a, gw_b, gm_tb_c, gm_tb_n] at *
      omega
    · simp [gm_sm, gw_e, gw_p, gw_m, gw_c, gw_r, gw_a, gw_b, gm_tb_c, gm_tb_n] at h1 h3 h4 h5
      have H := gl_stm (K := K) (V := V) (n := n) (p := p) (S := gi_B :: S) (cc := cc) (lc := lc) (fc := fc) (by simp [gm_sm, gw_e]; omega) h2 (by simp [gm_sm, gw_p]; omega) (by simp [gm_sm, gw_c]; omega) (by simp [gm_sm, gw_a, gw_b]; omega)
      refine gm_mono_stm H ?_
      intro p' S' lc' fc' o es lw aw fw H
      simp [gm_lc, gm_lin, gm_sm, gw_e, gw_p, gw_m, gw_c, gw_r, gw_a, gw_b, gm_tb_c, gm_tb_n] at *
      omega
  rw [if_neg z]
  by_cases z : t = 4
  · subst z; rw [if_pos rfl]
    simp [gm_sm, gw_e, gw_p, gw_m, gw_c, gw_r, gw_a, gw_b, gm_tb_c, gm_tb_n] at h1 h3 h4 h5
    have H := gl_stm (K := K) (V := V) (n := n) (p := p) (S := S) (cc := cc) (lc := lc) (fc := fc) (by omega) h2 (by omega) (by omega) (by omega)
    refine gm_mono_stm H ?_
    intro p' S' lc' fc' o es lw aw fw H
    simp [gm_lc, gm_lin, gm_sm, gw_e, gw_p, gw_m, gw_c, gw_r, gw_a, gw_b, gm_tb_c, gm_tb_n] at *
    omega
  rw [if_neg z]
  by_cases z : t = 5
  · subst z; rw [if_pos rfl]
    split
    · rename_i z1; have hp := gm_tk_lt' z1 (h5' rfl)
      simp [gm_lc, gm_lin, gm_sm, gw_e, gw_p, gw_m, gw_c, gw_r, gw_a, gw_b, gm_tb_c, gm_tb_n] at *
      omega
    · trivial
  rw [if_neg z]
  by_cases z : t = 6
  · subst z; rw [if_pos rfl]
    simp [gm_lc, gm_lin, gm_sm, gw_e, gw_p, gw_m, gw_c, gw_r, gw_a, gw_b, gm_tb_c, gm_tb_n] at *
    omega
  rw [if_neg z]
  by_cases z : t = 7
  · subst z; rw [if_pos rfl]
    split
    · rename_i z1; have hp := gm_tk_lt z1 (by decide)
      simp [gm_lc, gm_lin, gm_sm, gw_e, gw_p, gw_m, gw_c, gw_r, gw_a, gw_b, gm_tb_c, gm_tb_n] at *
      omega
    · simp [gm_lc, gm_lin, gm_sm, gw_e, gw_p, gw_m, gw_c, gw_r, gw_a, gw_b, gm_tb_c, gm_tb_n] at *
      omega
  rw [if_neg z]
  by_cases z : t = 8
  · subst z; rw [if_pos rfl]
    simp [gm_lc, gm_lin, gm_sm, gw_e, gw_p, gw_m, gw_c, gw_r, gw_a, gw_b, gm_tb_c, gm_tb_n] at *
    omega
  rw [if_neg z]
  by_cases z : t = 9
  · subst z; rw [if_pos rfl]
    simp [gm_lc, gm_lin, gm_sm, gw_e, gw_p, gw_m, gw_c, gw_r, gw_a, gw_b, gm_tb_c, gm_tb_n] at *
    omega
  rw [if_neg z]
  by_cases z : t = 10
  · subst z; rw [if_pos rfl]
    simp [gm_lc, gm_lin, gm_sm, gw_e, gw_p, gw_m, gw_c, gw_r, gw_a, gw_b, gm_tb_c, gm_tb_n] at *
    omega
  rw [if_neg z]
  by_cases z : t = 11 ∨ t = 19 ∨ t = 20
  · rw [if_pos z]
    rcases z with z | z | z <;> subst z <;> simp [gm_lc, gm_lin, gm_sm, gw_e, gw_p, gw_m, gw_c, gw_r, gw_a, gw_b, gm_tb_c, gm_tb_n] at * <;> omega
  rw [if_neg z]
  by_cases z : t = 12
  · subst z; rw [if_pos rfl]
    simp [gm_sm, gw_e, gw_p, gw_m, gw_c, gw_r, gw_a, gw_b, gm_tb_c, gm_tb_n] at h1 h3 h4 h5
    have H := gl_una (K := K) (V := V) (n := n) (p := p) (S := gi_R a :: S) (cc := cc) (lc := lc) (fc := fc) (by simp [gm_sm, gw_e]; omega) h2 (by simp [gm_sm, gw_p]; omega) (by simp [gm_sm, gw_c]; omega) (by simp [gm_sm, gw_a, gw_b]; omega)
    refine gm_mono_una H ?_
    intro p' S' lc' fc' o es lw aw fw H
    simp [gm_lc, gm_lin, gm_sm, gw_e, gw_p, gw_m, gw_c, gw_r, gw_a, gw_b, gm_tb_c, gm_tb_n] at *
    omega
  rw [if_neg z]
  by_cases z : t = 13
  · subst z; rw [if_pos rfl]
    simp [gm_sm, gw_e, gw_p, gw_m, gw_c, gw_r, gw_a, gw_b, gm_tb_c, gm_tb_n] at h1 h3 h4 h5
    have H := gl_bin (K := K) (n := n) (p := p) (w := a) (S := S) (cc := cc) (lc := lc) (fc := fc) (h13 rfl) hn (by omega) h2 (by omega) (by omega) (by omega)
    simpa [gm_sm, gw_m, gw_r, Nat.add_comm] using H
  rw [if_neg z]
  by_cases z : t = 14
  · subst z; rw [if_pos rfl]
    simp [gm_sm, gw_e, gw_p, gw_m, gw_c, gw_r, gw_a, gw_b, gm_tb_c, gm_tb_n] at h1 h3 h4 h5
    have H := gl_una (K := K) (V := V) (n := n) (p := p) (S := S) (cc := cc) (lc := lc) (fc := fc) (by omega) h2 (by omega) (by omega) (by omega)
    refine gm_mono_una H ?_
    intro p' S' lc' fc' o es lw aw fw H
    simp [gm_lc, gm_lin, gm_sm, gw_e, gw_p, gw_m, gw_c, gw_r, gw_a, gw_b, gm_tb_c, gm_tb_n] at *
    omega
  rw [if_neg z]
  by_cases z : t = 15
  · subst z; rw [if_pos rfl]
    simp [gm_lc, gm_lin, gm_sm, gw_e, gw_p, gw_m, gw_c, gw_r, gw_a, gw_b, gm_tb_c, gm_tb_n] at *
    omega
  rw [if_neg z]
  by_cases z : t = 16
  · subst z; rw [if_pos rfl]
    split
    · rename_i z1; have hp := gm_tk_lt z1 (by decide)
      simp [gm_lc, gm_lin, gm_sm, gw_e, gw_p, gw_m, gw_c, gw_r, gw_a, gw_b, gm_tb_c, gm_tb_n] at *
      omega
    · simp [gm_lc, gm_lin, gm_sm, gw_e, gw_p, gw_m, gw_c, gw_r, gw_a, gw_b, gm_tb_c, gm_tb_n] at *
      omega
  rw [if_neg z]
  by_cases z : t = 17
  · subst z; rw [if_pos rfl]
    have h17 := h17 rfl
    split
    · rename_i z1; have hp := gm_tk_lt z1 (by decide)
      simp [gm_lc, gm_lin, gm_sm, gw_e, gw_p, gw_m, gw_c, gw_r, gw_a, gw_b, gm_tb_c, gm_tb_n] at *
      omega
    · split
      · rename_i z1; have hp := gm_tk_lt z1 (by decide)
        simp [gm_lc, gm_lin, gm_sm, gw_e, gw_p, gw_m, gw_c, gw_r, gw_a, gw_b, gm_tb_c, gm_tb_n] at *
        omega
      · trivial
  rw [if_neg z]
  by_cases z : t = 18
  · subst z; rw [if_pos rfl]
    simp [gm_lc, gm_lin, gm_sm, gw_e, gw_p, gw_m, gw_c, gw_r, gw_a, gw_b, gm_tb_c, gm_tb_n] at *
    omega
  rw [if_neg z]
  trivial
end
section
/-! shapes: labels and places fall downwards, no while test below a statement, every item is one that the machine makes -/
def gm_nw : List gm_I → Prop
  | [] => True
  | x :: S => x.1 ≠ 9 ∧ gm_nw S
def gm_sh : List gm_I → Prop
  | [] => True
  | x :: S => (x.1 = 1 → S = []) ∧ ((x.1 = 2 ∨ x.1 = 3 ∨ x.1 = 4 ∨ x.1 = 6 ∨ x.1 = 7 ∨ x.1 = 8 ∨ x.1 = 9 ∨ x.1 = 10) → gm_nw S) ∧ gm_sh S
def gm_lb : Nat → List gm_I → Prop
  | _, [] => True
  | b, x :: S => if x.1 = 6 ∨ x.1 = 7 ∨ x.1 = 8 ∨ x.1 = 9 ∨ x.1 = 10 ∨ x.1 = 15 then x.2.1 + 2 ≤ b ∧ gm_lb x.2.1 S else gm_lb b S
def gm_pl : Nat → List gm_I → Prop
  | _, [] => True
  | b, x :: S => if x.1 = 16 ∨ x.1 = 17 then x.2.1 < b ∧ gm_pl x.2.1 S else gm_pl b S
def gm_ve (K : Nat → Int32) (n : Nat) (x : gm_I) : Prop :=
  if x.1 = 11 then (x.2.1 = 50 ∧ x.2.2.2.1 = 915) ∨ (x.2.1 = 32 ∧ x.2.2.2.1 = 1043) ∨ (x.2.1 = 33 ∧ x.2.2.2.1 = 1075) ∨ (x.2.1 = 54 ∧ x.2.2.1 < n ∧ x.2.2.2.1 = 22 + 32 * x.2.2.1)
  else if x.1 = 20 then x.2.1 = 55 ∧ x.2.2.1 < n ∧ x.2.2.2.1 = 14 + 32 * x.2.2.1
  else (15 ≤ x.2.1 ∧ x.2.1 ≤ 31 ∧ x.2.2.1 < n ∧ K x.2.2.1 = nI x.2.1 ∧ x.2.2.2.1 = 20 + 32 * x.2.2.1) ∨ (x.2.1 = 53 ∧ ∃ u, u ≤ 5 ∧ x.2.2.2.2 = nI u ∧ x.2.2.2.1 = 13 + 32 * u)
    ∨ (x.2.1 = 39 ∧ x.2.2.2.1 = 11) ∨ (x.2.1 = 40 ∧ x.2.2.2.1 = 12) ∨ (x.2.1 = 56 ∧ x.2.2.2.1 = 15)
def gm_vl (K V : Nat → Int32) (n p : Nat) (x : gm_I) : Prop :=
  if x.1 = 5 then x.2.1 ≤ 41 else if x.1 = 9 then 2 ≤ x.2.2.1 ∧ x.2.2.1 ≤ n else if x.1 = 11 ∨ x.1 = 19 ∨ x.1 = 20 then gm_ve K n x
  else if x.1 = 12 ∨ x.1 = 13 then 1 ≤ x.2.1 ∧ x.2.1 ≤ 11 else if x.1 = 16 then x.2.1 < n else if x.1 = 17 then x.2.1 < n ∧ 1 ≤ x.2.2.1 ∧ x.2.2.1 ≤ p
  else if x.1 = 18 then x.2.1 < n ∧ x.2.2.2.2 = V x.2.1 ∧ K x.2.1 = 2 else 1 ≤ x.1 ∧ x.1 ≤ 15
def gm_va (K V : Nat → Int32) (n p : Nat) : List gm_I → Prop
  | [] => True
  | x :: S => gm_vl K V n p x ∧ gm_va K V n p S
/-- what token lets in -/
def gm_tok (K V : Nat → Int32) (n : Nat) : Prop :=
  ∀ j, j < n → (∃ k, k ≤ 41 ∧ K j = nI k) ∧ (K j = 1 → ∃ u, u ≤ 5 ∧ V j = nI u) ∧ (K j = 2 → ∃ u, u ≤ 3 ∧ V j = nI u)
theorem gm_vl_up {K V : Nat → Int32} {n p q : Nat} {x : gm_I} (h : gm_vl K V n p x) (hq : p ≤ q) : gm_vl K V n q x := by
  unfold gm_vl at h ⊢
  repeat' split at h
  all_goals simp_all
  all_goals omega
theorem gm_va_up {K V : Nat → Int32} {n p q : Nat} (hq : p ≤ q) : ∀ {S : List gm_I}, gm_va K V n p S → gm_va K V n q S
  | [], _ => trivial
  | _ :: _, h => ⟨gm_vl_up h.1 hq, gm_va_up hq h.2⟩
theorem gm_lb_up {b c : Nat} (hq : b ≤ c) : ∀ {S : List gm_I}, gm_lb b S → gm_lb c S
  | [], _ => trivial
  | x :: S, h => by
    unfold gm_lb at h ⊢
    split at h
    · rw [if_pos (by assumption)]; exact ⟨by omega, h.2⟩
    · rw [if_neg (by assumption)]; exact gm_lb_up hq h
theorem gm_pl_up {b c : Nat} (hq : b ≤ c) : ∀ {S : List gm_I}, gm_pl b S → gm_pl c S
  | [], _ => trivial
  | x :: S, h => by
    unfold gm_pl at h ⊢
    split at h
    · rw [if_pos (by assumption)]; exact ⟨by omega, h.2⟩
    · rw [if_neg (by assumption)]; exact gm_pl_up hq h
end
section
/-! the run of G with its arrays; the certificate that a compiled program leaves -/
abbrev gm_A : Type := (Nat → Int32) × (Nat → Int32) × (Nat → Int32) × (Nat → Int32) × (Nat → Int32) × (Nat → Int32) × (Nat → Int32) × (Nat → Int32)
def gu_k (g : gm_M → Int32) : (Nat → Int32) → Nat → List gm_M → Nat → Int32
  | f, _, [] => f
  | f, c, x :: es => gu_k g (upd f c (g x)) (c + 1) es
def gu_l (f : Nat → Int32) : Option (Nat × Nat) → Nat → Int32
  | none => f
  | some x => upd f x.1 (nI x.2)
def gu_f (f : Nat → Int32) (c : Nat) : Option Int32 → Nat → Int32
  | none => f
  | some v => upd f c v
def gu_s (f : Nat → Int32) (c : Nat) (y : Int32) : Option Int32 → Nat → Int32
  | none => f
  | some _ => upd f c y
def gm_up (A : gm_A) (cc fc p' : Nat) (es : List gm_M) (lw aw : Option (Nat × Nat)) (fw : Option Int32) : gm_A :=
  (gu_k (fun x => nI x.1) A.1 cc es, gu_k (fun x => x.2.1) A.2.1 cc es, gu_k (fun x => nI x.2.2) A.2.2.1 cc es, gu_l A.2.2.2.1 lw, gu_l A.2.2.2.2.1 aw,
   gu_s A.2.2.2.2.2.1 fc (nI cc) fw, gu_f A.2.2.2.2.2.2.1 fc fw, gu_s A.2.2.2.2.2.2.2 fc (nI p') fw)
def gm_o (b : Bool) (p : Nat) (o : Int32) : Int32 := if b = true then (if o < 0 then nI p else o) else o
def gm_inv (K V : Nat → Int32) (n p : Nat) (S : List gm_I) (cc lc fc : Nat) : Prop :=
  p ≤ n ∧ gm_lin p S cc lc ∧ gm_sh S ∧ gm_lb lc S ∧ gm_pl p S ∧ gm_va K V n p S ∧ fc ≤ 4
def gm_run (K V : Nat → Int32) (n : Nat) (E : Nat → (Nat → Int32) → (Nat → Int32) → Prop) (D : Nat → Nat → Nat → Nat → Int32 → gm_A → Prop) :
    Nat → Nat → List gm_I → Nat → Nat → Nat → Int32 → gm_A → Prop
  | 0, _, _, _, _, _, _, _ => False
  | _ + 1, p, [], cc, lc, fc, o, A => D p cc lc fc o A
  | m + 1, p, x :: S, cc, lc, fc, o, A =>
    gm_d K V n (fun e w => E e A.2.2.2.2.1 (gu_f A.2.2.2.2.2.2.1 fc w))
      (fun p' S' lc' fc' b es lw aw fw => gm_run K V n E D m p' S' (cc + es.length) lc' fc' (gm_o b p o) (gm_up A cc fc p' es lw aw fw)) p x S cc lc fc
def gm_sc (K : Nat → Int32) (n : Nat) (F : gm_A) (p : Nat) (x : gm_I) : Prop :=
  (x.1 = 16 → gm_tk K n p = 5 → F.2.2.2.2.1 x.2.1 = 0) ∧ (x.1 = 17 → gm_tk K n p = 5 → F.2.2.2.2.1 x.2.1 = nI x.2.2.1)
def gm_ok (K V : Nat → Int32) (n : Nat) (F : gm_A) (NF : Nat) : Nat → Nat → List gm_I → Nat → Nat → Nat → Prop
  | 0, _, _, _, _, _ => False
  | _ + 1, p, [], cc, lc, fc => gm_inv K V n p [] cc lc fc ∧ fc = NF
  | m + 1, p, x :: S, cc, lc, fc => gm_inv K V n p (x :: S) cc lc fc ∧ gm_sc K n F p x ∧
    gm_d K V n (fun _ _ => False) (fun p' S' lc' fc' b es lw _ fw => b = false ∧ gm_up F cc fc p' es lw none fw = F ∧ gm_ok K V n F NF m p' S' (cc + es.length) lc' fc') p x S cc lc fc
/-! writes that write what stands there -/
theorem gu_fix1 {F : Nat → Int32} {k : Nat} {v : Int32} (h : F k = v) : upd F k v = F := by
  funext j
  by_cases z : j = k
  · subst z; rw [pk_us, h]
  · rw [pk_un z]
theorem gu_lo (g : gm_M → Int32) : ∀ (es : List gm_M) (f : Nat → Int32) (c j : Nat), j < c → gu_k g f c es j = f j
  | [], _, _, _, _ => rfl
  | x :: es, f, c, j, h => (gu_lo g es (upd f c (g x)) (c + 1) j (by omega)).trans (pk_un (by omega))
theorem gu_fix (g : gm_M → Int32) : ∀ (es : List gm_M) (F f : Nat → Int32) (c : Nat), (∀ j, c ≤ j → j < c + es.length → F j = gu_k g f c es j) → gu_k g F c es = F
  | [], _, _, _, _ => rfl
  | x :: es, F, f, c, h => by
    have h0 : F c = g x := by
      rw [h c (by omega) (by simp), gu_k, gu_lo g es _ _ _ (by omega), pk_us]
    rw [gu_k, gu_fix1 h0]
    refine gu_fix g es F (upd f c (g x)) (c + 1) fun j h1 h2 => ?_
    exact h j (by omega) (by simp only [List.length_cons]; omega)
def gm_np (l : Nat) : List gm_I → Prop
  | [] => True
  | x :: S => ((x.1 = 6 ∨ x.1 = 7 ∨ x.1 = 15) → l ≠ x.2.1) ∧ ((x.1 = 6 ∨ x.1 = 7 ∨ x.1 = 8 ∨ x.1 = 9 ∨ x.1 = 10) → l ≠ x.2.1 + 1) ∧ gm_np l S
def gm_nq (q : Nat) : List gm_I → Prop
  | [] => True
  | x :: S => ((x.1 = 16 ∨ x.1 = 17) → q ≠ x.2.1) ∧ gm_nq q S
theorem gm_lb_np {l : Nat} : ∀ {S : List gm_I} {b : Nat}, gm_lb b S → b ≤ l → gm_np l S
  | [], _, _, _ => trivial
  | x :: S, b, h, hl => by
    unfold gm_lb at h
    split at h
    · exact ⟨fun _ => by omega, fun _ => by omega, gm_lb_np h.2 (by omega)⟩
    · rename_i z
      exact ⟨fun y => absurd y (by omega), fun y => absurd y (by omega), gm_lb_np h hl⟩
theorem gm_pl_nq {q : Nat} : ∀ {S : List gm_I} {b : Nat}, gm_pl b S → b ≤ q → gm_nq q S
  | [], _, _, _ => trivial
  | x :: S, b, h, hl => by
    unfold gm_pl at h
    split at h
    · exact ⟨fun _ => by omega, gm_pl_nq h.2 (by omega)⟩
    · rename_i z
      exact ⟨fun y => absurd y z, gm_pl_nq h hl⟩
/-! the shapes last -/
def gm_st (K V : Nat → Int32) (n : Nat) : gm_K Prop := fun p' S' lc' fc' _ _ _ _ _ =>
  gm_sh S' ∧ gm_lb lc' S' ∧ gm_pl p' S' ∧ gm_va K V n p' S' ∧ fc' ≤ 4
theorem gs_stm {K V : Nat → Int32} {n p : Nat} {S : List gm_I} {cc lc fc : Nat} (ht : gm_tok K V n) (hw : gm_nw S) (h1 : gm_sh S) (h2 : gm_lb lc S) (h3 : gm_pl p S) (h4 : gm_va K V n p S) (h5 : fc ≤ 4) :
    gm_stm K V n (fun _ _ => True) (gm_st K V n) p S cc lc fc := by
  have a1 : gm_pl (p + 1) S := gm_pl_up (by omega) h3
  have a2 : gm_pl (p + 2) S := gm_pl_up (by omega) h3
  have b1 : gm_va K V n (p + 1) S := gm_va_up (by omega) h4
  have b2 : gm_va K V n (p + 2) S := gm_va_up (by omega) h4
  unfold gm_stm
  repeat' split
  all_goals try trivial
  all_goals try (cases hO : gm_opn S)
  all_goals
    have hp := gm_tk_lt (by assumption : gm_tk K n p = _) (by decide)
    have hk := ht p hp
    try have hq := gm_tk_lt (by assumption : gm_tk K n (p + 1) = _) (by decide)
    simp_all [gm_brk, gm_st, gm_sh, gm_nw, gm_lb, gm_pl, gm_va, gm_vl, gm_ve, gm_tk]
  all_goals try omega
  all_goals
    obtain ⟨u, hu, e⟩ := hk.2
    exact ⟨u, hu, e, by rw [e, nI_clamp (by omega)]⟩
theorem gs_una {K V : Nat → Int32} {n p : Nat} {S : List gm_I} {cc lc fc : Nat} (ht : gm_tok K V n) (h1 : gm_sh S) (h2 : gm_lb lc S) (h3 : gm_pl p S) (h4 : gm_va K V n p S) (h5 : fc ≤ 4) :
    gm_una K V n (fun _ _ => True) (gm_st K V n) p S lc fc := by
  have a1 : gm_pl (p + 1) S := gm_pl_up (by omega) h3
  have a2 : gm_pl (p + 2) S := gm_pl_up (by omega) h3
  have b1 : gm_va K V n (p + 1) S := gm_va_up (by omega) h4
  have b2 : gm_va K V n (p + 2) S := gm_va_up (by omega) h4
  unfold gm_una
  repeat' split
  all_goals try trivial
  all_goals
    have hp := gm_tk_lt (by assumption : gm_tk K n p = _) (by decide)
    have hk := ht p hp
    try have hq := gm_tk_lt (by assumption : gm_tk K n (p + 1) = _) (by decide)
    simp_all [gm_brk, gm_st, gm_sh, gm_nw, gm_lb, gm_pl, gm_va, gm_vl, gm_ve, gm_tk]
theorem gm_str_k {k : Nat} (hk : k ≤ 41) (h : 1 ≤ gm_str (nI k)) : 13 ≤ k ∧ k ≤ 31 := by
  unfold gm_str at h
  rw [nI_clamp (by omega)] at h
  repeat' split at h
  all_goals omega
theorem gm_str_le (t : Int32) : gm_str t ≤ 10 := by
  unfold gm_str
  repeat' split
  all_goals omega
theorem gs_bin {K V : Nat → Int32} {n p w : Nat} {S : List gm_I} {lc fc : Nat} (ht : gm_tok K V n) (hw : 1 ≤ w) (hw' : w ≤ 11) (h1 : gm_sh S) (h2 : gm_lb lc S) (h3 : gm_pl p S) (h4 : gm_va K V n p S) (h5 : fc ≤ 4) :
    gm_bin K n (gm_st K V n) p w S lc fc := by
  have a1 : gm_pl (p + 1) S := gm_pl_up (by omega) h3
  have b1 : gm_va K V n (p + 1) S := gm_va_up (by omega) h4
  unfold gm_bin
  split
  · exact ⟨h1, h2, h3, h4, h5⟩
  · rename_i hs
    have hp : p < n := by
      by_cases z : p < n
      · exact z
      · rw [show gm_tk K n p = -1 from if_neg z, gm_str0] at hs
        omega
    have hk := ht p hp
    have hle := gm_str_le (K p)
    obtain ⟨⟨k, hk1, hk2⟩, -⟩ := hk
    rw [gm_tk_K hp, hk2] at hs
    have hr := gm_str_k hk1 (by omega)
    have hkc : (nI k).toNatClampNeg = k := nI_clamp (by omega)
    repeat' split
    · simp [gm_brk, gm_st, gm_sh, gm_nw, gm_lb, gm_pl, gm_va, gm_vl, gm_ve, a1, b1, h1, h2, h5, hw, hw']
    · simp [gm_brk, gm_st, gm_sh, gm_nw, gm_lb, gm_pl, gm_va, gm_vl, gm_ve, a1, b1, h1, h2, h5, hw, hw']
    · rename_i n13 n14
      rw [gm_tk_K hp, hk2] at n13 n14 ⊢
      have e13 : k ≠ 13 := fun z => n13 (by rw [z]; rfl)
      have e14 : k ≠ 14 := fun z => n14 (by rw [z]; rfl)
      rw [hk2] at hle
      simp [gm_brk, gm_st, gm_sh, gm_nw, gm_lb, gm_pl, gm_va, gm_vl, gm_ve, a1, b1, h1, h2, h5, hw, hw', hkc, hp, hk2]
      omega
theorem gs_prg {K V : Nat → Int32} {n p : Nat} {S : List gm_I} {lc fc : Nat} (h5 : fc ≤ 4) (h0 : S = []) :
    gm_prg K V n (fun _ _ => True) (gm_st K V n) p S lc fc := by
  subst h0
  unfold gm_prg
  repeat' split
  all_goals try trivial
  all_goals
    simp [gm_brk, gm_st, gm_sh, gm_nw, gm_lb, gm_pl, gm_va, gm_vl, gm_ve]
    omega
theorem gs_d {K V : Nat → Int32} {n p : Nat} {x : gm_I} {S : List gm_I} {cc lc fc : Nat} (ht : gm_tok K V n) (hn : p ≤ n) (h1 : gm_sh (x :: S)) (h2 : gm_lb lc (x :: S)) (h3 : gm_pl p (x :: S)) (h4 : gm_va K V n p (x :: S)) (h5 : fc ≤ 4) :
    gm_d K V n (fun _ _ => True) (gm_st K V n) p x S cc lc fc := by
  obtain ⟨t, a, b, e, v⟩ := x
  obtain ⟨q0, qw, q1⟩ := h1
  obtain ⟨v1, v2⟩ := h4
  unfold gm_d
  dsimp only at *
  by_cases z : t = 1
  · subst z; rw [if_pos rfl]
    exact gs_prg h5 (q0 rfl)
  rw [if_neg z]
  by_cases z : t = 2
  · subst z; rw [if_pos rfl]
    simp_all [gm_brk, gm_st, gm_sh, gm_nw, gm_lb, gm_pl, gm_va, gm_vl, gm_ve]
  rw [if_neg z]
  by_cases z : t = 3
  · subst z; rw [if_pos rfl]
    split
    · have a1 : gm_pl (p + 1) S := gm_pl_up (b := p) (by omega) (by simpa [gm_pl] using h3)
      have b1 : gm_va K V n (p + 1) S := gm_va_up (by omega) v2
      simp_all [gm_brk, gm_st, gm_sh, gm_nw, gm_lb, gm_pl, gm_va, gm_vl, gm_ve]
    · exact gs_stm ht ⟨by decide, qw (by omega)⟩ ⟨q0, qw, q1⟩ h2 h3 ⟨v1, v2⟩ h5
  rw [if_neg z]
  by_cases z : t = 4
  · subst z; rw [if_pos rfl]
    exact gs_stm ht (qw (by omega)) q1 (by simpa [gm_lb] using h2) (by simpa [gm_pl] using h3) v2 h5
  rw [if_neg z]
  by_cases z : t = 5
  · subst z; rw [if_pos rfl]
    have a1 : gm_pl (p + 1) S := gm_pl_up (b := p) (by omega) (by simpa [gm_pl] using h3)
    have b1 : gm_va K V n (p + 1) S := gm_va_up (by omega) v2
    split
    · simp_all [gm_brk, gm_st, gm_sh, gm_nw, gm_lb, gm_pl, gm_va, gm_vl, gm_ve]
    · trivial
  rw [if_neg z]
  by_cases z : t = 6
  · subst z; rw [if_pos rfl]
    simp_all [gm_brk, gm_st, gm_sh, gm_nw, gm_lb, gm_pl, gm_va, gm_vl, gm_ve]
  rw [if_neg z]
  by_cases z : t = 7
  · subst z; rw [if_pos rfl]
    have a1 : gm_pl (p + 1) S := gm_pl_up (b := p) (by omega) (by simpa [gm_pl] using h3)
    have b1 : gm_va K V n (p + 1) S := gm_va_up (by omega) v2
    have c1 := gm_lb_up (b := a) (c := lc) (S := S) (by simp [gm_lb] at h2; omega) (by simp [gm_lb] at h2; exact h2.2)
    split
    · simp_all [gm_brk, gm_st, gm_sh, gm_nw, gm_lb, gm_pl, gm_va, gm_vl, gm_ve]
    · simp_all [gm_brk, gm_st, gm_sh, gm_nw, gm_lb, gm_pl, gm_va, gm_vl, gm_ve]
  rw [if_neg z]
  by_cases z : t = 8
  · subst z; rw [if_pos rfl]
    have c1 := gm_lb_up (b := a) (c := lc) (S := S) (by simp [gm_lb] at h2; omega) (by simp [gm_lb] at h2; exact h2.2)
    simp_all [gm_brk, gm_st, gm_sh, gm_nw, gm_lb, gm_pl, gm_va, gm_vl, gm_ve]
  rw [if_neg z]
  by_cases z : t = 9
  · subst z; rw [if_pos rfl]
    simp_all [gm_brk, gm_st, gm_sh, gm_nw, gm_lb, gm_pl, gm_va, gm_vl, gm_ve]
  rw [if_neg z]
  by_cases z : t = 10
  · subst z; rw [if_pos rfl]
    have c1 := gm_lb_up (b := a) (c := lc) (S := S) (by simp [gm_lb] at h2; omega) (by simp [gm_lb] at h2; exact h2.2)
    simp_all [gm_brk, gm_st, gm_sh, gm_nw, gm_lb, gm_pl, gm_va, gm_vl, gm_ve]
  rw [if_neg z]
  by_cases z : t = 11 ∨ t = 19 ∨ t = 20
  · rw [if_pos z]
    rcases z with z | z | z <;> subst z <;> simp_all [gm_st, gm_lb, gm_pl]
  rw [if_neg z]
  by_cases z : t = 12
  · subst z; rw [if_pos rfl]
    exact gs_una (cc := cc) ht ⟨by simp, by simp, q1⟩ (by simpa [gm_lb] using h2) (by simpa [gm_pl] using h3) ⟨by simpa [gm_vl] using v1, v2⟩ h5
  rw [if_neg z]
  by_cases z : t = 13
  · subst z; rw [if_pos rfl]
    have v1' : 1 ≤ a ∧ a ≤ 11 := by simpa [gm_vl] using v1
    exact gs_bin ht v1'.1 v1'.2 q1 (by simpa [gm_lb] using h2) (by simpa [gm_pl] using h3) v2 h5
  rw [if_neg z]
  by_cases z : t = 14
  · subst z; rw [if_pos rfl]
    exact gs_una (cc := cc) ht q1 (by simpa [gm_lb] using h2) (by simpa [gm_pl] using h3) v2 h5
  rw [if_neg z]
  by_cases z : t = 15
  · subst z; rw [if_pos rfl]
    have c1 := gm_lb_up (b := a) (c := lc) (S := S) (by simp [gm_lb] at h2; omega) (by simp [gm_lb] at h2; exact h2.2)
    simp_all [gm_brk, gm_st, gm_sh, gm_nw, gm_lb, gm_pl, gm_va, gm_vl, gm_ve]
  rw [if_neg z]
  by_cases z : t = 16
  · subst z; rw [if_pos rfl]
    have h3' : a < p ∧ gm_pl a S := by simpa [gm_pl] using h3
    have a0 : gm_pl p S := gm_pl_up (by omega) h3'.2
    have a1 : gm_pl (p + 1) S := gm_pl_up (by omega) h3'.2
    have b1 : gm_va K V n (p + 1) S := gm_va_up (by omega) v2
    split
    · simp_all [gm_brk, gm_st, gm_sh, gm_nw, gm_lb, gm_pl, gm_va, gm_vl, gm_ve]
    · simp_all [gm_brk, gm_st, gm_sh, gm_nw, gm_lb, gm_pl, gm_va, gm_vl, gm_ve]
      omega
  rw [if_neg z]
  by_cases z : t = 17
  · subst z; rw [if_pos rfl]
    have h3' : a < p ∧ gm_pl a S := by simpa [gm_pl] using h3
    have a1 : gm_pl (p + 1) S := gm_pl_up (by omega) h3'.2
    have b1 : gm_va K V n (p + 1) S := gm_va_up (by omega) v2
    repeat' split
    · simp_all [gm_brk, gm_st, gm_sh, gm_nw, gm_lb, gm_pl, gm_va, gm_vl, gm_ve]
    · simp_all [gm_brk, gm_st, gm_sh, gm_nw, gm_lb, gm_pl, gm_va, gm_vl, gm_ve]
      omega
    · trivial
  rw [if_neg z]
  by_cases z : t = 18
  · subst z; rw [if_pos rfl]
    simp_all [gm_brk, gm_st, gm_sh, gm_nw, gm_lb, gm_pl, gm_va, gm_vl, gm_ve]
  rw [if_neg z]
  trivial
theorem gm_inv_d {K V : Nat → Int32} {n p : Nat} {x : gm_I} {S : List gm_I} {cc lc fc : Nat} (ht : gm_tok K V n) (h : gm_inv K V n p (x :: S) cc lc fc) :
    gm_d K V n (fun _ _ => True) (fun p' S' lc' fc' _ es _ _ _ => gm_inv K V n p' S' (cc + es.length) lc' fc' ∧ p ≤ p' ∧ gm_sm gw_m S' + 3 * (n - p') < gm_sm gw_m (x :: S) + 3 * (n - p) ∧ p + gm_sm gw_r (x :: S) ≤ p' + gm_sm gw_r S') p x S cc lc fc := by
  obtain ⟨hn, hl, h1, h2, h3, h4, h5⟩ := h
  have v := h4.1
  refine gm_and (gl_d hn hl h1.1 (fun z => ?_) (fun z => ?_) (fun z => ?_)) (gs_d (cc := cc) ht hn h1 h2 h3 h4 h5) (fun _ _ _ _ => trivial) (fun p' S' lc' fc' o es lw aw fw a b => ?_)
  · unfold gm_vl at v
    rw [if_pos z] at v
    exact v
  · unfold gm_vl at v
    simp [z] at v
    exact v.1
  · unfold gm_vl at v
    simp [z] at v
    exact v.2.1
  · exact ⟨⟨a.2.2.1, a.1, b.1, b.2.1, b.2.2.1, b.2.2.2.1, b.2.2.2.2⟩, a.2.1, a.2.2.2.1, a.2.2.2.2⟩
end
