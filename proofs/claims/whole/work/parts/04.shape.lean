/-! shapes: labels and places fall downwards, no while test below a statement, every item is one that the machine makes -/
def gm_nw : List gm_I → Prop
  | [] => True
  | x :: S => x.1 ≠ 9 ∧ gm_nw S
def gm_sh : List gm_I → Prop
  | [] => True
  | x :: S => (x.1 = 1 → S = []) ∧ ((x.1 = 2 ∨ x.1 = 3 ∨ x.1 = 4 ∨ x.1 = 6 ∨ x.1 = 7 ∨ x.1 = 8 ∨ x.1 = 9 ∨ x.1 = 10) → gm_nw S) ∧ gm_sh S
def gm_lb : Nat → List gm_I → Prop
  | _, [] => True
  | b, x :: S => if x.1 = 6 ∨ x.1 = 7 ∨ x.1 = 8 ∨ x.1 = 9 ∨ x.1 = 10 ∨ x.1 = 15 then x.2.1 + 2 ≤ b ∧ gm_lb x.2.1 S else gm_lb b S
def gm_pl : Nat → List gm_I → Prop
  | _, [] => True
  | b, x :: S => if x.1 = 16 ∨ x.1 = 17 then x.2.1 < b ∧ gm_pl x.2.1 S else gm_pl b S
def gm_ve (K : Nat → Int32) (n : Nat) (x : gm_I) : Prop :=
  if x.1 = 11 then (x.2.1 = 50 ∧ x.2.2.2.1 = 915) ∨ (x.2.1 = 32 ∧ x.2.2.2.1 = 1043) ∨ (x.2.1 = 33 ∧ x.2.2.2.1 = 1075) ∨ (x.2.1 = 54 ∧ x.2.2.1 < n ∧ x.2.2.2.1 = 22 + 32 * x.2.2.1)
  else if x.1 = 20 then x.2.1 = 55 ∧ x.2.2.1 < n ∧ x.2.2.2.1 = 14 + 32 * x.2.2.1
  else (15 ≤ x.2.1 ∧ x.2.1 ≤ 31 ∧ x.2.2.1 < n ∧ K x.2.2.1 = nI x.2.1 ∧ x.2.2.2.1 = 20 + 32 * x.2.2.1) ∨ (x.2.1 = 53 ∧ ∃ u, u ≤ 5 ∧ x.2.2.2.2 = nI u ∧ x.2.2.2.1 = 13 + 32 * u)
    ∨ (x.2.1 = 39 ∧ x.2.2.2.1 = 11) ∨ (x.2.1 = 40 ∧ x.2.2.2.1 = 12) ∨ (x.2.1 = 56 ∧ x.2.2.2.1 = 15)
def gm_vl (K V : Nat → Int32) (n p : Nat) (x : gm_I) : Prop :=
  if x.1 = 5 then x.2.1 ≤ 41 else if x.1 = 9 then 2 ≤ x.2.2.1 ∧ x.2.2.1 ≤ n else if x.1 = 11 ∨ x.1 = 19 ∨ x.1 = 20 then gm_ve K n x
  else if x.1 = 12 ∨ x.1 = 13 then 1 ≤ x.2.1 ∧ x.2.1 ≤ 11 else if x.1 = 16 then x.2.1 < n else if x.1 = 17 then x.2.1 < n ∧ 1 ≤ x.2.2.1 ∧ x.2.2.1 ≤ p
  else if x.1 = 18 then x.2.1 < n ∧ x.2.2.2.2 = V x.2.1 ∧ K x.2.1 = 2 else 1 ≤ x.1 ∧ x.1 ≤ 15
def gm_va (K V : Nat → Int32) (n p : Nat) : List gm_I → Prop
  | [] => True
  | x :: S => gm_vl K V n p x ∧ gm_va K V n p S
/-- what token lets in -/
def gm_tok (K V : Nat → Int32) (n : Nat) : Prop :=
  ∀ j, j < n → (∃ k, k ≤ 41 ∧ K j = nI k) ∧ (K j = 1 → ∃ u, u ≤ 5 ∧ V j = nI u) ∧ (K j = 2 → ∃ u, u ≤ 3 ∧ V j = nI u)
theorem gm_vl_up {K V : Nat → Int32} {n p q : Nat} {x : gm_I} (h : gm_vl K V n p x) (hq : p ≤ q) : gm_vl K V n q x := by
  unfold gm_vl at h ⊢
  repeat' split at h
  all_goals simp_all
  all_goals omega
theorem gm_va_up {K V : Nat → Int32} {n p q : Nat} (hq : p ≤ q) : ∀ {S : List gm_I}, gm_va K V n p S → gm_va K V n q S
  | [], _ => trivial
  | _ :: _, h => ⟨gm_vl_up h.1 hq, gm_va_up hq h.2⟩
theorem gm_lb_up {b c : Nat} (hq : b ≤ c) : ∀ {S : List gm_I}, gm_lb b S → gm_lb c S
  | [], _ => trivial
  | x :: S, h => by
    unfold gm_lb at h ⊢
    split at h
    · rw [if_pos (by assumption)]; exact ⟨by omega, h.2⟩
    · rw [if_neg (by assumption)]; exact gm_lb_up hq h
theorem gm_pl_up {b c : Nat} (hq : b ≤ c) : ∀ {S : List gm_I}, gm_pl b S → gm_pl c S
  | [], _ => trivial
  | x :: S, h => by
    unfold gm_pl at h ⊢
    split at h
    · rw [if_pos (by assumption)]; exact ⟨by omega, h.2⟩
    · rw [if_neg (by assumption)]; exact gm_pl_up hq h
def gm_sl : List gm_I → Prop
  | [] => True
  | x :: S => (x.1 = 1 ∨ x.1 = 2 ∨ x.1 = 3 ∨ x.1 = 4 ∨ x.1 = 7 ∨ x.1 = 8 ∨ x.1 = 10) ∧ gm_sl S
def gm_hd : List gm_I → Nat
  | [] => 0
  | x :: _ => x.1
theorem gm_hd_n : gm_hd [] = 0 := rfl
theorem gm_hd_c (x : gm_I) (S : List gm_I) : gm_hd (x :: S) = x.1 := rfl
theorem gm_sl_hd {S : List gm_I} (h : gm_sl S) : ¬ gm_hd S = 18 := by
  cases S with
  | nil => simp [gm_hd]
  | cons x S => have := h.1; simp only [gm_hd]; omega
/-- below a statement there are statements alone; above a call its arguments -/
def gm_s2 : List gm_I → Prop
  | [] => True
  | x :: S => ((x.1 = 2 ∨ x.1 = 3 ∨ x.1 = 4 ∨ x.1 = 6 ∨ x.1 = 7 ∨ x.1 = 8 ∨ x.1 = 9 ∨ x.1 = 10 ∨ (x.1 = 5 ∧ x.2.1 = 10)) → gm_sl S) ∧ ((x.1 = 19 ∧ x.2.1 = 39) → ∃ S', S = gi_X 10 :: S') ∧ (gm_hd S = 18 → x.1 = 16 ∨ x.1 = 17) ∧ gm_s2 S
