/-! the run of G with its arrays; the certificate that a compiled program leaves -/
abbrev gm_A : Type := (Nat → Int32) × (Nat → Int32) × (Nat → Int32) × (Nat → Int32) × (Nat → Int32) × (Nat → Int32) × (Nat → Int32) × (Nat → Int32)
def gu_k (g : gm_M → Int32) : (Nat → Int32) → Nat → List gm_M → Nat → Int32
  | f, _, [] => f
  | f, c, x :: es => gu_k g (upd f c (g x)) (c + 1) es
def gu_l (f : Nat → Int32) : Option (Nat × Nat) → Nat → Int32
  | none => f
  | some x => upd f x.1 (nI x.2)
def gu_f (f : Nat → Int32) (c : Nat) : Option Int32 → Nat → Int32
  | none => f
  | some v => upd f c v
def gu_s (f : Nat → Int32) (c : Nat) (y : Int32) : Option Int32 → Nat → Int32
  | none => f
  | some _ => upd f c y
def gm_up (A : gm_A) (cc fc p' : Nat) (es : List gm_M) (lw aw : Option (Nat × Nat)) (fw : Option Int32) : gm_A :=
  (gu_k (fun x => nI x.1) A.1 cc es, gu_k (fun x => x.2.1) A.2.1 cc es, gu_k (fun x => nI x.2.2) A.2.2.1 cc es, gu_l A.2.2.2.1 lw, gu_l A.2.2.2.2.1 aw,
   gu_s A.2.2.2.2.2.1 fc (nI cc) fw, gu_f A.2.2.2.2.2.2.1 fc fw, gu_s A.2.2.2.2.2.2.2 fc (nI p') fw)
def gm_o (b : Bool) (p : Nat) (o : Int32) : Int32 := if b = true then (if o < 0 then nI p else o) else o
def gm_inv (K V : Nat → Int32) (n p : Nat) (S : List gm_I) (cc lc fc : Nat) : Prop :=
  p ≤ n ∧ gm_lin p S cc lc ∧ gm_sh S ∧ gm_lb lc S ∧ gm_pl p S ∧ gm_va K V n p S ∧ fc ≤ 4 ∧ gm_s2 S
def gm_run (K V : Nat → Int32) (n : Nat) (E : Nat → (Nat → Int32) → (Nat → Int32) → Prop) (D : Nat → Nat → Nat → Nat → Int32 → gm_A → Prop) :
    Nat → Nat → List gm_I → Nat → Nat → Nat → Int32 → gm_A → Prop
  | 0, _, _, _, _, _, _, _ => False
  | _ + 1, p, [], cc, lc, fc, o, A => D p cc lc fc o A
  | m + 1, p, x :: S, cc, lc, fc, o, A =>
    gm_d K V n (fun e w => E e A.2.2.2.2.1 (gu_f A.2.2.2.2.2.2.1 fc w))
      (fun p' S' lc' fc' b es lw aw fw => gm_run K V n E D m p' S' (cc + es.length) lc' fc' (gm_o b p o) (gm_up A cc fc p' es lw aw fw)) p x S cc lc fc
def gm_sc (K : Nat → Int32) (n : Nat) (F : gm_A) (p : Nat) (x : gm_I) : Prop :=
  (x.1 = 16 → gm_tk K n p = 5 → F.2.2.2.2.1 x.2.1 = 0) ∧ (x.1 = 17 → gm_tk K n p = 5 → F.2.2.2.2.1 x.2.1 = nI x.2.2.1)
def gm_ok (K V : Nat → Int32) (n : Nat) (F : gm_A) (NF : Nat) : Nat → Nat → List gm_I → Nat → Nat → Nat → Prop
  | 0, _, _, _, _, _ => False
  | _ + 1, p, [], cc, lc, fc => gm_inv K V n p [] cc lc fc ∧ fc = NF
  | m + 1, p, x :: S, cc, lc, fc => gm_inv K V n p (x :: S) cc lc fc ∧ gm_sc K n F p x ∧
    gm_d K V n (fun _ _ => False) (fun p' S' lc' fc' b es lw _ fw => b = false ∧ gm_up F cc fc p' es lw none fw = F ∧ gm_ok K V n F NF m p' S' (cc + es.length) lc' fc') p x S cc lc fc
/-! writes that write what stands there -/
theorem gu_fix1 {F : Nat → Int32} {k : Nat} {v : Int32} (h : F k = v) : upd F k v = F := by
  funext j
  by_cases z : j = k
  · subst z; rw [pk_us, h]
  · rw [pk_un z]
theorem gu_lo (g : gm_M → Int32) : ∀ (es : List gm_M) (f : Nat → Int32) (c j : Nat), j < c → gu_k g f c es j = f j
  | [], _, _, _, _ => rfl
  | x :: es, f, c, j, h => (gu_lo g es (upd f c (g x)) (c + 1) j (by omega)).trans (pk_un (by omega))
theorem gu_fix (g : gm_M → Int32) : ∀ (es : List gm_M) (F f : Nat → Int32) (c : Nat), (∀ j, c ≤ j → j < c + es.length → F j = gu_k g f c es j) → gu_k g F c es = F
  | [], _, _, _, _ => rfl
  | x :: es, F, f, c, h => by
    have h0 : F c = g x := by
      rw [h c (by omega) (by simp), gu_k, gu_lo g es _ _ _ (by omega), pk_us]
    rw [gu_k, gu_fix1 h0]
    refine gu_fix g es F (upd f c (g x)) (c + 1) fun j h1 h2 => ?_
    exact h j (by omega) (by simp only [List.length_cons]; omega)
def gm_np (l : Nat) : List gm_I → Prop
  | [] => True
  | x :: S => ((x.1 = 6 ∨ x.1 = 7 ∨ x.1 = 15) → l ≠ x.2.1) ∧ ((x.1 = 6 ∨ x.1 = 7 ∨ x.1 = 8 ∨ x.1 = 9 ∨ x.1 = 10) → l ≠ x.2.1 + 1) ∧ gm_np l S
def gm_nq (q : Nat) : List gm_I → Prop
  | [] => True
  | x :: S => ((x.1 = 16 ∨ x.1 = 17) → q ≠ x.2.1) ∧ gm_nq q S
theorem gm_lb_np {l : Nat} : ∀ {S : List gm_I} {b : Nat}, gm_lb b S → b ≤ l → gm_np l S
  | [], _, _, _ => trivial
  | x :: S, b, h, hl => by
    unfold gm_lb at h
    split at h
    · exact ⟨fun _ => by omega, fun _ => by omega, gm_lb_np h.2 (by omega)⟩
    · rename_i z
      exact ⟨fun y => absurd y (by omega), fun y => absurd y (by omega), gm_lb_np h hl⟩
theorem gm_pl_nq {q : Nat} : ∀ {S : List gm_I} {b : Nat}, gm_pl b S → b ≤ q → gm_nq q S
  | [], _, _, _ => trivial
  | x :: S, b, h, hl => by
    unfold gm_pl at h
    split at h
    · exact ⟨fun _ => by omega, gm_pl_nq h.2 (by omega)⟩
    · rename_i z
      exact ⟨fun y => absurd y z, gm_pl_nq h hl⟩
/-! the shapes last -/
def gm_st (K V : Nat → Int32) (n : Nat) : gm_K Prop := fun p' S' lc' fc' _ _ _ _ _ =>
  gm_sh S' ∧ gm_lb lc' S' ∧ gm_pl p' S' ∧ gm_va K V n p' S' ∧ fc' ≤ 4
theorem gs_stm {K V : Nat → Int32} {n p : Nat} {S : List gm_I} {cc lc fc : Nat} (ht : gm_tok K V n) (hw : gm_nw S) (h1 : gm_sh S) (h2 : gm_lb lc S) (h3 : gm_pl p S) (h4 : gm_va K V n p S) (h5 : fc ≤ 4) :
    gm_stm K V n (fun _ _ => True) (gm_st K V n) p S cc lc fc := by
  have a1 : gm_pl (p + 1) S := gm_pl_up (by omega) h3
  have a2 : gm_pl (p + 2) S := gm_pl_up (by omega) h3
  have b1 : gm_va K V n (p + 1) S := gm_va_up (by omega) h4
  have b2 : gm_va K V n (p + 2) S := gm_va_up (by omega) h4
  unfold gm_stm
  repeat' split
  all_goals try trivial
  all_goals try (cases hO : gm_opn S)
  all_goals
    have hp := gm_tk_lt (by assumption : gm_tk K n p = _) (by decide)
    have hk := ht p hp
    try have hq := gm_tk_lt (by assumption : gm_tk K n (p + 1) = _) (by decide)
    simp_all [gm_brk, gm_st, gm_sh, gm_nw, gm_lb, gm_pl, gm_va, gm_vl, gm_ve, gm_tk]
  all_goals try omega
  all_goals
    obtain ⟨u, hu, e⟩ := hk.2
    exact ⟨u, hu, e, by rw [e, nI_clamp (by omega)]⟩
theorem gs_una {K V : Nat → Int32} {n p : Nat} {S : List gm_I} {cc lc fc : Nat} (ht : gm_tok K V n) (h1 : gm_sh S) (h2 : gm_lb lc S) (h3 : gm_pl p S) (h4 : gm_va K V n p S) (h5 : fc ≤ 4) :
    gm_una K V n (fun _ _ => True) (gm_st K V n) p S lc fc := by
  have a1 : gm_pl (p + 1) S := gm_pl_up (by omega) h3
  have a2 : gm_pl (p + 2) S := gm_pl_up (by omega) h3
  have b1 : gm_va K V n (p + 1) S := gm_va_up (by omega) h4
  have b2 : gm_va K V n (p + 2) S := gm_va_up (by omega) h4
  unfold gm_una
  repeat' split
  all_goals try trivial
  all_goals
    have hp := gm_tk_lt (by assumption : gm_tk K n p = _) (by decide)
    have hk := ht p hp
    try have hq := gm_tk_lt (by assumption : gm_tk K n (p + 1) = _) (by decide)
    simp_all [gm_brk, gm_st, gm_sh, gm_nw, gm_lb, gm_pl, gm_va, gm_vl, gm_ve, gm_tk]
theorem gm_str_k {k : Nat} (hk : k ≤ 41) (h : 1 ≤ gm_str (nI k)) : 13 ≤ k ∧ k ≤ 31 := by
  unfold gm_str at h
  rw [nI_clamp (by omega)] at h
  repeat' split at h
  all_goals omega
theorem gm_str_le (t : Int32) : gm_str t ≤ 10 := by
  unfold gm_str
  repeat' split
  all_goals omega
theorem gs_bin {K V : Nat → Int32} {n p w : Nat} {S : List gm_I} {lc fc : Nat} (ht : gm_tok K V n) (hw : 1 ≤ w) (hw' : w ≤ 11) (h1 : gm_sh S) (h2 : gm_lb lc S) (h3 : gm_pl p S) (h4 : gm_va K V n p S) (h5 : fc ≤ 4) :
    gm_bin K n (gm_st K V n) p w S lc fc := by
  have a1 : gm_pl (p + 1) S := gm_pl_up (by omega) h3
  have b1 : gm_va K V n (p + 1) S := gm_va_up (by omega) h4
  unfold gm_bin
  split
  · exact ⟨h1, h2, h3, h4, h5⟩
  · rename_i hs
    have hp : p < n := by
      by_cases z : p < n
      · exact z
      · rw [show gm_tk K n p = -1 from if_neg z, gm_str0] at hs
        omega
    have hk := ht p hp
    have hle := gm_str_le (K p)
    obtain ⟨⟨k, hk1, hk2⟩, -⟩ := hk
    rw [gm_tk_K hp, hk2] at hs
    have hr := gm_str_k hk1 (by omega)
    have hkc : (nI k).toNatClampNeg = k := nI_clamp (by omega)
    repeat' split
    · simp [gm_brk, gm_st, gm_sh, gm_nw, gm_lb, gm_pl, gm_va, gm_vl, gm_ve, a1, b1, h1, h2, h5, hw, hw']
    · simp [gm_brk, gm_st, gm_sh, gm_nw, gm_lb, gm_pl, gm_va, gm_vl, gm_ve, a1, b1, h1, h2, h5, hw, hw']
    · rename_i n13 n14
      rw [gm_tk_K hp, hk2] at n13 n14 ⊢
      have e13 : k ≠ 13 := fun z => n13 (by rw [z]; rfl)
      have e14 : k ≠ 14 := fun z => n14 (by rw [z]; rfl)
      rw [hk2] at hle
      simp [gm_brk, gm_st, gm_sh, gm_nw, gm_lb, gm_pl, gm_va, gm_vl, gm_ve, a1, b1, h1, h2, h5, hw, hw', hkc, hp, hk2]
      omega
theorem gs_prg {K V : Nat → Int32} {n p : Nat} {S : List gm_I} {lc fc : Nat} (h5 : fc ≤ 4) (h0 : S = []) :
    gm_prg K V n (fun _ _ => True) (gm_st K V n) p S lc fc := by
  subst h0
  unfold gm_prg
  repeat' split
  all_goals try trivial
  all_goals
    simp [gm_brk, gm_st, gm_sh, gm_nw, gm_lb, gm_pl, gm_va, gm_vl, gm_ve]
    omega
theorem gs_d {K V : Nat → Int32} {n p : Nat} {x : gm_I} {S : List gm_I} {cc lc fc : Nat} (ht : gm_tok K V n) (hn : p ≤ n) (h1 : gm_sh (x :: S)) (h2 : gm_lb lc (x :: S)) (h3 : gm_pl p (x :: S)) (h4 : gm_va K V n p (x :: S)) (h5 : fc ≤ 4) :
    gm_d K V n (fun _ _ => True) (gm_st K V n) p x S cc lc fc := by
  obtain ⟨t, a, b, e, v⟩ := x
  obtain ⟨q0, qw, q1⟩ := h1
  obtain ⟨v1, v2⟩ := h4
  unfold gm_d
  dsimp only at *
  by_cases z : t = 1
  · subst z; rw [if_pos rfl]
    exact gs_prg h5 (q0 rfl)
  rw [if_neg z]
  by_cases z : t = 2
  · subst z; rw [if_pos rfl]
    simp_all [gm_brk, gm_st, gm_sh, gm_nw, gm_lb, gm_pl, gm_va, gm_vl, gm_ve]
  rw [if_neg z]
  by_cases z : t = 3
  · subst z; rw [if_pos rfl]
    split
    · have a1 : gm_pl (p + 1) S := gm_pl_up (b := p) (by omega) (by simpa [gm_pl] using h3)
      have b1 : gm_va K V n (p + 1) S := gm_va_up (by omega) v2
      simp_all [gm_brk, gm_st, gm_sh, gm_nw, gm_lb, gm_pl, gm_va, gm_vl, gm_ve]
    · exact gs_stm ht ⟨by decide, qw (by omega)⟩ ⟨q0, qw, q1⟩ h2 h3 ⟨v1, v2⟩ h5
  rw [if_neg z]
  by_cases z : t = 4
  · subst z; rw [if_pos rfl]
    exact gs_stm ht (qw (by omega)) q1 (by simpa [gm_lb] using h2) (by simpa [gm_pl] using h3) v2 h5
  rw [if_neg z]
  by_cases z : t = 5
  · subst z; rw [if_pos rfl]
    have a1 : gm_pl (p + 1) S := gm_pl_up (b := p) (by omega) (by simpa [gm_pl] using h3)
    have b1 : gm_va K V n (p + 1) S := gm_va_up (by omega) v2
    split
    · simp_all [gm_brk, gm_st, gm_sh, gm_nw, gm_lb, gm_pl, gm_va, gm_vl, gm_ve]
    · trivial
  rw [if_neg z]
  by_cases z : t = 6
  · subst z; rw [if_pos rfl]
    simp_all [gm_brk, gm_st, gm_sh, gm_nw, gm_lb, gm_pl, gm_va, gm_vl, gm_ve]
  rw [if_neg z]
  by_cases z : t = 7
  · subst z; rw [if_pos rfl]
    have a1 : gm_pl (p + 1) S := gm_pl_up (b := p) (by omega) (by simpa [gm_pl] using h3)
    have b1 : gm_va K V n (p + 1) S := gm_va_up (by omega) v2
    have c1 := gm_lb_up (b := a) (c := lc) (S := S) (by simp [gm_lb] at h2; omega) (by simp [gm_lb] at h2; exact h2.2)
    split
    · simp_all [gm_brk, gm_st, gm_sh, gm_nw, gm_lb, gm_pl, gm_va, gm_vl, gm_ve]
    · simp_all [gm_brk, gm_st, gm_sh, gm_nw, gm_lb, gm_pl, gm_va, gm_vl, gm_ve]
  rw [if_neg z]
  by_cases z : t = 8
  · subst z; rw [if_pos rfl]
    have c1 := gm_lb_up (b := a) (c := lc) (S := S) (by simp [gm_lb] at h2; omega) (by simp [gm_lb] at h2; exact h2.2)
    simp_all [gm_brk, gm_st, gm_sh, gm_nw, gm_lb, gm_pl, gm_va, gm_vl, gm_ve]
  rw [if_neg z]
  by_cases z : t = 9
  · subst z; rw [if_pos rfl]
    simp_all [gm_brk, gm_st, gm_sh, gm_nw, gm_lb, gm_pl, gm_va, gm_vl, gm_ve]
  rw [if_neg z]
  by_cases z : t = 10
  · subst z; rw [if_pos rfl]
    have c1 := gm_lb_up (b := a) (c := lc) (S := S) (by simp [gm_lb] at h2; omega) (by simp [gm_lb] at h2; exact h2.2)
    simp_all [gm_brk, gm_st, gm_sh, gm_nw, gm_lb, gm_pl, gm_va, gm_vl, gm_ve]
  rw [if_neg z]
  by_cases z : t = 11 ∨ t = 19 ∨ t = 20
  · rw [if_pos z]
    rcases z with z | z | z <;> subst z <;> simp_all [gm_st, gm_lb, gm_pl]
  rw [if_neg z]
  by_cases z : t = 12
  · subst z; rw [if_pos rfl]
    exact gs_una (cc := cc) ht ⟨by simp, by simp, q1⟩ (by simpa [gm_lb] using h2) (by simpa [gm_pl] using h3) ⟨by simpa [gm_vl] using v1, v2⟩ h5
  rw [if_neg z]
  by_cases z : t = 13
  · subst z; rw [if_pos rfl]
    have v1' : 1 ≤ a ∧ a ≤ 11 := by simpa [gm_vl] using v1
    exact gs_bin ht v1'.1 v1'.2 q1 (by simpa [gm_lb] using h2) (by simpa [gm_pl] using h3) v2 h5
  rw [if_neg z]
  by_cases z : t = 14
  · subst z; rw [if_pos rfl]
    exact gs_una (cc := cc) ht q1 (by simpa [gm_lb] using h2) (by simpa [gm_pl] using h3) v2 h5
  rw [if_neg z]
  by_cases z : t = 15
  · subst z; rw [if_pos rfl]
    have c1 := gm_lb_up (b := a) (c := lc) (S := S) (by simp [gm_lb] at h2; omega) (by simp [gm_lb] at h2; exact h2.2)
    simp_all [gm_brk, gm_st, gm_sh, gm_nw, gm_lb, gm_pl, gm_va, gm_vl, gm_ve]
  rw [if_neg z]
  by_cases z : t = 16
  · subst z; rw [if_pos rfl]
    have h3' : a < p ∧ gm_pl a S := by simpa [gm_pl] using h3
    have a0 : gm_pl p S := gm_pl_up (by omega) h3'.2
    have a1 : gm_pl (p + 1) S := gm_pl_up (by omega) h3'.2
    have b1 : gm_va K V n (p + 1) S := gm_va_up (by omega) v2
    split
    · simp_all [gm_brk, gm_st, gm_sh, gm_nw, gm_lb, gm_pl, gm_va, gm_vl, gm_ve]
    · simp_all [gm_brk, gm_st, gm_sh, gm_nw, gm_lb, gm_pl, gm_va, gm_vl, gm_ve]
      omega
  rw [if_neg z]
  by_cases z : t = 17
  · subst z; rw [if_pos rfl]
    have h3' : a < p ∧ gm_pl a S := by simpa [gm_pl] using h3
    have a1 : gm_pl (p + 1) S := gm_pl_up (by omega) h3'.2
    have b1 : gm_va K V n (p + 1) S := gm_va_up (by omega) v2
    repeat' split
    · simp_all [gm_brk, gm_st, gm_sh, gm_nw, gm_lb, gm_pl, gm_va, gm_vl, gm_ve]
    · simp_all [gm_brk, gm_st, gm_sh, gm_nw, gm_lb, gm_pl, gm_va, gm_vl, gm_ve]
      omega
    · trivial
  rw [if_neg z]
  by_cases z : t = 18
  · subst z; rw [if_pos rfl]
    simp_all [gm_brk, gm_st, gm_sh, gm_nw, gm_lb, gm_pl, gm_va, gm_vl, gm_ve]
  rw [if_neg z]
  trivial
theorem gs2_stm {K V : Nat → Int32} {n p : Nat} {S : List gm_I} {cc lc fc : Nat} (hl : gm_sl S) (h : gm_s2 S) : gm_stm K V n (fun _ _ => True) (fun _ S' _ _ _ _ _ _ _ => gm_s2 S') p S cc lc fc := by
  have hh := gm_sl_hd hl
  unfold gm_stm
  repeat' split
  all_goals try trivial
  all_goals try (cases hO : gm_opn S)
  all_goals simp [gm_brk, gm_s2, gm_sl, gm_hd_c, gm_hd_n, hl, h, hh]
theorem gs2_una {K V : Nat → Int32} {n p : Nat} {S : List gm_I} {lc fc : Nat} (hh : ¬ gm_hd S = 18) (h : gm_s2 S) : gm_una K V n (fun _ _ => True) (fun _ S' _ _ _ _ _ _ _ => gm_s2 S') p S lc fc := by
  unfold gm_una
  repeat' split
  all_goals try trivial
  all_goals simp [gm_s2, gm_sl, gm_hd_c, gm_hd_n, h, hh]
theorem gs2_bin {K : Nat → Int32} {n p w : Nat} {S : List gm_I} {lc fc : Nat} (hw : 1 ≤ w) (hh : ¬ gm_hd S = 18) (h : gm_s2 S) : gm_bin K n (fun _ S' _ _ _ _ _ _ _ => gm_s2 S') p w S lc fc := by
  unfold gm_bin
  split
  · exact h
  · rename_i hs
    have hk : (gm_tk K n p).toNatClampNeg ≠ 39 := by
      intro z
      unfold gm_str at hs
      rw [z] at hs
      simp at hs
      omega
    repeat' split
    all_goals simp [gm_s2, gm_sl, gm_hd_c, gm_hd_n, h, hk, hh]
theorem gs2_prg {K V : Nat → Int32} {n p : Nat} {S : List gm_I} {lc fc : Nat} (h0 : S = []) : gm_prg K V n (fun _ _ => True) (fun _ S' _ _ _ _ _ _ _ => gm_s2 S') p S lc fc := by
  subst h0
  unfold gm_prg
  repeat' split
  all_goals try trivial
  all_goals simp [gm_s2, gm_sl, gm_hd_c, gm_hd_n]
theorem gs2_d {K V : Nat → Int32} {n p : Nat} {x : gm_I} {S : List gm_I} {cc lc fc : Nat} (h0 : x.1 = 1 → S = []) (h13 : x.1 = 13 → 1 ≤ x.2.1) (h : gm_s2 (x :: S)) : gm_d K V n (fun _ _ => True) (fun _ S' _ _ _ _ _ _ _ => gm_s2 S') p x S cc lc fc := by
  obtain ⟨t, a, b, e, v⟩ := x
  obtain ⟨q1, q2, q4, q3⟩ := h
  unfold gm_d
  dsimp only at *
  by_cases z : t = 1
  · subst z; rw [if_pos rfl]
    exact gs2_prg (h0 rfl)
  rw [if_neg z]
  by_cases z : t = 2
  · subst z; rw [if_pos rfl]
    repeat' split
    all_goals first | trivial | exact q3 | (simp [gm_s2, gm_sl, gm_hd_c, gm_hd_n, q3]; done) | (have q1' := q1 (by simp); have q5 := gm_sl_hd q1'; simp [gm_s2, gm_sl, gm_hd_c, gm_hd_n, q3, q1', q5])
  rw [if_neg z]
  by_cases z : t = 3
  · subst z; rw [if_pos rfl]
    split
    · exact q3
    · exact gs2_stm ⟨by simp, q1 (by simp)⟩ ⟨fun _ => q1 (by simp), by simp, fun z => absurd z (gm_sl_hd (q1 (by simp))), q3⟩
  rw [if_neg z]
  by_cases z : t = 4
  · subst z; rw [if_pos rfl]
    exact gs2_stm (q1 (by simp)) q3
  rw [if_neg z]
  by_cases z : t = 5
  · subst z; rw [if_pos rfl]
    repeat' split
    all_goals first | trivial | exact q3 | (simp [gm_s2, gm_sl, gm_hd_c, gm_hd_n, q3]; done) | (have q1' := q1 (by simp); have q5 := gm_sl_hd q1'; simp [gm_s2, gm_sl, gm_hd_c, gm_hd_n, q3, q1', q5])
  rw [if_neg z]
  by_cases z : t = 6
  · subst z; rw [if_pos rfl]
    repeat' split
    all_goals first | trivial | exact q3 | (simp [gm_s2, gm_sl, gm_hd_c, gm_hd_n, q3]; done) | (have q1' := q1 (by simp); have q5 := gm_sl_hd q1'; simp [gm_s2, gm_sl, gm_hd_c, gm_hd_n, q3, q1', q5])
  rw [if_neg z]
  by_cases z : t = 7
  · subst z; rw [if_pos rfl]
    repeat' split
    all_goals first | trivial | exact q3 | (simp [gm_s2, gm_sl, gm_hd_c, gm_hd_n, q3]; done) | (have q1' := q1 (by simp); have q5 := gm_sl_hd q1'; simp [gm_s2, gm_sl, gm_hd_c, gm_hd_n, q3, q1', q5])
  rw [if_neg z]
  by_cases z : t = 8
  · subst z; rw [if_pos rfl]
    repeat' split
    all_goals first | trivial | exact q3 | (simp [gm_s2, gm_sl, gm_hd_c, gm_hd_n, q3]; done) | (have q1' := q1 (by simp); have q5 := gm_sl_hd q1'; simp [gm_s2, gm_sl, gm_hd_c, gm_hd_n, q3, q1', q5])
  rw [if_neg z]
  by_cases z : t = 9
  · subst z; rw [if_pos rfl]
    repeat' split
    all_goals first | trivial | exact q3 | (simp [gm_s2, gm_sl, gm_hd_c, gm_hd_n, q3]; done) | (have q1' := q1 (by simp); have q5 := gm_sl_hd q1'; simp [gm_s2, gm_sl, gm_hd_c, gm_hd_n, q3, q1', q5])
  rw [if_neg z]
  by_cases z : t = 10
  · subst z; rw [if_pos rfl]
    repeat' split
    all_goals first | trivial | exact q3 | (simp [gm_s2, gm_sl, gm_hd_c, gm_hd_n, q3]; done) | (have q1' := q1 (by simp); have q5 := gm_sl_hd q1'; simp [gm_s2, gm_sl, gm_hd_c, gm_hd_n, q3, q1', q5])
  rw [if_neg z]
  by_cases z : t = 11 ∨ t = 19 ∨ t = 20
  · rw [if_pos z]; exact q3
  rw [if_neg z]
  by_cases z : t = 12
  · subst z; rw [if_pos rfl]
    exact gs2_una (by simp [gm_hd_c]) ⟨by simp, by simp, fun z => absurd (q4 z) (by decide), q3⟩
  rw [if_neg z]
  by_cases z : t = 13
  · subst z; rw [if_pos rfl]
    exact gs2_bin (h13 rfl) (fun z => absurd (q4 z) (by decide)) q3
  rw [if_neg z]
  by_cases z : t = 14
  · subst z; rw [if_pos rfl]
    exact gs2_una (fun z => absurd (q4 z) (by decide)) q3
  rw [if_neg z]
  by_cases z : t = 15
  · subst z; rw [if_pos rfl]
    repeat' split
    all_goals first | trivial | exact q3 | (simp [gm_s2, gm_sl, gm_hd_c, gm_hd_n, q3]; done) | (have q1' := q1 (by simp); have q5 := gm_sl_hd q1'; simp [gm_s2, gm_sl, gm_hd_c, gm_hd_n, q3, q1', q5])
  rw [if_neg z]
  by_cases z : t = 16
  · subst z; rw [if_pos rfl]
    repeat' split
    all_goals first | trivial | exact q3 | (simp [gm_s2, gm_sl, gm_hd_c, gm_hd_n, q3]; done) | (have q1' := q1 (by simp); have q5 := gm_sl_hd q1'; simp [gm_s2, gm_sl, gm_hd_c, gm_hd_n, q3, q1', q5])
  rw [if_neg z]
  by_cases z : t = 17
  · subst z; rw [if_pos rfl]
    repeat' split
    all_goals first | trivial | exact q3 | (simp [gm_s2, gm_sl, gm_hd_c, gm_hd_n, q3]; done) | (have q1' := q1 (by simp); have q5 := gm_sl_hd q1'; simp [gm_s2, gm_sl, gm_hd_c, gm_hd_n, q3, q1', q5])
  rw [if_neg z]
  by_cases z : t = 18
  · subst z; rw [if_pos rfl]
    repeat' split
    all_goals first | trivial | exact q3 | (simp [gm_s2, gm_sl, gm_hd_c, gm_hd_n, q3]; done) | (have q1' := q1 (by simp); have q5 := gm_sl_hd q1'; simp [gm_s2, gm_sl, gm_hd_c, gm_hd_n, q3, q1', q5])
  rw [if_neg z]
  trivial
theorem gm_inv_d {K V : Nat → Int32} {n p : Nat} {x : gm_I} {S : List gm_I} {cc lc fc : Nat} (ht : gm_tok K V n) (h : gm_inv K V n p (x :: S) cc lc fc) :
    gm_d K V n (fun _ _ => True) (fun p' S' lc' fc' _ es _ _ _ => gm_inv K V n p' S' (cc + es.length) lc' fc' ∧ p ≤ p' ∧ gm_sm gw_m S' + 3 * (n - p') < gm_sm gw_m (x :: S) + 3 * (n - p) ∧ p + gm_sm gw_r (x :: S) ≤ p' + gm_sm gw_r S') p x S cc lc fc := by
  obtain ⟨hn, hl, h1, h2, h3, h4, h5, h6⟩ := h
  have v := h4.1
  have g2 := gs2_d (K := K) (V := V) (n := n) (p := p) (cc := cc) (lc := lc) (fc := fc) h1.1 (fun z => by unfold gm_vl at v; simp [z] at v; exact v.1) h6
  refine gm_and (E' := fun _ _ => True) (gm_and (E2 := fun _ _ => True) (C2 := fun p' S' lc' fc' _ es _ _ _ => (gm_lin p' S' (cc + es.length) lc' ∧ p ≤ p' ∧ p' ≤ n ∧ gm_sm gw_m S' + 3 * (n - p') < gm_sm gw_m (x :: S) + 3 * (n - p) ∧ p + gm_sm gw_r (x :: S) ≤ p' + gm_sm gw_r S') ∧ gm_s2 S') (gl_d hn hl h1.1 (fun z => ?_) (fun z => ?_) (fun z => ?_)) g2 (fun _ _ _ _ => trivial) (fun p' S' lc' fc' o es lw aw fw a b => ⟨a, b⟩)) (gs_d (cc := cc) ht hn h1 h2 h3 h4 h5) (fun _ _ _ _ => trivial) (fun p' S' lc' fc' o es lw aw fw a b => ?_)
  · unfold gm_vl at v
    rw [if_pos z] at v
    exact v
  · unfold gm_vl at v
    simp [z] at v
    exact v.1
  · unfold gm_vl at v
    simp [z] at v
    exact v.2.1
  · exact ⟨⟨a.1.2.2.1, a.1.1, b.1, b.2.1, b.2.2.1, b.2.2.2.1, b.2.2.2.2, a.2⟩, a.1.2.1, a.1.2.2.2.1, a.1.2.2.2.2⟩
