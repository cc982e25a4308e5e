/-! a live state of Y along G's stack -/
def zlF (K V : Nat → Int32) (n : Nat) (F : gm_A) (NF a q : Nat) (S : List gm_I) : Prop :=
  ∃ m cc lc fc, m ≤ 400 ∧ gm_ok K V n F NF m q (gi_E 1 :: gi_X 5 :: gi_W a q :: S) (cc + 1) lc fc ∧ F.2.2.2.1 a = nI cc ∧ F.1 cc = nI 63 ∧ F.2.2.1 cc = nI (q - 2) ∧ 2 ≤ q ∧ q ≤ 120 ∧ cc < 360
def zl (K V : Nat → Int32) (n : Nat) (F : gm_A) (NF : Nat) (Tb : List Nat) (hb : Nat) : List gm_I → List Nat → Nat → Prop
  | [], _, _ => False
  | x :: S, T, h =>
    if x.1 = 1 then False
    else if x.1 = 2 then S = [gi_P] ∧ T = Tb ∧ h = hb
    else if x.1 = 8 then zl K V n F NF Tb hb S T h
    else if x.1 = 10 then ∃ q e T', T = e :: T' ∧ q < 1024 ∧ yp_e e (9 + 32 * q) ∧ zlF K V n F NF x.2.1 q S ∧ zl K V n F NF Tb hb S T' h
    else if x.1 = 7 then ∃ e T', T = e :: T' ∧ yp_e e 39 ∧ zl K V n F NF Tb hb S T' h
    else if x.1 = 12 then (x.2.1 = 1 ∧ ∃ e T', T = e :: T' ∧ yp_e e 16 ∧ zl K V n F NF Tb hb S T' (h + 1)) ∨ (x.2.1 ≠ 1 ∧ ∃ e f T', T = e :: f :: T' ∧ yp_e e 18 ∧ yp_e f (17 + 32 * x.2.1) ∧ zl K V n F NF Tb hb S T' (h + 1))
    else if x.1 = 14 then ∃ e T', T = e :: T' ∧ yp_e e 18 ∧ zl K V n F NF Tb hb S T' (h + 1)
    else if x.1 = 6 then ∃ e T' h', h = h' + 1 ∧ T = e :: T' ∧ yp_e e 6 ∧ zl K V n F NF Tb hb S T' h'
    else if x.1 = 9 then ∃ e T' h', h = h' + 1 ∧ T = e :: T' ∧ yp_e e (8 + 32 * x.2.2.1) ∧ zlF K V n F NF x.2.1 x.2.2.1 S ∧ zl K V n F NF Tb hb S T' h'
    else if x.1 = 19 then ∃ e T' h', h = h' + 1 ∧ T = e :: T' ∧ yp_e e x.2.2.2.1 ∧ (x.2.1 ≤ 31 → 1 ≤ h') ∧ zl K V n F NF Tb hb S T' h'
    else if x.1 = 20 then ∃ e T' h', h = h' + 2 ∧ T = e :: T' ∧ yp_e e x.2.2.2.1 ∧ zl K V n F NF Tb hb S T' h'
    else if x.1 = 18 then ∃ e T' h0 c, h = h0 + c ∧ T = e :: T' ∧ e = yp_n 25 x.2.1 h0 ∧ F.2.2.2.2.2.2.1 (V x.2.1).toNatClampNeg = nI c ∧ c ≤ 3 ∧ zl K V n F NF Tb hb S T' (h0 + 1)
    else if x.1 = 16 then ∃ e T' c, T = e :: T' ∧ yp_e e (23 + 32 * x.2.1) ∧ F.2.2.2.2.2.2.1 (V x.2.1).toNatClampNeg = nI c ∧ c ≤ 3 ∧ (∃ v S2, S = gi_C x.2.1 v :: S2) ∧ zl K V n F NF Tb hb S T' (h + c)
    else if x.1 = 17 then ∃ e T' c h0, h = h0 + x.2.2.1 ∧ T = e :: T' ∧ yp_e e (24 + 32 * x.2.1) ∧ F.2.2.2.2.2.2.1 (V x.2.1).toNatClampNeg = nI c ∧ c ≤ 3 ∧ (∃ v S2, S = gi_C x.2.1 v :: S2) ∧ zl K V n F NF Tb hb S T' (h0 + c)
    else ∃ e T', T = e :: T' ∧ yp_e e (yd_c x) ∧ ((x.1 = 11 ∨ x.1 = 13 ∨ x.1 = 15) → 1 ≤ h) ∧ zl K V n F NF Tb hb S T' h
section
variable {K V : Nat → Int32} {n : Nat} {F : gm_A} {NF : Nat} {Tb : List Nat} {hb : Nat}
theorem zl_len : ∀ {S : List gm_I} {T : List Nat} {h : Nat}, zl K V n F NF Tb hb S T h → T.length ≤ Tb.length + gm_sm gw_c S + gm_sm gw_r S
  | [], _, _, h => h.elim
  | x :: S, T, hh, h => by
    have ih := @zl_len S
    unfold zl at h
    obtain ⟨t, a, b, d, v⟩ := x
    dsimp only at h
    by_cases z : t = 1
    · subst z; rw [if_pos rfl] at h
      exact h.elim
    rw [if_neg z] at h
    by_cases z : t = 2
    · subst z; rw [if_pos rfl] at h
      obtain ⟨rfl, rfl, rfl⟩ := h
      omega
    rw [if_neg z] at h
    by_cases z : t = 8
    · subst z; rw [if_pos rfl] at h
      have := ih h
      simp only [gm_sm]; omega
    rw [if_neg z] at h
    by_cases z : t = 10
    · subst z; rw [if_pos rfl] at h
      obtain ⟨q, e, T', rfl, _, _, _, h⟩ := h
      have := ih h
      simp only [gm_sm, List.length_cons] at *; simp [gw_c, gw_r]; omega
    rw [if_neg z] at h
    by_cases z : t = 7
    · subst z; rw [if_pos rfl] at h
      obtain ⟨e, T', rfl, _, h⟩ := h
      have := ih h
      simp only [gm_sm, List.length_cons] at *; simp [gw_c, gw_r]; omega
    rw [if_neg z] at h
    by_cases z : t = 12
    · subst z; rw [if_pos rfl] at h
      rcases h with ⟨_, e, T', rfl, _, h⟩ | ⟨_, e, f, T', rfl, _, _, h⟩
      · have := ih h; simp only [gm_sm, List.length_cons] at *; simp [gw_c, gw_r]; omega
      · have := ih h; simp only [gm_sm, List.length_cons] at *; simp [gw_c, gw_r]; omega
    rw [if_neg z] at h
    by_cases z : t = 14
    · subst z; rw [if_pos rfl] at h
      obtain ⟨e, T', rfl, _, h⟩ := h
      have := ih h
      simp only [gm_sm, List.length_cons] at *; simp [gw_c, gw_r]; omega
    rw [if_neg z] at h
    by_cases z : t = 6
    · subst z; rw [if_pos rfl] at h
      obtain ⟨e, T', h', rfl, rfl, _, h⟩ := h
      have := ih h
      simp only [gm_sm, List.length_cons] at *; simp [gw_c, gw_r]; omega
    rw [if_neg z] at h
    by_cases z : t = 9
    · subst z; rw [if_pos rfl] at h
      obtain ⟨e, T', h', rfl, rfl, _, _, h⟩ := h
      have := ih h
      simp only [gm_sm, List.length_cons] at *; simp [gw_c, gw_r]; omega
    rw [if_neg z] at h
    by_cases z : t = 19
    · subst z; rw [if_pos rfl] at h
      obtain ⟨e, T', h', rfl, rfl, _, _, h⟩ := h
      have := ih h
      simp only [gm_sm, List.length_cons] at *; simp [gw_c, gw_r]; omega
    rw [if_neg z] at h
    by_cases z : t = 20
    · subst z; rw [if_pos rfl] at h
      obtain ⟨e, T', h', rfl, rfl, _, h⟩ := h
      have := ih h
      simp only [gm_sm, List.length_cons] at *; simp [gw_c, gw_r]; omega
    rw [if_neg z] at h
    by_cases z : t = 18
    · subst z; rw [if_pos rfl] at h
      obtain ⟨e, T', h0, c, rfl, rfl, _, _, _, h⟩ := h
      have := ih h
      simp only [gm_sm, List.length_cons] at *; simp [gw_c, gw_r]; omega
    rw [if_neg z] at h
    by_cases z : t = 16
    · subst z; rw [if_pos rfl] at h
      obtain ⟨e, T', c, rfl, _, _, _, _, h⟩ := h
      have := ih h
      simp only [gm_sm, List.length_cons] at *; simp [gw_c, gw_r]; omega
    rw [if_neg z] at h
    by_cases z : t = 17
    · subst z; rw [if_pos rfl] at h
      obtain ⟨e, T', c, h0, rfl, rfl, _, _, _, _, h⟩ := h
      have := ih h
      simp only [gm_sm, List.length_cons] at *; simp [gw_c, gw_r]; omega
    rw [if_neg z] at h
    obtain ⟨e, T', rfl, _, _, h⟩ := h
    have := ih h
    have hw : 1 ≤ gw_c (t, a, b, d, v) + gw_r (t, a, b, d, v) := by
      simp only [gw_c, gw_r]
      repeat' split
      all_goals omega
    simp only [gm_sm, List.length_cons]
    omega
/-- heights: two for each value that waits, against the weights; a CALL on top holds its arguments besides -/
theorem zl_ht : ∀ {S : List gm_I} {T : List Nat} {h : Nat}, gm_s2 S → zl K V n F NF Tb hb S T h →
    (¬ gm_hd S = 18 → 2 * h + gm_sm gw_b S ≤ 2 * hb + gm_sm gw_a S) ∧ (∀ a v S2, S = gi_C a v :: S2 → ∃ h0 c, h = h0 + c ∧ c ≤ 3 ∧ F.2.2.2.2.2.2.1 (V a).toNatClampNeg = nI c ∧ 2 * h0 + 2 + gm_sm gw_b S2 ≤ 2 * hb + gm_sm gw_a S2)
  | [], _, _, _, h => h.elim
  | x :: S, T, hh, hs, h => by
    have ih := @zl_ht S
    have h2 := hs.2.2.2
    have h3 := hs.2.2.1
    unfold zl at h
    obtain ⟨t, a, b, d, v⟩ := x
    dsimp only at h
    by_cases z : t = 1
    · subst z; rw [if_pos rfl] at h
      exact h.elim
    rw [if_neg z] at h
    by_cases z : t = 2
    · subst z; rw [if_pos rfl] at h
      obtain ⟨rfl, rfl, rfl⟩ := h
      exact ⟨fun _ => by simp [gm_sm, gw_a, gw_b], fun a' v' S2 e => by simp at e⟩
    rw [if_neg z] at h
    by_cases z : t = 8
    · subst z; rw [if_pos rfl] at h
      skip
      have i := (ih h2 h).1 (fun z => absurd (h3 z) (by simp))
      exact ⟨fun _ => by simp only [gm_sm]; simp [gw_a, gw_b]; omega, fun a' v' S2 e => by simp at e⟩
    rw [if_neg z] at h
    by_cases z : t = 10
    · subst z; rw [if_pos rfl] at h
      obtain ⟨q, e, T', rfl, _, _, _, h⟩ := h
      have i := (ih h2 h).1 (fun z => absurd (h3 z) (by simp))
      exact ⟨fun _ => by simp only [gm_sm]; simp [gw_a, gw_b]; omega, fun a' v' S2 e => by simp at e⟩
    rw [if_neg z] at h
    by_cases z : t = 7
    · subst z; rw [if_pos rfl] at h
      obtain ⟨e, T', rfl, _, h⟩ := h
      have i := (ih h2 h).1 (fun z => absurd (h3 z) (by simp))
      exact ⟨fun _ => by simp only [gm_sm]; simp [gw_a, gw_b]; omega, fun a' v' S2 e => by simp at e⟩
    rw [if_neg z] at h
    by_cases z : t = 12
    · subst z; rw [if_pos rfl] at h
      rcases h with ⟨_, e, T', rfl, _, h⟩ | ⟨_, e, f, T', rfl, _, _, h⟩
      · have i := (ih h2 h).1 (fun z => absurd (h3 z) (by simp))
        exact ⟨fun _ => by simp only [gm_sm]; simp [gw_a, gw_b]; omega, fun a' v' S2 e => by simp at e⟩
      · have i := (ih h2 h).1 (fun z => absurd (h3 z) (by simp))
        exact ⟨fun _ => by simp only [gm_sm]; simp [gw_a, gw_b]; omega, fun a' v' S2 e => by simp at e⟩
    rw [if_neg z] at h
    by_cases z : t = 14
    · subst z; rw [if_pos rfl] at h
      obtain ⟨e, T', rfl, _, h⟩ := h
      have i := (ih h2 h).1 (fun z => absurd (h3 z) (by simp))
      exact ⟨fun _ => by simp only [gm_sm]; simp [gw_a, gw_b]; omega, fun a' v' S2 e => by simp at e⟩
    rw [if_neg z] at h
    by_cases z : t = 6
    · subst z; rw [if_pos rfl] at h
      obtain ⟨e, T', h', rfl, rfl, _, h⟩ := h
      have i := (ih h2 h).1 (fun z => absurd (h3 z) (by simp))
      exact ⟨fun _ => by simp only [gm_sm]; simp [gw_a, gw_b]; omega, fun a' v' S2 e => by simp at e⟩
    rw [if_neg z] at h
    by_cases z : t = 9
    · subst z; rw [if_pos rfl] at h
      obtain ⟨e, T', h', rfl, rfl, _, _, h⟩ := h
      have i := (ih h2 h).1 (fun z => absurd (h3 z) (by simp))
      exact ⟨fun _ => by simp only [gm_sm]; simp [gw_a, gw_b]; omega, fun a' v' S2 e => by simp at e⟩
    rw [if_neg z] at h
    by_cases z : t = 19
    · subst z; rw [if_pos rfl] at h
      obtain ⟨e, T', h', rfl, rfl, _, _, h⟩ := h
      have i := (ih h2 h).1 (fun z => absurd (h3 z) (by simp))
      exact ⟨fun _ => by simp only [gm_sm]; simp [gw_a, gw_b]; omega, fun a' v' S2 e => by simp at e⟩
    rw [if_neg z] at h
    by_cases z : t = 20
    · subst z; rw [if_pos rfl] at h
      obtain ⟨e, T', h', rfl, rfl, _, h⟩ := h
      have i := (ih h2 h).1 (fun z => absurd (h3 z) (by simp))
      exact ⟨fun _ => by simp only [gm_sm]; simp [gw_a, gw_b]; omega, fun a' v' S2 e => by simp at e⟩
    rw [if_neg z] at h
    by_cases z : t = 18
    · subst z; rw [if_pos rfl] at h
      obtain ⟨e, T', h0, c, rfl, rfl, _, hc, hc3, h⟩ := h
      have i := (ih h2 h).1 (fun z => absurd (h3 z) (by simp))
      refine ⟨fun z => absurd rfl z, fun a' v' S2 e => ?_⟩
      simp only [List.cons.injEq, Prod.mk.injEq] at e
      obtain ⟨⟨_, rfl, _⟩, rfl⟩ := e
      exact ⟨h0, c, rfl, hc3, hc, by omega⟩
    rw [if_neg z] at h
    by_cases z : t = 16
    · subst z; rw [if_pos rfl] at h
      obtain ⟨e, T', c, rfl, _, hc, hc3, ⟨v', S2, rfl⟩, h⟩ := h
      obtain ⟨h0, c', e1, hc', e2, i⟩ := (ih h2 h).2 _ _ _ rfl
      have : c = c' := (nI_eq (by omega) (by omega)).mp (hc.symm.trans e2)
      exact ⟨fun _ => by simp only [gm_sm]; simp [gw_a, gw_b]; omega, fun a' v' S2 e => by simp at e⟩
    rw [if_neg z] at h
    by_cases z : t = 17
    · subst z; rw [if_pos rfl] at h
      obtain ⟨e, T', c, h0', rfl, rfl, _, hc, hc3, ⟨v', S2, rfl⟩, h⟩ := h
      obtain ⟨h0, c', e1, hc', e2, i⟩ := (ih h2 h).2 _ _ _ rfl
      have : c = c' := (nI_eq (by omega) (by omega)).mp (hc.symm.trans e2)
      exact ⟨fun _ => by simp only [gm_sm]; simp [gw_a, gw_b]; omega, fun a' v' S2 e => by simp at e⟩
    rw [if_neg z] at h
    obtain ⟨e, T', rfl, _, _, h⟩ := h
    have i := (ih h2 h).1 (fun z => absurd (h3 z) (by dsimp only; omega))
    refine ⟨fun _ => ?_, fun a' v' S2 e => ?_⟩
    · have e1 : gw_a (t, a, b, d, v) = 0 ∧ gw_b (t, a, b, d, v) = 0 := by
        simp only [gw_a, gw_b]
        constructor
        all_goals repeat' split
        all_goals omega
      simp only [gm_sm, e1.1, e1.2]
      omega
    · simp only [List.cons.injEq, Prod.mk.injEq] at e
      omega
theorem zl_sl : ∀ {S : List gm_I} {T : List Nat} {h : Nat}, gm_sl S → zl K V n F NF Tb hb S T h → h = hb ∧ ∃ S1 x, x.1 = 2 ∧ S = S1 ++ [x, gi_P] ∧ yd_R false 3 Tb S1 T
  | [], _, _, _, h => h.elim
  | x :: S, T, hh, hs, h => by
    have ih := @zl_sl S
    unfold zl at h
    obtain ⟨t, a, b, d, v⟩ := x
    dsimp only at h
    by_cases z : t = 1
    · subst z; rw [if_pos rfl] at h
      exact h.elim
    rw [if_neg z] at h
    by_cases z : t = 2
    · subst z; rw [if_pos rfl] at h
      obtain ⟨rfl, rfl, rfl⟩ := h
      exact ⟨rfl, [], _, rfl, rfl, rfl⟩
    rw [if_neg z] at h
    by_cases z : t = 8
    · subst z; rw [if_pos rfl] at h
      skip
      obtain ⟨i1, S1, x, i2, i3, i4⟩ := ih hs.2 h
      have i5 : yd_R false 3 Tb ((8, a, b, d, v) :: S1) T := i4
      exact ⟨i1, (8, a, b, d, v) :: S1, x, i2, by rw [i3]; rfl, i5⟩
    rw [if_neg z] at h
    by_cases z : t = 10
    · subst z; rw [if_pos rfl] at h
      obtain ⟨q, e, T', rfl, hq, he, _, h⟩ := h
      obtain ⟨i1, S1, x, i2, i3, i4⟩ := ih hs.2 h
      have i5 : yd_R false 3 Tb ((10, a, b, d, v) :: S1) (e :: T') := Or.inr ⟨rfl, Or.inr ⟨rfl, q, e, T', rfl, hq, he, i4⟩⟩
      exact ⟨i1, (10, a, b, d, v) :: S1, x, i2, by rw [i3]; rfl, i5⟩
    rw [if_neg z] at h
    by_cases z : t = 7
    · subst z; rw [if_pos rfl] at h
      obtain ⟨e, T', rfl, he, h⟩ := h
      obtain ⟨i1, S1, x, i2, i3, i4⟩ := ih hs.2 h
      have i5 : yd_R false 3 Tb ((7, a, b, d, v) :: S1) (e :: T') := ⟨1, e, T', rfl, by decide, he, i4⟩
      exact ⟨i1, (7, a, b, d, v) :: S1, x, i2, by rw [i3]; rfl, i5⟩
    rw [if_neg z] at h
    by_cases z : t = 12
    · subst z; rw [if_pos rfl] at h
      exact absurd hs.1 (by simp)
    rw [if_neg z] at h
    by_cases z : t = 14
    · subst z; rw [if_pos rfl] at h
      exact absurd hs.1 (by simp)
    rw [if_neg z] at h
    by_cases z : t = 6
    · subst z; rw [if_pos rfl] at h
      exact absurd hs.1 (by simp)
    rw [if_neg z] at h
    by_cases z : t = 9
    · subst z; rw [if_pos rfl] at h
      exact absurd hs.1 (by simp)
    rw [if_neg z] at h
    by_cases z : t = 19
    · subst z; rw [if_pos rfl] at h
      exact absurd hs.1 (by simp)
    rw [if_neg z] at h
    by_cases z : t = 20
    · subst z; rw [if_pos rfl] at h
      exact absurd hs.1 (by simp)
    rw [if_neg z] at h
    by_cases z : t = 18
    · subst z; rw [if_pos rfl] at h
      exact absurd hs.1 (by simp)
    rw [if_neg z] at h
    by_cases z : t = 16
    · subst z; rw [if_pos rfl] at h
      exact absurd hs.1 (by simp)
    rw [if_neg z] at h
    by_cases z : t = 17
    · subst z; rw [if_pos rfl] at h
      exact absurd hs.1 (by simp)
    rw [if_neg z] at h
    have h34 : t = 3 ∨ t = 4 := by have := hs.1; dsimp only at this; omega
    obtain ⟨e, T', rfl, he, _, h⟩ := h
    obtain ⟨i1, S1, x, i2, i3, i4⟩ := ih hs.2 h
    refine ⟨i1, (t, a, b, d, v) :: S1, x, i2, by rw [i3]; rfl, yr_1 ?_ he i4⟩
    dsimp only
    omega
theorem zl_brk {pd : Int32} {l : Nat} {ol : List Nat} : ∀ {S : List gm_I} {T : List Nat} {h : Nat}, gm_sl S → zl K V n F NF Tb hb S T h → gm_opn S = l :: ol →
    ∃ S1 x S2 q e T2, x.1 = 10 ∧ x.2.1 = l ∧ S = S1 ++ x :: S2 ∧ yd_R false pd (e :: T2) S1 T ∧ q < 1024 ∧ yp_e e (9 + 32 * q) ∧ zlF K V n F NF l q S2 ∧ zl K V n F NF Tb hb S2 T2 h ∧ gm_sl S2
  | [], _, _, _, h, _ => h.elim
  | x :: S, T, hh, hs, h, ho => by
    have ih := @zl_brk pd l ol S
    unfold zl at h
    obtain ⟨t, a, b, d, v⟩ := x
    dsimp only at h
    by_cases z : t = 1
    · subst z; rw [if_pos rfl] at h
      exact h.elim
    rw [if_neg z] at h
    by_cases z : t = 2
    · subst z; rw [if_pos rfl] at h
      obtain ⟨rfl, rfl, rfl⟩ := h
      exact absurd ho (by simp [gm_opn])
    rw [if_neg z] at h
    by_cases z : t = 8
    · subst z; rw [if_pos rfl] at h
      skip
      obtain ⟨S1, x, S2, q, e', T2, i1, i2, i3, i4, i5⟩ := ih hs.2 h ho
      have i6 : yd_R false pd (e' :: T2) ((8, a, b, d, v) :: S1) T := i4
      exact ⟨(8, a, b, d, v) :: S1, x, S2, q, e', T2, i1, i2, by rw [i3]; rfl, i6, i5⟩
    rw [if_neg z] at h
    by_cases z : t = 10
    · subst z; rw [if_pos rfl] at h
      obtain ⟨q, e, T', rfl, hq, he, hF, h⟩ := h
      have e1 : a = l := by simpa [gm_opn] using congrArg List.head? ho
      subst e1
      exact ⟨[], _, S, q, e, T', rfl, rfl, rfl, rfl, hq, he, hF, h, hs.2⟩
    rw [if_neg z] at h
    by_cases z : t = 7
    · subst z; rw [if_pos rfl] at h
      obtain ⟨e, T', rfl, he, h⟩ := h
      obtain ⟨S1, x, S2, q, e', T2, i1, i2, i3, i4, i5⟩ := ih hs.2 h ho
      have i6 : yd_R false pd (e' :: T2) ((7, a, b, d, v) :: S1) (e :: T') := ⟨1, e, T', rfl, by decide, he, i4⟩
      exact ⟨(7, a, b, d, v) :: S1, x, S2, q, e', T2, i1, i2, by rw [i3]; rfl, i6, i5⟩
    rw [if_neg z] at h
    by_cases z : t = 12
    · subst z; rw [if_pos rfl] at h
      exact absurd hs.1 (by simp)
    rw [if_neg z] at h
    by_cases z : t = 14
    · subst z; rw [if_pos rfl] at h
      exact absurd hs.1 (by simp)
    rw [if_neg z] at h
    by_cases z : t = 6
    · subst z; rw [if_pos rfl] at h
      exact absurd hs.1 (by simp)
    rw [if_neg z] at h
    by_cases z : t = 9
    · subst z; rw [if_pos rfl] at h
      exact absurd hs.1 (by simp)
    rw [if_neg z] at h
    by_cases z : t = 19
    · subst z; rw [if_pos rfl] at h
      exact absurd hs.1 (by simp)
    rw [if_neg z] at h
    by_cases z : t = 20
    · subst z; rw [if_pos rfl] at h
      exact absurd hs.1 (by simp)
    rw [if_neg z] at h
    by_cases z : t = 18
    · subst z; rw [if_pos rfl] at h
      exact absurd hs.1 (by simp)
    rw [if_neg z] at h
    by_cases z : t = 16
    · subst z; rw [if_pos rfl] at h
      exact absurd hs.1 (by simp)
    rw [if_neg z] at h
    by_cases z : t = 17
    · subst z; rw [if_pos rfl] at h
      exact absurd hs.1 (by simp)
    rw [if_neg z] at h
    have h34 : t = 3 ∨ t = 4 := by have := hs.1; dsimp only at this; omega
    have ho' : gm_opn S = l :: ol := by rw [← ho]; exact (if_neg (by dsimp only; omega)).symm
    obtain ⟨e, T', rfl, he, _, h⟩ := h
    obtain ⟨S1, x, S2, q, e', T2, i1, i2, i3, i4, i5⟩ := ih hs.2 h ho'
    refine ⟨(t, a, b, d, v) :: S1, x, S2, q, e', T2, i1, i2, by rw [i3]; rfl, yr_1 ?_ he i4, i5⟩
    dsimp only
    omega
end
def frs (K V : Nat → Int32) (n : Nat) (F : gm_A) (NF : Nat) (rt : Nat → Int32) : Nat → List Nat → Nat → Nat → Prop
  | 0, Tb, hb, u => Tb = [yp_n 26 0 0] ∧ hb = 0 ∧ u = 0
  | b + 1, Tb, hb, u => ∃ m p S cc lc fc T' Tb' hb' u', Tb = yp_n 26 p hb :: T' ∧ gm_ok K V n F NF m p S cc lc fc ∧ m ≤ 400 ∧ rt (b + 1) = nI cc ∧ zl K V n F NF Tb' hb' S T' (hb + 1) ∧ frs K V n F NF rt b Tb' hb' u' ∧ u = m + u'
theorem frs_rt {K V : Nat → Int32} {n : Nat} {F : gm_A} {NF : Nat} {rt rt' : Nat → Int32} : ∀ (b : Nat) {Tb : List Nat} {hb u : Nat}, (∀ j, j ≤ b → rt' j = rt j) → frs K V n F NF rt b Tb hb u → frs K V n F NF rt' b Tb hb u
  | 0, _, _, _, _, h => h
  | b + 1, _, _, _, hr, ⟨m, p, S, cc, lc, fc, T', Tb', hb', u', h1, h2, h3, h4, h5, h6, h7⟩ => ⟨m, p, S, cc, lc, fc, T', Tb', hb', u', h1, h2, h3, (hr _ (Nat.le_refl _)).trans h4, h5, frs_rt b (fun j hj => hr j (by omega)) h6, h7⟩
theorem zl_bd {K V : Nat → Int32} {n : Nat} {F : gm_A} {NF m p : Nat} {S : List gm_I} {cc lc fc : Nat} {Tb T : List Nat} {hb h : Nat} (ht : gm_tok K V n) (hn : n ≤ 120) (hok : gm_ok K V n F NF m p S cc lc fc) (hz : zl K V n F NF Tb hb S T h) :
    T.length ≤ Tb.length + 120 ∧ h ≤ hb + 62 := by
  have hI := gm_ok_inv hok
  have h1 := zl_len hz
  have h2 := ok_req ht _ _ _ _ _ _ hok
  obtain ⟨i1, i2, i3, i4, i5⟩ := hI.2.1
  have hp := hI.1
  have h3 := zl_ht hI.2.2.2.2.2.2.2 hz
  refine ⟨by omega, ?_⟩
  by_cases z : gm_hd S = 18
  · cases S with
    | nil => exact hz.elim
    | cons x S =>
      obtain ⟨t, a, b, d, v⟩ := x
      have : t = 18 := z
      subst this
      unfold zl at hz
      dsimp only at hz
      rw [if_neg (by decide), if_neg (by decide), if_neg (by decide), if_neg (by decide), if_neg (by decide), if_neg (by decide), if_neg (by decide), if_neg (by decide), if_neg (by decide), if_neg (by decide), if_neg (by decide), if_pos rfl] at hz
      obtain ⟨e, T', h0, c, rfl, _, _, _, hc, hz⟩ := hz
      have h4 := (zl_ht hI.2.2.2.2.2.2.2.2.2.2 hz).1 (fun y => absurd (hI.2.2.2.2.2.2.2.2.2.1 y) (by simp))
      simp only [gm_sm] at i5
      simp [gw_a, gw_b] at i5
      omega
  · have := h3.1 z
    omega
theorem frs_bd {K V : Nat → Int32} {n : Nat} {F : gm_A} {NF : Nat} {rt : Nat → Int32} (ht : gm_tok K V n) (hn : n ≤ 120) : ∀ (b : Nat) {Tb : List Nat} {hb u : Nat}, frs K V n F NF rt b Tb hb u → Tb.length ≤ 121 * b + 1 ∧ hb ≤ 61 * b
  | 0, _, _, _, ⟨h1, h2, _⟩ => by subst h1 h2; simp
  | b + 1, _, _, _, ⟨m, p, S, cc, lc, fc, T', Tb', hb', u', h1, h2, h3, h4, h5, h6, h7⟩ => by
    have i := frs_bd ht hn b h6
    have j := zl_bd ht hn h2 h5
    subst h1
    simp only [List.length_cons]
    omega
