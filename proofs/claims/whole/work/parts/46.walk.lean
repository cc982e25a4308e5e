/-! the walk of Y that isn't live, down to a marker -/
theorem gp_stm {K V : Nat → Int32} {n p : Nat} {S Sb : List gm_I} {cc lc fc : Nat} : gm_stm K V n (fun _ _ => True) (fun _ S' _ _ _ _ _ _ _ => ∃ S1, S' = S1 ++ Sb) p (S ++ Sb) cc lc fc := by
  unfold gm_stm
  repeat' split
  all_goals try trivial
  all_goals try (cases hO : gm_opn (S ++ Sb))
  all_goals first | trivial | exact ⟨S, rfl⟩ | exact ⟨_ :: S, rfl⟩ | exact ⟨_ :: _ :: S, rfl⟩ | exact ⟨_ :: _ :: _ :: S, rfl⟩ | exact ⟨_ :: _ :: _ :: _ :: S, rfl⟩ | exact ⟨_ :: _ :: _ :: _ :: _ :: _ :: S, rfl⟩
theorem gp_una {K V : Nat → Int32} {n p : Nat} {S Sb : List gm_I} {lc fc : Nat} : gm_una K V n (fun _ _ => True) (fun _ S' _ _ _ _ _ _ _ => ∃ S1, S' = S1 ++ Sb) p (S ++ Sb) lc fc := by
  unfold gm_una
  repeat' split
  all_goals first | trivial | exact ⟨S, rfl⟩ | exact ⟨_ :: S, rfl⟩ | exact ⟨_ :: _ :: S, rfl⟩ | exact ⟨_ :: _ :: _ :: S, rfl⟩ | exact ⟨_ :: _ :: _ :: _ :: S, rfl⟩ | exact ⟨_ :: _ :: _ :: _ :: _ :: _ :: S, rfl⟩
theorem gp_bin {K : Nat → Int32} {n p w : Nat} {S Sb : List gm_I} {lc fc : Nat} : gm_bin K n (fun _ S' _ _ _ _ _ _ _ => ∃ S1, S' = S1 ++ Sb) p w (S ++ Sb) lc fc := by
  unfold gm_bin
  repeat' split
  all_goals first | trivial | exact ⟨S, rfl⟩ | exact ⟨_ :: S, rfl⟩ | exact ⟨_ :: _ :: S, rfl⟩ | exact ⟨_ :: _ :: _ :: S, rfl⟩ | exact ⟨_ :: _ :: _ :: _ :: S, rfl⟩ | exact ⟨_ :: _ :: _ :: _ :: _ :: _ :: S, rfl⟩
theorem gp_prg {K V : Nat → Int32} {n p : Nat} {S Sb : List gm_I} {lc fc : Nat} : gm_prg K V n (fun _ _ => True) (fun _ S' _ _ _ _ _ _ _ => ∃ S1, S' = S1 ++ Sb) p (S ++ Sb) lc fc := by
  unfold gm_prg
  repeat' split
  all_goals first | trivial | exact ⟨S, rfl⟩ | exact ⟨_ :: S, rfl⟩ | exact ⟨_ :: _ :: S, rfl⟩ | exact ⟨_ :: _ :: _ :: S, rfl⟩ | exact ⟨_ :: _ :: _ :: _ :: S, rfl⟩ | exact ⟨_ :: _ :: _ :: _ :: _ :: _ :: S, rfl⟩
theorem gp_d {K V : Nat → Int32} {n p : Nat} {x : gm_I} {S Sb : List gm_I} {cc lc fc : Nat} : gm_d K V n (fun _ _ => True) (fun _ S' _ _ _ _ _ _ _ => ∃ S1, S' = S1 ++ Sb) p x (S ++ Sb) cc lc fc := by
  obtain ⟨t, a, b, e, v⟩ := x
  unfold gm_d
  dsimp only at *
  by_cases z : t = 1
  · subst z; rw [if_pos rfl]
    exact gp_prg
  rw [if_neg z]
  by_cases z : t = 2
  · subst z; rw [if_pos rfl]
    repeat' split
    all_goals first | trivial | exact ⟨S, rfl⟩ | exact ⟨_ :: S, rfl⟩ | exact ⟨_ :: _ :: S, rfl⟩ | exact ⟨_ :: _ :: _ :: S, rfl⟩ | exact ⟨_ :: _ :: _ :: _ :: S, rfl⟩ | exact ⟨_ :: _ :: _ :: _ :: _ :: _ :: S, rfl⟩
  rw [if_neg z]
  by_cases z : t = 3
  · subst z; rw [if_pos rfl]
    split
    · exact ⟨S, rfl⟩
    · exact gp_stm (S := gi_B :: S)
  rw [if_neg z]
  by_cases z : t = 4
  · subst z; rw [if_pos rfl]
    exact gp_stm
  rw [if_neg z]
  by_cases z : t = 5
  · subst z; rw [if_pos rfl]
    repeat' split
    all_goals first | trivial | exact ⟨S, rfl⟩ | exact ⟨_ :: S, rfl⟩ | exact ⟨_ :: _ :: S, rfl⟩ | exact ⟨_ :: _ :: _ :: S, rfl⟩ | exact ⟨_ :: _ :: _ :: _ :: S, rfl⟩ | exact ⟨_ :: _ :: _ :: _ :: _ :: _ :: S, rfl⟩
  rw [if_neg z]
  by_cases z : t = 6
  · subst z; rw [if_pos rfl]
    repeat' split
    all_goals first | trivial | exact ⟨S, rfl⟩ | exact ⟨_ :: S, rfl⟩ | exact ⟨_ :: _ :: S, rfl⟩ | exact ⟨_ :: _ :: _ :: S, rfl⟩ | exact ⟨_ :: _ :: _ :: _ :: S, rfl⟩ | exact ⟨_ :: _ :: _ :: _ :: _ :: _ :: S, rfl⟩
  rw [if_neg z]
  by_cases z : t = 7
  · subst z; rw [if_pos rfl]
    repeat' split
    all_goals first | trivial | exact ⟨S, rfl⟩ | exact ⟨_ :: S, rfl⟩ | exact ⟨_ :: _ :: S, rfl⟩ | exact ⟨_ :: _ :: _ :: S, rfl⟩ | exact ⟨_ :: _ :: _ :: _ :: S, rfl⟩ | exact ⟨_ :: _ :: _ :: _ :: _ :: _ :: S, rfl⟩
  rw [if_neg z]
  by_cases z : t = 8
  · subst z; rw [if_pos rfl]
    repeat' split
    all_goals first | trivial | exact ⟨S, rfl⟩ | exact ⟨_ :: S, rfl⟩ | exact ⟨_ :: _ :: S, rfl⟩ | exact ⟨_ :: _ :: _ :: S, rfl⟩ | exact ⟨_ :: _ :: _ :: _ :: S, rfl⟩ | exact ⟨_ :: _ :: _ :: _ :: _ :: _ :: S, rfl⟩
  rw [if_neg z]
  by_cases z : t = 9
  · subst z; rw [if_pos rfl]
    repeat' split
    all_goals first | trivial | exact ⟨S, rfl⟩ | exact ⟨_ :: S, rfl⟩ | exact ⟨_ :: _ :: S, rfl⟩ | exact ⟨_ :: _ :: _ :: S, rfl⟩ | exact ⟨_ :: _ :: _ :: _ :: S, rfl⟩ | exact ⟨_ :: _ :: _ :: _ :: _ :: _ :: S, rfl⟩
  rw [if_neg z]
  by_cases z : t = 10
  · subst z; rw [if_pos rfl]
    repeat' split
    all_goals first | trivial | exact ⟨S, rfl⟩ | exact ⟨_ :: S, rfl⟩ | exact ⟨_ :: _ :: S, rfl⟩ | exact ⟨_ :: _ :: _ :: S, rfl⟩ | exact ⟨_ :: _ :: _ :: _ :: S, rfl⟩ | exact ⟨_ :: _ :: _ :: _ :: _ :: _ :: S, rfl⟩
  rw [if_neg z]
  by_cases z : t = 11 ∨ t = 19 ∨ t = 20
  · rw [if_pos z]; exact ⟨S, rfl⟩
  rw [if_neg z]
  by_cases z : t = 12
  · subst z; rw [if_pos rfl]
    exact gp_una (S := gi_R a :: S)
  rw [if_neg z]
  by_cases z : t = 13
  · subst z; rw [if_pos rfl]
    exact gp_bin
  rw [if_neg z]
  by_cases z : t = 14
  · subst z; rw [if_pos rfl]
    exact gp_una
  rw [if_neg z]
  by_cases z : t = 15
  · subst z; rw [if_pos rfl]
    repeat' split
    all_goals first | trivial | exact ⟨S, rfl⟩ | exact ⟨_ :: S, rfl⟩ | exact ⟨_ :: _ :: S, rfl⟩ | exact ⟨_ :: _ :: _ :: S, rfl⟩ | exact ⟨_ :: _ :: _ :: _ :: S, rfl⟩ | exact ⟨_ :: _ :: _ :: _ :: _ :: _ :: S, rfl⟩
  rw [if_neg z]
  by_cases z : t = 16
  · subst z; rw [if_pos rfl]
    repeat' split
    all_goals first | trivial | exact ⟨S, rfl⟩ | exact ⟨_ :: S, rfl⟩ | exact ⟨_ :: _ :: S, rfl⟩ | exact ⟨_ :: _ :: _ :: S, rfl⟩ | exact ⟨_ :: _ :: _ :: _ :: S, rfl⟩ | exact ⟨_ :: _ :: _ :: _ :: _ :: _ :: S, rfl⟩
  rw [if_neg z]
  by_cases z : t = 17
  · subst z; rw [if_pos rfl]
    repeat' split
    all_goals first | trivial | exact ⟨S, rfl⟩ | exact ⟨_ :: S, rfl⟩ | exact ⟨_ :: _ :: S, rfl⟩ | exact ⟨_ :: _ :: _ :: S, rfl⟩ | exact ⟨_ :: _ :: _ :: _ :: S, rfl⟩ | exact ⟨_ :: _ :: _ :: _ :: _ :: _ :: S, rfl⟩
  rw [if_neg z]
  by_cases z : t = 18
  · subst z; rw [if_pos rfl]
    repeat' split
    all_goals first | trivial | exact ⟨S, rfl⟩ | exact ⟨_ :: S, rfl⟩ | exact ⟨_ :: _ :: S, rfl⟩ | exact ⟨_ :: _ :: _ :: S, rfl⟩ | exact ⟨_ :: _ :: _ :: _ :: S, rfl⟩ | exact ⟨_ :: _ :: _ :: _ :: _ :: _ :: S, rfl⟩
  rw [if_neg z]
  trivial
theorem ok_req {K V : Nat → Int32} {n : Nat} {F : gm_A} {NF : Nat} (ht : gm_tok K V n) : ∀ (m p : Nat) (S : List gm_I) (cc lc fc : Nat), gm_ok K V n F NF m p S cc lc fc → p + gm_sm gw_r S ≤ n := by
  intro m
  induction m with
  | zero => intro p S cc lc fc h; exact h.elim
  | succ m ih =>
    intro p S cc lc fc h
    cases S with
    | nil => exact h.1.1
    | cons x S =>
      obtain ⟨hI, _, hd⟩ := h
      refine gm_out (gm_and hd (gm_inv_d ht hI) (fun _ _ a _ => a) (fun p' S' lc' fc' b es lw aw fw a c => ?_))
      have := ih _ _ _ _ _ a.2.2
      have := c.2.2.2
      omega
def gm_to (K V : Nat → Int32) (n : Nat) (Sb : List gm_I) (p' cc' lc' fc' : Nat) : Nat → Nat → List gm_I → Nat → Nat → Nat → Prop
  | 0, p, S1, cc, lc, fc => S1 = [] ∧ p = p' ∧ cc = cc' ∧ lc = lc' ∧ fc = fc'
  | k + 1, p, S1, cc, lc, fc => ∃ x S2, S1 = x :: S2 ∧ gm_inv K V n p (x :: (S2 ++ Sb)) cc lc fc ∧ p + gm_sm gw_r (x :: (S2 ++ Sb)) ≤ n ∧
    gm_d K V n (fun _ _ => False) (fun p1 S' lc1 fc1 _ es _ _ _ => ∃ S3, S' = S3 ++ Sb ∧ gm_to K V n Sb p' cc' lc' fc' k p1 S3 (cc + es.length) lc1 fc1) p x (S2 ++ Sb) cc lc fc
theorem gm_to_ex {K V : Nat → Int32} {n : Nat} {F : gm_A} {NF : Nat} {Sb : List gm_I} (ht : gm_tok K V n) : ∀ (m p : Nat) (S1 : List gm_I) (cc lc fc : Nat), gm_ok K V n F NF m p (S1 ++ Sb) cc lc fc →
    ∃ k m' p' cc' lc' fc', m' + k = m ∧ gm_to K V n Sb p' cc' lc' fc' k p S1 cc lc fc ∧ gm_ok K V n F NF m' p' Sb cc' lc' fc' := by
  intro m
  induction m with
  | zero => intro p S cc lc fc h; exact h.elim
  | succ m ih =>
    intro p S1 cc lc fc h
    have hq := ok_req ht _ _ _ _ _ _ h
    cases S1 with
    | nil => exact ⟨0, m + 1, p, cc, lc, fc, rfl, ⟨rfl, rfl, rfl, rfl, rfl⟩, h⟩
    | cons x S2 =>
      rw [List.cons_append] at h hq
      obtain ⟨hI, _, hd⟩ := h
      have h3 := gm_and (E2 := fun _ _ => False) (C2 := fun p1 S' lc1 fc1 _ es _ _ _ => (∃ S3, S' = S3 ++ Sb) ∧ gm_ok K V n F NF m p1 S' (cc + es.length) lc1 fc1) hd (gp_d (S := S2) (Sb := Sb)) (fun _ _ a _ => a) (fun p' S' lc' fc' b es lw aw fw a c => ⟨c, a.2.2⟩)
      rw [gm_eq] at h3
      cases hr : gm_v K V n p x (S2 ++ Sb) cc lc fc with
      | inl y => rw [hr] at h3; obtain ⟨e, w⟩ := y; exact h3.elim
      | inr y =>
        rw [hr] at h3
        obtain ⟨p1, S', lc1, fc1, b, es, lw, aw, fw⟩ := y
        obtain ⟨⟨S3, rfl⟩, hok⟩ := h3
        obtain ⟨k, m', p', cc', lc', fc', e1, e2, e3⟩ := ih _ _ _ _ _ hok
        refine ⟨k + 1, m', p', cc', lc', fc', by omega, ⟨x, S2, rfl, hI, hq, ?_⟩, e3⟩
        rw [gm_eq, hr]
        exact ⟨S3, rfl, e2⟩
theorem gm_sm_app (w : gm_I → Nat) : ∀ (S T : List gm_I), gm_sm w (S ++ T) = gm_sm w S + gm_sm w T
  | [], T => by simp [gm_sm]
  | x :: S, T => by simp only [List.cons_append, gm_sm, gm_sm_app w S T]; omega
theorem yd_walk {post : SY → Prop} {W : SY} {pd : Int32} {n h : Nat} {Sb : List gm_I} {Tb : List Nat} {p' cc' lc' fc' : Nat} {o : Int32} {f0 : Nat} {A0 : gm_A} {R0 : List gm_I} (hW : yh W false n h) (hpd : W.2.2.2.2.2.2.2.2.2.2.2.2.2.1 = pd) (hTb : Tb.length + 150 < 1300) :
    ∀ (k g p : Nat) (S1 : List gm_I) (cc lc fc : Nat) (T : List Nat) (R : List gm_I), gm_to W.2.2.2.2.2.2.2.2.2.2.2.2.2.2.2.2.2.2.2.2.2.2.2.2.1 W.2.2.2.2.2.2.2.2.2.2.2.2.2.2.2.2.2.2.2.2.2.2.2.2.2.1 n Sb p' cc' lc' fc' k p S1 cc lc fc → yd_R false pd Tb S1 T → g + k ≤ 400000 → (∀ g', g ≤ g' → g' ≤ g + k → yQ post W false g' p' R0 Tb o f0 A0) → yQ post W false g p R T o f0 A0 := by
  intro k
  induction k with
  | zero =>
    intro g p S1 cc lc fc T R h hR hg H
    obtain ⟨rfl, rfl, _⟩ := h
    have : T = Tb := hR
    subst this
    exact H g (Nat.le_refl _) (Nat.le_refl _)
  | succ k ih =>
    intro g p S1 cc lc fc T R h hR hg H
    obtain ⟨x, S2, rfl, hI, hq, hd⟩ := h
    have hl := yd_len2 rfl hR
    obtain ⟨i1, i2, i3, i4, i5⟩ := hI.2.1
    have hn := hW.2.1
    have hp := hI.1
    have hopn := gm_opn_len (S := x :: (S2 ++ Sb))
    have a1 := gm_sm_app gw_c (x :: S2) Sb
    have a2 := gm_sm_app gw_r (x :: S2) Sb
    simp only [List.cons_append] at a1 a2
    suffices key : yQ post W false g p (x :: (S2 ++ Sb)) T 0 fc (fun _ => 0, fun _ => 0, fun _ => 0, fun _ => 0, fun _ => nI x.2.2.1, fun _ => 0, fun _ => 0, fun _ => 0) from fun td hd => key td hd
    refine yg_d (cc := cc) (lc := lc) (A := (fun _ => 0, fun _ => 0, fun _ => 0, fun _ => 0, fun _ => nI x.2.2.1, fun _ => 0, fun _ => 0, fun _ => 0)) (o := 0) hW hpd (by omega) hp hI.2.2.2.2.2.1.1 hI.2.2.2.2.2.2.1 (fun _ => rfl) (fun z => ?_) (by omega) (by omega) hR ?_
    · exact ((List.append_eq_nil_iff.mp (hI.2.2.1.1 z)).1)
    · refine gm_mono hd (fun _ _ z => z.elim) (fun p1 S' lc1 fc1 b es lw aw fw c S4 T' g' e1 g1 g2 hR' => ?_)
      obtain ⟨S3, e2, hto⟩ := c
      have e3 : S4 = S3 := List.append_cancel_right (e1.symm.trans e2)
      subst e3
      have := ih g' p1 S4 _ _ _ T' S' hto hR' (by omega) (fun g'' h1 h2 => H g'' (by omega) (by omega))
      exact fun td hd => this td hd
