/-! a run of G to its end leaves a certificate -/
def gm_ag (F : gm_A) (p : Nat) (S : List gm_I) (cc lc fc : Nat) (A : gm_A) : Prop :=
  (∀ k, k < cc → F.1 k = A.1 k ∧ F.2.1 k = A.2.1 k ∧ F.2.2.1 k = A.2.2.1 k) ∧ (∀ l, l < lc → gm_np l S → F.2.2.2.1 l = A.2.2.2.1 l) ∧ (∀ q, q < p → gm_nq q S → F.2.2.2.2.1 q = A.2.2.2.2.1 q)
  ∧ (∀ f, f < fc → F.2.2.2.2.2.1 f = A.2.2.2.2.2.1 f ∧ F.2.2.2.2.2.2.1 f = A.2.2.2.2.2.2.1 f ∧ F.2.2.2.2.2.2.2 f = A.2.2.2.2.2.2.2 f)
theorem gm_out {K V : Nat → Int32} {n p : Nat} {x : gm_I} {S : List gm_I} {cc lc fc : Nat} {P : Prop} (h : gm_d K V n (fun _ _ => False) (fun _ _ _ _ _ _ _ _ _ => P) p x S cc lc fc) : P := by
  rw [gm_eq] at h
  revert h
  generalize gm_v K V n p x S cc lc fc = r
  intro h
  match r, h with
  | Sum.inl (e, w), h => exact h.elim
  | Sum.inr (p, S, lc, fc, o, es, lw, aw, fw), h => exact h
theorem gm_ag_step {F A : gm_A} {p p' cc lc lc' fc fc' : Nat} {x : gm_I} {S S' : List gm_I} {b : Bool} {es : List gm_M} {lw aw : Option (Nat × Nat)} {fw : Option Int32}
    (hf : gm_fr A.2.2.2.2.1 p lc fc x S p' S' lc' fc' b es lw aw fw) (ha : gm_ag F p' S' (cc + es.length) lc' fc' (gm_up A cc fc p' es lw aw fw)) :
    gm_ag F p (x :: S) cc lc fc A ∧ gm_up F cc fc p' es lw none fw = F := by
  obtain ⟨_, f1, f2, f3, f4, f5, f6, f7, f8⟩ := hf
  obtain ⟨a1, a2, a3, a4⟩ := ha
  have hfc : fc ≤ fc' := by
    cases fw with
    | none => exact Nat.le_of_eq (f7 rfl).symm
    | some v => have := f8 v rfl; omega
  refine ⟨⟨fun k hk => ?_, fun l hl hn => ?_, fun q hq hn => ?_, fun f hf => ?_⟩, ?_⟩
  · have h := a1 k (by omega)
    simp only [gm_up, gu_lo _ es _ _ _ hk] at h
    exact h
  · have h := a2 l (by omega) (f3 l hl hn)
    cases lw with
    | none => exact h
    | some y =>
      have hy := f4 y rfl
      have : l ≠ y.1 := fun z => hy.2.2 (z ▸ hl) (z ▸ hn)
      simp only [gm_up, gu_l, pk_un this] at h
      exact h
  · have h := a3 q (by omega) (f5 q hq hn)
    cases aw with
    | none => exact h
    | some y =>
      have hy := f6 y rfl
      have : q ≠ y.1 := fun z => hy.2 (z ▸ hn)
      simp only [gm_up, gu_l, pk_un this] at h
      exact h
  · have h := a4 f (by omega)
    cases fw with
    | none => exact h
    | some v =>
      simp only [gm_up, gu_s, gu_f, pk_un (show f ≠ fc by omega)] at h
      exact h
  · have e1 : gu_k (fun x => nI x.1) F.1 cc es = F.1 := gu_fix _ es F.1 A.1 cc fun j _ h2 => (a1 j h2).1
    have e2 : gu_k (fun x => x.2.1) F.2.1 cc es = F.2.1 := gu_fix _ es F.2.1 A.2.1 cc fun j _ h2 => (a1 j h2).2.1
    have e3 : gu_k (fun x => nI x.2.2) F.2.2.1 cc es = F.2.2.1 := gu_fix _ es F.2.2.1 A.2.2.1 cc fun j _ h2 => (a1 j h2).2.2
    have e4 : gu_l F.2.2.2.1 lw = F.2.2.2.1 := by
      cases lw with
      | none => rfl
      | some y =>
        have hy := f4 y rfl
        have h := a2 y.1 hy.1 hy.2.1
        simp only [gm_up, gu_l, pk_us] at h
        exact gu_fix1 h
    have e5 : gu_s F.2.2.2.2.2.1 fc (nI cc) fw = F.2.2.2.2.2.1 := by
      cases fw with
      | none => rfl
      | some v =>
        have h := (a4 fc (by have := f8 v rfl; omega)).1
        simp only [gm_up, gu_s, pk_us] at h
        exact gu_fix1 h
    have e6 : gu_f F.2.2.2.2.2.2.1 fc fw = F.2.2.2.2.2.2.1 := by
      cases fw with
      | none => rfl
      | some v =>
        have h := (a4 fc (by have := f8 v rfl; omega)).2.1
        simp only [gm_up, gu_f, pk_us] at h
        exact gu_fix1 h
    have e7 : gu_s F.2.2.2.2.2.2.2 fc (nI p') fw = F.2.2.2.2.2.2.2 := by
      cases fw with
      | none => rfl
      | some v =>
        have h := (a4 fc (by have := f8 v rfl; omega)).2.2
        simp only [gm_up, gu_s, pk_us] at h
        exact gu_fix1 h
    unfold gm_up
    rw [e1, e2, e3, e4, e5, e6, e7]
    rfl
theorem gm_o_neg {b : Bool} {p : Nat} {o : Int32} (hp : p < 2 ^ 31) (h : gm_o b p o = -1) : b = false ∧ o = -1 := by
  unfold gm_o at h
  cases b with
  | false => simpa using h
  | true =>
    exfalso
    rw [if_pos rfl] at h
    split at h
    · have := nI_pos' (n := p) hp
      rw [h] at this
      exact absurd this (by decide)
    · rename_i z
      rw [h] at z
      exact z (by decide)
theorem gm_okT {K V : Nat → Int32} {n : Nat} {F : gm_A} {NF : Nat} (ht : gm_tok K V n) (hn : n ≤ 120) : ∀ (m p : Nat) (S : List gm_I) (cc lc fc : Nat) (o : Int32) (A : gm_A), gm_inv K V n p S cc lc fc → gm_av A.2.2.2.2.1 S →
    gm_run K V n (fun _ _ _ => False) (fun _ _ _ fc' o' A' => A' = F ∧ fc' = NF ∧ o' = -1) m p S cc lc fc o A → gm_ok K V n F NF m p S cc lc fc ∧ gm_ag F p S cc lc fc A ∧ o = -1 := by
  intro m
  induction m with
  | zero => intro p S cc lc fc o A _ _ h; exact h.elim
  | succ m ih =>
    intro p S cc lc fc o A hI hA h
    cases S with
    | nil =>
      obtain ⟨rfl, h2, h3⟩ := h
      exact ⟨⟨hI, h2⟩, ⟨fun _ _ => ⟨rfl, rfl, rfl⟩, fun _ _ _ => rfl, fun _ _ _ => rfl, fun _ _ => ⟨rfl, rfl, rfl⟩⟩, h3⟩
    | cons x S =>
      have hp : p < 2 ^ 31 := by have := hI.1; omega
      have h1 := gm_inv_d ht hI
      have h2 := gf_d (K := K) (V := V) (n := n) (cc := cc) (fc := fc) hI.2.2.1 hI.2.2.2.1 hI.2.2.2.2.1 hA
      have h3 := gm_and (E2 := fun _ _ => False) (C2 := fun p' S' lc' fc' b es lw aw fw => gm_fr A.2.2.2.2.1 p lc fc x S p' S' lc' fc' b es lw aw fw ∧ gm_ok K V n F NF m p' S' (cc + es.length) lc' fc' ∧ gm_ag F p' S' (cc + es.length) lc' fc' (gm_up A cc fc p' es lw aw fw) ∧ gm_o b p o = -1)
        h (gm_and (E2 := fun _ _ => True) (C2 := fun p' S' lc' fc' b es lw aw fw => gm_inv K V n p' S' (cc + es.length) lc' fc' ∧ gm_fr A.2.2.2.2.1 p lc fc x S p' S' lc' fc' b es lw aw fw) h1 h2 (fun _ _ _ _ => trivial) (fun p S lc fc b es lw aw fw a c => ⟨a.1, c⟩))
        (fun _ _ a _ => a) (fun p' S' lc' fc' b es lw aw fw a c => ⟨c.2, ih _ _ _ _ _ _ _ c.1 c.2.1 a⟩)
      have h4 : gm_ag F p (x :: S) cc lc fc A ∧ o = -1 := gm_out (gm_mono h3 (fun _ _ a => a) (fun p' S' lc' fc' b es lw aw fw a => ⟨(gm_ag_step a.1 a.2.2.1).1, (gm_o_neg hp a.2.2.2).2⟩))
      refine ⟨⟨hI, ⟨fun z hz => ?_, fun z hz => ?_⟩, gm_mono h3 (fun _ _ a => a) (fun p' S' lc' fc' b es lw aw fw a => ⟨(gm_o_neg hp a.2.2.2).1, (gm_ag_step a.1 a.2.2.1).2, a.2.1⟩)⟩, h4⟩
      · obtain ⟨t, a, b, e, v⟩ := x
        dsimp only at z
        subst z
        unfold gm_d at h3
        simp only [hz] at h3
        have h5 : gm_pl a S := (by simpa [gm_pl] using hI.2.2.2.2.1 : a < p ∧ gm_pl a S).2
        have h5' : a < p := (by simpa [gm_pl] using hI.2.2.2.2.1 : a < p ∧ gm_pl a S).1
        have h6 := h3.2.2.1.2.2.1 a (by omega) (gm_pl_nq h5 (Nat.le_refl _))
        simp only [gm_up, gu_l, pk_us] at h6
        exact h6
      · obtain ⟨t, a, b, e, v⟩ := x
        dsimp only at z
        subst z
        unfold gm_d at h3
        simp only [hz] at h3
        have h5 : gm_pl a S := (by simpa [gm_pl] using hI.2.2.2.2.1 : a < p ∧ gm_pl a S).2
        have h5' : a < p := (by simpa [gm_pl] using hI.2.2.2.2.1 : a < p ∧ gm_pl a S).1
        have h6 := h3.2.2.1.2.2.1 a (by omega) (gm_pl_nq h5 (Nat.le_refl _))
        simp only [gm_up, gu_l] at h6
        exact h6.trans (hA.1 rfl)
