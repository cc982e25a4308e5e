/-! Y: compile -/
theorem gm_opn_len : ∀ {S : List gm_I}, (gm_opn S).length ≤ gm_sm gw_c S
  | [] => Nat.le_refl _
  | x :: S => by
    have h1 := gm_opn_len (S := S)
    unfold gm_opn
    simp only [gm_sm]
    split
    · rename_i h; simp only [List.length_cons, gw_c, h]; simp; omega
    · omega
theorem yc_run {post : SY → Prop} {W : SY} {n h : Nat} (hW : yh W true n h)
    {E : Nat → (Nat → Int32) → (Nat → Int32) → Prop} {D : Nat → Nat → Nat → Nat → Int32 → gm_A → Prop}
    (hE : ∀ e ac fp, E e ac fp → ∀ g, g ≤ 400000 → yE post W g e ac fp) (hD : ∀ p cc lc fc o A, D p cc lc fc o A → ∀ g, g ≤ 400000 → yQ post W true g p [] [] o fc A) :
    ∀ (m g p : Nat) (S : List gm_I) (cc lc fc : Nat) (o : Int32) (A : gm_A) (T : List Nat), g + m ≤ 400000 → gm_inv W.2.2.2.2.2.2.2.2.2.2.2.2.2.2.2.2.2.2.2.2.2.2.2.2.1 W.2.2.2.2.2.2.2.2.2.2.2.2.2.2.2.2.2.2.2.2.2.2.2.2.2.1 n p S cc lc fc → gm_av A.2.2.2.2.1 S → gm_run W.2.2.2.2.2.2.2.2.2.2.2.2.2.2.2.2.2.2.2.2.2.2.2.2.1 W.2.2.2.2.2.2.2.2.2.2.2.2.2.2.2.2.2.2.2.2.2.2.2.2.2.1 n E D m p S cc lc fc o A → yd_R true W.2.2.2.2.2.2.2.2.2.2.2.2.2.1 [] S T →
      yQ post W true g p S T o fc A := by
  have ht := hW.2.2.2.2.1
  have hn := hW.2.1
  intro m
  induction m with
  | zero => intro g p S cc lc fc o A T _ _ _ h; exact h.elim
  | succ m ih =>
    intro g p S cc lc fc o A T hs hI hA h hR
    cases S with
    | nil =>
      have : T = [] := hR
      subst this
      exact hD _ _ _ _ _ _ h g (by omega)
    | cons x S =>
      have h1 := gm_inv_d ht hI
      have h2 := gf_d (K := W.2.2.2.2.2.2.2.2.2.2.2.2.2.2.2.2.2.2.2.2.2.2.2.2.1) (V := W.2.2.2.2.2.2.2.2.2.2.2.2.2.2.2.2.2.2.2.2.2.2.2.2.2.1) (n := n) (cc := cc) (fc := fc) hI.2.2.1 hI.2.2.2.1 hI.2.2.2.2.1 hA
      have hl1 := yd_len1 hR
      have hl2 := gm_opn_len (S := x :: S)
      have hp := hI.1
      obtain ⟨i1, i2, i3, i4, i5⟩ := hI.2.1
      have key := yg_d (post := post) (W := W) (c := true) (pd := W.2.2.2.2.2.2.2.2.2.2.2.2.2.1) (Tb := []) (T := T) (x := x) (S := S) (Sb := []) (g := g) (p := p) (cc := cc) (lc := lc) (fc := fc) (o := o) (A := A) hW rfl (by omega) hp hI.2.2.2.2.2.1.1 hI.2.2.2.2.2.2.1 hA.1 hI.2.2.1.1 (by rw [List.append_nil]; omega) (by simp only [List.length_nil] at hl1; omega) hR
      rw [List.append_nil] at key
      refine key (gm_and h (gm_and (E2 := fun _ _ => True) (C2 := fun p' S' lc' fc' b es lw aw fw => gm_inv W.2.2.2.2.2.2.2.2.2.2.2.2.2.2.2.2.2.2.2.2.2.2.2.2.1 W.2.2.2.2.2.2.2.2.2.2.2.2.2.2.2.2.2.2.2.2.2.2.2.2.2.1 n p' S' (cc + es.length) lc' fc' ∧ gm_av (gu_l A.2.2.2.2.1 aw) S') h1 h2 (fun _ _ _ _ => trivial) (fun p S lc fc b es lw aw fw a c => ⟨a.1, c.1⟩)) ?_ ?_)
      · intro e w a _
        exact ⟨rfl, hE _ _ _ a _ (by omega)⟩
      · intro p' S' lc' fc' b es lw aw fw a c S1 T' g' e1 h3 h4 h5
        rw [List.append_nil] at e1
        subst e1
        exact ih g' p' S' _ _ _ _ _ T' (by omega) c.1 c.2 a h5
theorem ye_end {post : SY → Prop} {f_count f_place f_length f_functions f_loaded f_loops f_outside f_tt f_vt f_pos f_bad f_checking f_live f_pending f_carry f_active f_ticks f_status f_result f_endedAt f_used f_printed : Int32} {a_kind a_value a_code a_number a_given a_begins a_params a_todo a_val a_vars a_output a_memory : Nat → Int32} {g : Nat} (hg : g ≤ 400000) (h : f_tt ≤ 0 ∨ ¬ f_bad = 0 ∨ ¬ f_status = 0) (H : post (f_count, f_place, f_length, f_functions, f_loaded, f_loops, f_outside, f_tt, f_vt, f_pos, f_bad, f_checking, f_live, f_pending, f_carry, f_active, f_ticks, f_status, f_result, f_endedAt, f_used, f_printed, a_kind, a_value, a_code, a_number, a_given, a_begins, a_params, a_todo, a_val, a_vars, a_output, a_memory)) : yL post g (f_count, f_place, f_length, f_functions, f_loaded, f_loops, f_outside, f_tt, f_vt, f_pos, f_bad, f_checking, f_live, f_pending, f_carry, f_active, f_ticks, f_status, f_result, f_endedAt, f_used, f_printed, a_kind, a_value, a_code, a_number, a_given, a_begins, a_params, a_todo, a_val, a_vars, a_output, a_memory) := by
  intro m hm
  obtain ⟨m, rfl⟩ : ∃ m', m = m' + 1 := ⟨m - 1, by omega⟩
  refine br_c (fun _ => H) (fun _ => ?_)
  refine br_c (fun _ => H) (fun z => ?_)
  refine br_c (fun b => ?_) (fun _ => H)
  refine br_c (fun s => ?_) (fun _ => H)
  rcases h with h | h | h
  · exact absurd h z
  · exact absurd b h
  · exact absurd s h
theorem ym_mis {post : Int32 → SY → Prop} {f_count f_place f_length f_functions f_loaded f_loops f_outside f_tt f_vt f_pos f_bad f_checking f_live f_pending f_carry f_active f_ticks f_status f_result f_endedAt f_used f_printed : Int32} {a_kind a_value a_code a_number a_given a_begins a_params a_todo a_val a_vars a_output a_memory : Nat → Int32} {n : Nat} (ht : f_length = nI n) (hn : n ≤ 120) (hv : ∀ j, j < n → a_code j = 2 → ∃ u, u ≤ 3 ∧ a_number j = nI u)
    (H1 : ∀ i, i < n → (a_code i = 2 ∧ ¬ a_given i = a_params (a_number i).toNatClampNeg) → (∀ j, j < i → ¬ (a_code j = 2 ∧ ¬ a_given j = a_params (a_number j).toNatClampNeg)) → post 4 (f_count, nI i, f_length, f_functions, f_loaded, f_loops, f_outside, f_tt, f_vt, f_pos, f_bad, f_checking, f_live, f_pending, f_carry, f_active, f_ticks, f_status, f_result, f_endedAt, f_used, f_printed, a_kind, a_value, a_code, a_number, a_given, a_begins, a_params, a_todo, a_val, a_vars, a_output, a_memory))
    (H2 : (∀ j, j < n → ¬ (a_code j = 2 ∧ ¬ a_given j = a_params (a_number j).toNatClampNeg)) → post 0 (f_count, -1, f_length, f_functions, 1, f_loops, f_outside, f_tt, f_vt, f_pos, f_bad, f_checking, f_live, f_pending, f_carry, f_active, f_ticks, f_status, f_result, f_endedAt, f_used, f_printed, a_kind, a_value, a_code, a_number, a_given, a_begins, a_params, a_todo, a_val, a_vars, a_output, a_memory)) : ∃ m, wY_compile_165 post f_count f_length f_functions f_loaded f_loops f_outside f_tt f_vt f_pos f_bad f_checking f_live f_pending f_carry f_active f_ticks f_status f_result f_endedAt f_used f_printed a_kind a_value a_code a_number a_given a_begins a_params a_todo a_val a_vars a_output a_memory m 0 f_place := by
  have key : ∀ d i pl, i + d = n → (∀ j, j < i → ¬ (a_code j = 2 ∧ ¬ a_given j = a_params (a_number j).toNatClampNeg)) → wY_compile_165 post f_count f_length f_functions f_loaded f_loops f_outside f_tt f_vt f_pos f_bad f_checking f_live f_pending f_carry f_active f_ticks f_status f_result f_endedAt f_used f_printed a_kind a_value a_code a_number a_given a_begins a_params a_todo a_val a_vars a_output a_memory (d + 1) (nI i) pl := by
    intro d
    induction d with
    | zero =>
      intro i pl hi h
      have : i = n := by omega
      subst this ht
      exact br_t (nI_le (Nat.le_refl _) (by omega)) (H2 h)
    | succ d ih =>
      intro i pl hi h
      have e : (nI i).toNatClampNeg = i := nI_clamp (by omega)
      have vi : vp_in (nI i) 120 := vp_in_nI (by omega) (by decide)
      have nx := fun (z : ¬ (a_code i = 2 ∧ ¬ a_given i = a_params (a_number i).toNatClampNeg)) (pl : Int32) => ih (i + 1) pl (by omega) (fun j hj => by
        by_cases y : j = i
        · rw [y]; exact z
        · exact h j (by omega))
      refine br_f (by rw [ht]; exact nI_ge (by omega) (by omega)) ?_
      rw [e]
      refine ⟨vi, br_c (fun a => ?_) (fun a => nm_r (nI_1 _) (nx (fun z => a z.1) _))⟩
      obtain ⟨u, hu, eu⟩ := hv i (by omega) a
      refine ⟨vi, vi, by rw [eu]; exact vp_in_nI (by omega) (by decide), br_c (fun b => nm_r (nI_1 _) (nx (fun z => z.2 b) _)) (fun b => H1 i (by omega) ⟨a, b⟩ h)⟩
  exact ⟨n + 1, key n 0 f_place (by omega) (fun j hj => by omega)⟩
theorem ym_unk {post : Int32 → SY → Prop} {f_count f_place f_length f_functions f_loaded f_loops f_outside f_tt f_vt f_pos f_bad f_checking f_live f_pending f_carry f_active f_ticks f_status f_result f_endedAt f_used f_printed : Int32} {a_kind a_value a_code a_number a_given a_begins a_params a_todo a_val a_vars a_output a_memory : Nat → Int32} {n : Nat} (ht : f_length = nI n) (hn : n ≤ 120) (hv : ∀ j, j < n → a_code j = 2 → ∃ u, u ≤ 3 ∧ a_number j = nI u)
    (H3 : ∀ i, i < n → (a_code i = 2 ∧ ¬ a_number i < f_functions) → (∀ j, j < i → ¬ (a_code j = 2 ∧ ¬ a_number j < f_functions)) → post 3 (f_count, nI i, f_length, f_functions, f_loaded, f_loops, f_outside, f_tt, f_vt, f_pos, f_bad, f_checking, f_live, f_pending, f_carry, f_active, f_ticks, f_status, f_result, f_endedAt, f_used, f_printed, a_kind, a_value, a_code, a_number, a_given, a_begins, a_params, a_todo, a_val, a_vars, a_output, a_memory))
    (H1 : (∀ j, j < n → ¬ (a_code j = 2 ∧ ¬ a_number j < f_functions)) → ∀ i, i < n → (a_code i = 2 ∧ ¬ a_given i = a_params (a_number i).toNatClampNeg) → (∀ j, j < i → ¬ (a_code j = 2 ∧ ¬ a_given j = a_params (a_number j).toNatClampNeg)) → post 4 (f_count, nI i, f_length, f_functions, f_loaded, f_loops, f_outside, f_tt, f_vt, f_pos, f_bad, f_checking, f_live, f_pending, f_carry, f_active, f_ticks, f_status, f_result, f_endedAt, f_used, f_printed, a_kind, a_value, a_code, a_number, a_given, a_begins, a_params, a_todo, a_val, a_vars, a_output, a_memory))
    (H2 : (∀ j, j < n → ¬ (a_code j = 2 ∧ ¬ a_number j < f_functions)) → (∀ j, j < n → ¬ (a_code j = 2 ∧ ¬ a_given j = a_params (a_number j).toNatClampNeg)) → post 0 (f_count, -1, f_length, f_functions, 1, f_loops, f_outside, f_tt, f_vt, f_pos, f_bad, f_checking, f_live, f_pending, f_carry, f_active, f_ticks, f_status, f_result, f_endedAt, f_used, f_printed, a_kind, a_value, a_code, a_number, a_given, a_begins, a_params, a_todo, a_val, a_vars, a_output, a_memory)) : ∃ m, wY_compile_119 post f_count f_length f_functions f_loaded f_loops f_outside f_tt f_vt f_pos f_bad f_checking f_live f_pending f_carry f_active f_ticks f_status f_result f_endedAt f_used f_printed a_kind a_value a_code a_number a_given a_begins a_params a_todo a_val a_vars a_output a_memory m 0 f_place := by
  have key : ∀ d i pl, i + d = n → (∀ j, j < i → ¬ (a_code j = 2 ∧ ¬ a_number j < f_functions)) → wY_compile_119 post f_count f_length f_functions f_loaded f_loops f_outside f_tt f_vt f_pos f_bad f_checking f_live f_pending f_carry f_active f_ticks f_status f_result f_endedAt f_used f_printed a_kind a_value a_code a_number a_given a_begins a_params a_todo a_val a_vars a_output a_memory (d + 1) (nI i) pl := by
    intro d
    induction d with
    | zero =>
      intro i pl hi h
      have : i = n := by omega
      subst this
      refine br_t (by rw [ht]; exact nI_le (Nat.le_refl _) (by omega)) ?_
      exact ym_mis (f_place := pl) ht hn hv (H1 h) (H2 h)
    | succ d ih =>
      intro i pl hi h
      have e : (nI i).toNatClampNeg = i := nI_clamp (by omega)
      have vi : vp_in (nI i) 120 := vp_in_nI (by omega) (by decide)
      have nx := fun (z : ¬ (a_code i = 2 ∧ ¬ a_number i < f_functions)) (pl : Int32) => ih (i + 1) pl (by omega) (fun j hj => by
        by_cases y : j = i
        · rw [y]; exact z
        · exact h j (by omega))
      refine br_f (by rw [ht]; exact nI_ge (by omega) (by omega)) ?_
      rw [e]
      exact ⟨vi, br_c (fun a => ⟨vi, br_c (fun b => nm_r (nI_1 _) (nx (fun z => z.2 b) _)) (fun b => H3 i (by omega) ⟨a, b⟩ h)⟩) (fun a => nm_r (nI_1 _) (nx (fun z => a z.1) _))⟩
  exact ⟨n + 1, key n 0 f_place (by omega) (fun j hj => by omega)⟩
