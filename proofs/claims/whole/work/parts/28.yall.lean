/-! Y: compile as a whole -/
def yc_K (n : Nat) (f g : Nat → Int32) : Nat → Int32 := fun j => if j < n then f j else g j
theorem yc_K0 (f g : Nat → Int32) : yc_K 0 f g = g := by
  funext j
  exact if_neg (by omega)
theorem yc_Ks (n : Nat) (f g : Nat → Int32) : upd (yc_K n f g) n (f n) = yc_K (n + 1) f g := by
  funext j
  unfold yc_K
  by_cases h : j = n
  · subst h
    rw [pk_us, if_pos (by omega)]
  · rw [pk_un h]
    by_cases h2 : j < n
    · rw [if_pos h2, if_pos (by omega)]
    · rw [if_neg h2, if_neg (by omega)]
def yc_P (post : Int32 → SY → Prop) : SY → Prop := fun u => match u with
  | (f_count, f_place, f_length, f_functions, f_loaded, f_loops, f_outside, f_tt, f_vt, f_pos, f_bad, f_checking, f_live, f_pending, f_carry, f_active, f_ticks, f_status, f_result, f_endedAt, f_used, f_printed, a_kind, a_value, a_code, a_number, a_given, a_begins, a_params, a_todo, a_val, a_vars, a_output, a_memory) => ((f_bad = 0 → ((f_outside < 0 → ∃ n119 : Nat, wY_compile_119 post f_count f_length f_functions f_loaded f_loops f_outside f_tt f_vt f_pos f_bad f_checking f_live f_pending f_carry f_active f_ticks f_status f_result f_endedAt f_used f_printed a_kind a_value a_code a_number a_given a_begins a_params a_todo a_val a_vars a_output a_memory n119 0 f_outside) ∧ (¬ f_outside < 0 → post 2 (f_count, f_outside, f_length, f_functions, f_loaded, f_loops, f_outside, f_tt, f_vt, f_pos, f_bad, f_checking, f_live, f_pending, f_carry, f_active, f_ticks, f_status, f_result, f_endedAt, f_used, f_printed, a_kind, a_value, a_code, a_number, a_given, a_begins, a_params, a_todo, a_val, a_vars, a_output, a_memory)))) ∧ (¬ f_bad = 0 → post 1 (f_count, f_pos, f_length, f_functions, f_loaded, f_loops, f_outside, f_tt, f_vt, f_pos, f_bad, f_checking, f_live, f_pending, f_carry, f_active, f_ticks, f_status, f_result, f_endedAt, f_used, f_printed, a_kind, a_value, a_code, a_number, a_given, a_begins, a_params, a_todo, a_val, a_vars, a_output, a_memory)))
theorem yc_all {post : Int32 → SY → Prop} {f_count f_place f_length f_functions f_loaded f_loops f_outside f_tt f_vt f_pos f_bad f_checking f_live f_pending f_carry f_active f_ticks f_status f_result f_endedAt f_used f_printed : Int32} {a_kind a_value a_code a_number a_given a_begins a_params a_todo a_val a_vars a_output a_memory : Nat → Int32} {n : Nat} {A : gm_A} (hc : f_count = nI n) (hn : n ≤ 120) (ht : ∀ j, j < n → ∃ k, k ≤ 41 ∧ a_kind j = nI k) (h1 : A.2.2.2.2.1 = a_given) (h2 : A.2.2.2.2.2.2.1 = a_params) (h3 : A.2.2.2.2.2.2.2 = a_begins)
    (H : yQ (yc_P post) (f_count, f_place, nI n, 0, 0, 0, -1, 0, 0, 0, 0, 1, 0, 0, f_carry, 0, f_ticks, 0, f_result, f_endedAt, f_used, f_printed, a_kind, a_value, yc_K n a_kind a_code, yc_K n a_value a_number, a_given, a_begins, a_params, a_todo, a_val, a_vars, a_output, a_memory) true 0 0 [gi_P] [1] (-1) 0 A) : wpY_compile post (f_count, f_place, f_length, f_functions, f_loaded, f_loops, f_outside, f_tt, f_vt, f_pos, f_bad, f_checking, f_live, f_pending, f_carry, f_active, f_ticks, f_status, f_result, f_endedAt, f_used, f_printed, a_kind, a_value, a_code, a_number, a_given, a_begins, a_params, a_todo, a_val, a_vars, a_output, a_memory) := by
  subst h1 h2 h3
  have key : ∀ d i, i + d = n → wY_compile_10 post f_count f_place f_count f_functions f_loaded f_loops f_outside f_tt f_vt f_pos f_bad f_checking f_live f_pending f_carry f_active f_ticks f_status f_result f_endedAt f_used f_printed (d + 1) (nI i) a_kind a_value (yc_K i a_kind a_code) (yc_K i a_value a_number) A.2.2.2.2.1 A.2.2.2.2.2.2.2 A.2.2.2.2.2.2.1 a_todo a_val a_vars a_output a_memory := by
    intro d
    induction d with
    | zero =>
      intro i hi
      have : i = n := by omega
      subst this
      refine br_t (by rw [hc]; exact nI_le (Nat.le_refl _) (by omega)) ?_
      unfold wpY_begin
      refine ⟨rfl, rfl, br_f (by decide) ⟨rfl, rfl, ?_⟩⟩
      refine ym_then (T := []) (h := 0) 1 0 (by decide) (by decide) rfl (by decide) rfl (by decide) trivial fun td hd => ?_
      unfold wpY_work
      have H := H td hd 400001 (by decide)
      rw [← hc] at H
      exact ⟨400001, H⟩
    | succ d ih =>
      intro i hi
      have e : (nI i).toNatClampNeg = i := nI_clamp (by omega)
      have vi : vp_in (nI i) 120 := vp_in_nI (by omega) (by decide)
      obtain ⟨k, hk, ek⟩ := ht i (by omega)
      refine br_f (by rw [hc]; exact nI_ge (by omega) (by omega)) ?_
      rw [e]
      refine ⟨vi, vi, nm_r (e' := yc_K (i + 1) a_kind a_code) ?_ ⟨vi, vi, nm_r (e' := yc_K (i + 1) a_value a_number) (yc_Ks i a_value a_number) (nm_r (nI_1 _) (ih (i + 1) (by omega)))⟩⟩
      rw [← yc_Ks i a_kind a_code, ek]
      refine congrArg (upd _ i) ?_
      have := ym_nb (v := k) (by omega)
      rw [yp_b8 (by omega)] at this
      exact this
  unfold wpY_compile
  refine ⟨n + 1, ?_⟩
  have := key n 0 (by omega)
  rw [yc_K0, yc_K0] at this
  exact this
