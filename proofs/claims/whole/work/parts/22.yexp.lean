/-! Y, not live: unary, the rest of an expression, functions, arguments -/
theorem ym_un {post : SY → Prop} {f_count f_place f_length f_functions f_loaded f_loops f_outside f_tt f_vt f_pos f_bad f_checking f_live f_pending f_carry f_active f_ticks f_status f_result f_endedAt f_used f_printed : Int32} {a_kind a_value a_code a_number a_given a_begins a_params a_todo a_val a_vars a_output a_memory : Nat → Int32} {n p h : Nat} {T : List Nat} (hx : f_pos = nI p) (hn : f_length = nI n) (hn' : n ≤ 120) (hp : p ≤ 120) (hb : f_bad = 0) (hv : f_vt = nI h) (hh : h < 1024) (ht : f_tt = nI T.length) (hd : yp_Td a_todo T) {d : Nat} (hdd : d = 28 ∨ d = 32 ∨ d = 33) (hl : T.length + 8 < 1300) (h1 : gm_tk a_code n p = nI d) (H : ∀ td, yp_Td td (yp_n 18 0 h :: yp_n 19 d h :: T) → post (f_count, f_place, f_length, f_functions, f_loaded, f_loops, f_outside, nI (yp_n 18 0 h :: yp_n 19 d h :: T).length, f_vt, nI (p + 1), f_bad, f_checking, f_live, f_pending, f_carry, f_active, f_ticks, f_status, f_result, f_endedAt, f_used, f_printed, a_kind, a_value, a_code, a_number, a_given, a_begins, a_params, td, a_val, a_vars, a_output, a_memory)) : wpY_unary post (f_count, f_place, f_length, f_functions, f_loaded, f_loops, f_outside, f_tt, f_vt, f_pos, f_bad, f_checking, f_live, f_pending, f_carry, f_active, f_ticks, f_status, f_result, f_endedAt, f_used, f_printed, a_kind, a_value, a_code, a_number, a_given, a_begins, a_params, a_todo, a_val, a_vars, a_output, a_memory) := by
  unfold wpY_unary
  refine ym_tok hx hn hn' hp ?_
  rw [h1]
  have key : wY_unary_96 post (nI d) f_count f_place f_length f_functions f_loaded f_loops f_outside f_tt f_vt (nI (p + 1)) f_bad f_checking f_live f_pending f_carry f_active f_ticks f_status f_result f_endedAt f_used f_printed a_kind a_value a_code a_number a_given a_begins a_params a_todo a_val a_vars a_output a_memory := by
    unfold wY_unary_96
    refine ym_then 19 d (by decide) (by omega) hv hh ht (by omega) hd fun td hd => ?_
    exact ym_then 18 0 (by decide) (by decide) hv hh rfl (by simp only [List.length_cons]; omega) hd H
  rcases hdd with rfl | rfl | rfl
  · exact nm_r ((congrArg (· + 1) hx).trans (nI_1 _)) (br_f (by decide) (br_f (by decide) (br_f (by decide) (br_f (by decide) (br_f (by decide) (br_t (by decide) key))))))
  · exact nm_r ((congrArg (· + 1) hx).trans (nI_1 _)) (br_f (by decide) (br_f (by decide) (br_f (by decide) (br_f (by decide) (br_f (by decide) (br_f (by decide) (br_t (by decide) key)))))))
  · exact nm_r ((congrArg (· + 1) hx).trans (nI_1 _)) (br_f (by decide) (br_f (by decide) (br_f (by decide) (br_f (by decide) (br_f (by decide) (br_f (by decide) (br_f (by decide) (br_t (by decide) key))))))))
theorem ym_un01 {post : SY → Prop} {f_count f_place f_length f_functions f_loaded f_loops f_outside f_tt f_vt f_pos f_bad f_checking f_live f_pending f_carry f_active f_ticks f_status f_result f_endedAt f_used f_printed : Int32} {a_kind a_value a_code a_number a_given a_begins a_params a_todo a_val a_vars a_output a_memory : Nat → Int32} {n p : Nat} (hx : f_pos = nI p) (hn : f_length = nI n) (hn' : n ≤ 120) (hp : p ≤ 120) (hli : f_live = 0) {d : Nat} (hdd : d = 0 ∨ d = 1) (h1 : gm_tk a_code n p = nI d) (H : post (f_count, f_place, f_length, f_functions, f_loaded, f_loops, f_outside, f_tt, f_vt, nI (p + 1), f_bad, f_checking, f_live, f_pending, f_carry, f_active, f_ticks, f_status, f_result, f_endedAt, f_used, f_printed, a_kind, a_value, a_code, a_number, a_given, a_begins, a_params, a_todo, a_val, a_vars, a_output, a_memory)) : wpY_unary post (f_count, f_place, f_length, f_functions, f_loaded, f_loops, f_outside, f_tt, f_vt, f_pos, f_bad, f_checking, f_live, f_pending, f_carry, f_active, f_ticks, f_status, f_result, f_endedAt, f_used, f_printed, a_kind, a_value, a_code, a_number, a_given, a_begins, a_params, a_todo, a_val, a_vars, a_output, a_memory) := by
  unfold wpY_unary
  refine ym_tok hx hn hn' hp ?_
  rw [h1]
  rcases hdd with rfl | rfl
  · exact nm_r ((congrArg (· + 1) hx).trans (nI_1 _)) (br_t (by decide) (br_t hli H))
  · exact nm_r ((congrArg (· + 1) hx).trans (nI_1 _)) (br_f (by decide) (br_t (by decide) (br_t hli H)))
theorem ym_un2 {post : SY → Prop} {f_count f_place f_length f_functions f_loaded f_loops f_outside f_tt f_vt f_pos f_bad f_checking f_live f_pending f_carry f_active f_ticks f_status f_result f_endedAt f_used f_printed : Int32} {a_kind a_value a_code a_number a_given a_begins a_params a_todo a_val a_vars a_output a_memory : Nat → Int32} {n p h : Nat} {T : List Nat} (hx : f_pos = nI p) (hn : f_length = nI n) (hn' : n ≤ 120) (hp : p ≤ 120) (hb : f_bad = 0) (hv : f_vt = nI h) (hh : h < 1024) (ht : f_tt = nI T.length) (hd : yp_Td a_todo T) (hl : T.length + 8 < 1300) (h1 : gm_tk a_code n p = 2) (hp' : p < n)
    (H1 : gm_tk a_code n (p + 1) = 4 → ∀ td, yp_Td td (yp_n 23 p h :: yp_n 25 p h :: T) → post (f_count, f_place, f_length, f_functions, f_loaded, f_loops, f_outside, nI (yp_n 23 p h :: yp_n 25 p h :: T).length, f_vt, nI (p + 2), f_bad, f_checking, f_live, f_pending, f_carry, f_active, f_ticks, f_status, f_result, f_endedAt, f_used, f_printed, a_kind, a_value, a_code, a_number, a_given, a_begins, a_params, td, a_val, a_vars, a_output, a_memory)) (H2 : ¬ gm_tk a_code n (p + 1) = 4 → ∀ tt td, post (f_count, f_place, f_length, f_functions, f_loaded, f_loops, f_outside, tt, f_vt, nI (p + 1), 1, f_checking, f_live, f_pending, f_carry, f_active, f_ticks, f_status, f_result, f_endedAt, f_used, f_printed, a_kind, a_value, a_code, a_number, a_given, a_begins, a_params, td, a_val, a_vars, a_output, a_memory)) : wpY_unary post (f_count, f_place, f_length, f_functions, f_loaded, f_loops, f_outside, f_tt, f_vt, f_pos, f_bad, f_checking, f_live, f_pending, f_carry, f_active, f_ticks, f_status, f_result, f_endedAt, f_used, f_printed, a_kind, a_value, a_code, a_number, a_given, a_begins, a_params, a_todo, a_val, a_vars, a_output, a_memory) := by
  unfold wpY_unary
  refine ym_tok hx hn hn' hp ?_
  rw [h1]
  refine nm_r ((congrArg (· + 1) hx).trans (nI_1 _)) (br_f (by decide) (br_f (by decide) (br_t (by decide) (?_))))
  subst hx
  unfold wpY_call
  refine ym_then 25 p (by decide) (by omega) hv hh ht (by omega) hd fun td hd => ?_
  refine ym_then 23 p (by decide) (by omega) hv hh rfl (by simp only [List.length_cons]; omega) hd fun td hd => ?_
  exact ym_take 4 rfl hn hn' (by omega) hb (fun z => H1 z _ hd) (fun z => H2 z _ _)
theorem ym_un3 {post : SY → Prop} {f_count f_place f_length f_functions f_loaded f_loops f_outside f_tt f_vt f_pos f_bad f_checking f_live f_pending f_carry f_active f_ticks f_status f_result f_endedAt f_used f_printed : Int32} {a_kind a_value a_code a_number a_given a_begins a_params a_todo a_val a_vars a_output a_memory : Nat → Int32} {n p h : Nat} {T : List Nat} (hx : f_pos = nI p) (hn : f_length = nI n) (hn' : n ≤ 120) (hp : p ≤ 120) (hb : f_bad = 0) (hv : f_vt = nI h) (hh : h < 1024) (ht : f_tt = nI T.length) (hd : yp_Td a_todo T) (hl : T.length + 8 < 1300) (h1 : gm_tk a_code n p = 3) (hp' : p < n)
    (H1 : gm_tk a_code n (p + 1) = 6 → ∀ td, yp_Td td (yp_n 16 0 h :: yp_n 4 7 h :: yp_n 22 p h :: T) → post (f_count, f_place, f_length, f_functions, f_loaded, f_loops, f_outside, nI (yp_n 16 0 h :: yp_n 4 7 h :: yp_n 22 p h :: T).length, f_vt, nI (p + 2), f_bad, f_checking, f_live, f_pending, f_carry, f_active, f_ticks, f_status, f_result, f_endedAt, f_used, f_printed, a_kind, a_value, a_code, a_number, a_given, a_begins, a_params, td, a_val, a_vars, a_output, a_memory)) (H2 : ¬ gm_tk a_code n (p + 1) = 6 → ∀ tt td, post (f_count, f_place, f_length, f_functions, f_loaded, f_loops, f_outside, tt, f_vt, nI (p + 1), 1, f_checking, f_live, f_pending, f_carry, f_active, f_ticks, f_status, f_result, f_endedAt, f_used, f_printed, a_kind, a_value, a_code, a_number, a_given, a_begins, a_params, td, a_val, a_vars, a_output, a_memory)) : wpY_unary post (f_count, f_place, f_length, f_functions, f_loaded, f_loops, f_outside, f_tt, f_vt, f_pos, f_bad, f_checking, f_live, f_pending, f_carry, f_active, f_ticks, f_status, f_result, f_endedAt, f_used, f_printed, a_kind, a_value, a_code, a_number, a_given, a_begins, a_params, a_todo, a_val, a_vars, a_output, a_memory) := by
  unfold wpY_unary
  refine ym_tok hx hn hn' hp ?_
  rw [h1]
  refine nm_r ((congrArg (· + 1) hx).trans (nI_1 _)) (br_f (by decide) (br_f (by decide) (br_f (by decide) (br_t (by decide) (?_)))))
  subst hx
  refine ym_then 22 p (by decide) (by omega) hv hh ht (by omega) hd fun td hd => ?_
  refine ym_then 4 7 (by decide) (by decide) hv hh rfl (by simp only [List.length_cons]; omega) hd fun td hd => ?_
  refine ym_then 16 0 (by decide) (by decide) hv hh rfl (by simp only [List.length_cons]; omega) hd fun td hd => ?_
  exact ym_take 6 rfl hn hn' (by omega) hb (fun z => H1 z _ hd) (fun z => H2 z _ _)
theorem ym_un4 {post : SY → Prop} {f_count f_place f_length f_functions f_loaded f_loops f_outside f_tt f_vt f_pos f_bad f_checking f_live f_pending f_carry f_active f_ticks f_status f_result f_endedAt f_used f_printed : Int32} {a_kind a_value a_code a_number a_given a_begins a_params a_todo a_val a_vars a_output a_memory : Nat → Int32} {n p h : Nat} {T : List Nat} (hx : f_pos = nI p) (hn : f_length = nI n) (hn' : n ≤ 120) (hp : p ≤ 120) (hb : f_bad = 0) (hv : f_vt = nI h) (hh : h < 1024) (ht : f_tt = nI T.length) (hd : yp_Td a_todo T) (hl : T.length + 8 < 1300) (h1 : gm_tk a_code n p = 4) (H : ∀ td, yp_Td td (yp_n 16 0 h :: yp_n 4 5 h :: T) → post (f_count, f_place, f_length, f_functions, f_loaded, f_loops, f_outside, nI (yp_n 16 0 h :: yp_n 4 5 h :: T).length, f_vt, nI (p + 1), f_bad, f_checking, f_live, f_pending, f_carry, f_active, f_ticks, f_status, f_result, f_endedAt, f_used, f_printed, a_kind, a_value, a_code, a_number, a_given, a_begins, a_params, td, a_val, a_vars, a_output, a_memory)) : wpY_unary post (f_count, f_place, f_length, f_functions, f_loaded, f_loops, f_outside, f_tt, f_vt, f_pos, f_bad, f_checking, f_live, f_pending, f_carry, f_active, f_ticks, f_status, f_result, f_endedAt, f_used, f_printed, a_kind, a_value, a_code, a_number, a_given, a_begins, a_params, a_todo, a_val, a_vars, a_output, a_memory) := by
  unfold wpY_unary
  refine ym_tok hx hn hn' hp ?_
  rw [h1]
  refine nm_r ((congrArg (· + 1) hx).trans (nI_1 _)) (br_f (by decide) (br_f (by decide) (br_f (by decide) (br_f (by decide) (br_t (by decide) (?_))))))
  refine ym_then 4 5 (by decide) (by decide) hv hh ht (by omega) hd fun td hd => ?_
  exact ym_then 16 0 (by decide) (by decide) hv hh rfl (by simp only [List.length_cons]; omega) hd H
theorem ym_unE {post : SY → Prop} {f_count f_place f_length f_functions f_loaded f_loops f_outside f_tt f_vt f_pos f_bad f_checking f_live f_pending f_carry f_active f_ticks f_status f_result f_endedAt f_used f_printed : Int32} {a_kind a_value a_code a_number a_given a_begins a_params a_todo a_val a_vars a_output a_memory : Nat → Int32} {n p : Nat} (hx : f_pos = nI p) (hn : f_length = nI n) (hn' : n ≤ 120) (hp : p ≤ 120) (h28 : ¬ gm_tk a_code n p = 28) (h32 : ¬ gm_tk a_code n p = 32) (h33 : ¬ gm_tk a_code n p = 33) (h0 : ¬ gm_tk a_code n p = 0)
    (h1 : ¬ gm_tk a_code n p = 1) (h2 : ¬ gm_tk a_code n p = 2) (h3 : ¬ gm_tk a_code n p = 3) (h4 : ¬ gm_tk a_code n p = 4) (H : post (f_count, f_place, f_length, f_functions, f_loaded, f_loops, f_outside, f_tt, f_vt, f_pos, 1, f_checking, f_live, f_pending, f_carry, f_active, f_ticks, f_status, f_result, f_endedAt, f_used, f_printed, a_kind, a_value, a_code, a_number, a_given, a_begins, a_params, a_todo, a_val, a_vars, a_output, a_memory)) : wpY_unary post (f_count, f_place, f_length, f_functions, f_loaded, f_loops, f_outside, f_tt, f_vt, f_pos, f_bad, f_checking, f_live, f_pending, f_carry, f_active, f_ticks, f_status, f_result, f_endedAt, f_used, f_printed, a_kind, a_value, a_code, a_number, a_given, a_begins, a_params, a_todo, a_val, a_vars, a_output, a_memory) := by
  unfold wpY_unary
  refine ym_tok hx hn hn' hp ?_
  exact nm_e (br_f h0 (br_f h1 (br_f h2 (br_f h3 (br_f h4 (br_f h28 (br_f h32 (br_f h33 H))))))))
theorem ym_str {post : Int32 → Prop} {t : Int32} (h : t = -1 ∨ ∃ k, k ≤ 41 ∧ t = nI k) (H : post (nI (gm_str t))) : wpY_strength post t := by
  rcases h with rfl | ⟨k, hk, rfl⟩
  · exact br_t (by decide) H
  · have e : (nI k).toNatClampNeg = k := nI_clamp (by omega)
    unfold gm_str at H
    rw [e] at H
    refine pk_lt k 13 (fun h => ?_) (fun h => pk_le k 31 (fun h' => pk_le 18 k (fun h2 => pk_le 20 k (fun h3 => pk_le 24 k (fun h4 => pk_le 27 k (fun h5 => pk_le 29 k (fun h6 => ?_) (fun h6 => ?_)) (fun h5 => ?_)) (fun h4 => ?_)) (fun h3 => ?_)) (fun h2 => ?_)) (fun h' => ?_))
    · rw [if_pos h] at H; exact H
    · rw [if_neg (by omega), if_neg (by omega), if_neg (by omega), if_neg (by omega), if_neg (by omega), if_neg (by omega), if_neg (by omega)] at H; exact H
    · rw [if_neg (by omega), if_neg (by omega), if_neg (by omega), if_neg (by omega), if_neg (by omega), if_neg (by omega), if_pos (by omega)] at H; exact H
    · rw [if_neg (by omega), if_neg (by omega), if_neg (by omega), if_neg (by omega), if_neg (by omega), if_pos (by omega)] at H; exact H
    · rw [if_neg (by omega), if_neg (by omega), if_neg (by omega), if_neg (by omega), if_pos (by omega)] at H; exact H
    · rw [if_neg (by omega), if_neg (by omega), if_neg (by omega), if_pos (by omega)] at H; exact H
    · rw [if_neg (by omega), if_neg (by omega), if_pos (by omega)] at H
      rw [show nI k - 12 = nI (k - 12) from pk_sub (b := 12) (by omega)]
      exact H
    · rw [if_neg (by omega), if_pos (by omega)] at H; exact H
theorem ym_131 {post : SY → Prop} {f_count f_place f_length f_functions f_loaded f_loops f_outside f_tt f_vt f_pos f_bad f_checking f_live f_pending f_carry f_active f_ticks f_status f_result f_endedAt f_used f_printed : Int32} {a_kind a_value a_code a_number a_given a_begins a_params a_todo a_val a_vars a_output a_memory : Nat → Int32} {h q : Nat} {x : Int32} {T : List Nat} (hq : x = nI q) (hq' : q + 1 < 1024) (hv : f_vt = nI h) (hh : h < 1024) (ht : f_tt = nI T.length) (hd : yp_Td a_todo T) (hl : T.length + 4 < 1300)
    (H : ∀ td, yp_Td td (yp_n 18 0 h :: yp_n 17 (q + 1) h :: T) → post (f_count, f_place, f_length, f_functions, f_loaded, f_loops, f_outside, nI (yp_n 18 0 h :: yp_n 17 (q + 1) h :: T).length, f_vt, f_pos, f_bad, f_checking, f_live, f_pending, f_carry, f_active, f_ticks, f_status, f_result, f_endedAt, f_used, f_printed, a_kind, a_value, a_code, a_number, a_given, a_begins, a_params, td, a_val, a_vars, a_output, a_memory)) : wY_expressionPart_131 post x f_count f_place f_length f_functions f_loaded f_loops f_outside f_tt f_vt f_pos f_bad f_checking f_live f_pending f_carry f_active f_ticks f_status f_result f_endedAt f_used f_printed a_kind a_value a_code a_number a_given a_begins a_params a_todo a_val a_vars a_output a_memory := by
  subst hq
  unfold wY_expressionPart_131
  rw [nI_1 q]
  refine ym_then 17 (q + 1) (by decide) hq' hv hh ht (by omega) hd fun td hd => ?_
  exact ym_then 18 0 (by decide) (by decide) hv hh rfl (by simp only [List.length_cons]; omega) hd H
theorem ym_bin0 {post : SY → Prop} {f_count f_place f_length f_functions f_loaded f_loops f_outside f_tt f_vt f_pos f_bad f_checking f_live f_pending f_carry f_active f_ticks f_status f_result f_endedAt f_used f_printed : Int32} {a_kind a_value a_code a_number a_given a_begins a_params a_todo a_val a_vars a_output a_memory : Nat → Int32} {n p w : Nat} {x : Int32} (hx : f_pos = nI p) (hn : f_length = nI n) (hn' : n ≤ 120) (hp : p ≤ 120) (hw : x = nI w) (hw' : w ≤ 11) (hr : ∀ q, q < n → ∃ k, k ≤ 41 ∧ a_code q = nI k) (h : gm_str (gm_tk a_code n p) < w) (H : post (f_count, f_place, f_length, f_functions, f_loaded, f_loops, f_outside, f_tt, f_vt, f_pos, f_bad, f_checking, f_live, f_pending, f_carry, f_active, f_ticks, f_status, f_result, f_endedAt, f_used, f_printed, a_kind, a_value, a_code, a_number, a_given, a_begins, a_params, a_todo, a_val, a_vars, a_output, a_memory)) : wpY_expressionPart post (f_count, f_place, f_length, f_functions, f_loaded, f_loops, f_outside, f_tt, f_vt, f_pos, f_bad, f_checking, f_live, f_pending, f_carry, f_active, f_ticks, f_status, f_result, f_endedAt, f_used, f_printed, a_kind, a_value, a_code, a_number, a_given, a_begins, a_params, a_todo, a_val, a_vars, a_output, a_memory) 17 x := by
  subst hw
  refine br_f (by decide) (br_f (by decide) (br_f (by decide) (br_f (by decide) (br_t (by decide) ?_))))
  refine ym_tok hx hn hn' hp ?_
  refine ym_str (gm_tk_r hr) ?_
  exact br_f (nI_ge h (by omega)) H
theorem ym_bin1 {post : SY → Prop} {f_count f_place f_length f_functions f_loaded f_loops f_outside f_tt f_vt f_pos f_bad f_checking f_live f_pending f_carry f_active f_ticks f_status f_result f_endedAt f_used f_printed : Int32} {a_kind a_value a_code a_number a_given a_begins a_params a_todo a_val a_vars a_output a_memory : Nat → Int32} {n p h : Nat} {T : List Nat} (hx : f_pos = nI p) (hn : f_length = nI n) (hn' : n ≤ 120) (hp : p ≤ 120) (hb : f_bad = 0) (hv : f_vt = nI h) (hh : h < 1024) (ht : f_tt = nI T.length) (hd : yp_Td a_todo T) {w : Nat} {x : Int32} (hw : x = nI w) (hw' : w ≤ 11) (hr : ∀ q, q < n → ∃ k, k ≤ 41 ∧ a_code q = nI k) (h1 : ¬ gm_str (gm_tk a_code n p) < w) (h2 : 2 < gm_str (gm_tk a_code n p)) (hp' : p < n) (hl : T.length + 8 < 1300)
    (H : ∀ td, yp_Td td (yp_n 18 0 h :: yp_n 17 (gm_str (gm_tk a_code n p) + 1) h :: yp_n 20 p h :: yp_n 17 w h :: T) → post (f_count, f_place, f_length, f_functions, f_loaded, f_loops, f_outside, nI (yp_n 18 0 h :: yp_n 17 (gm_str (gm_tk a_code n p) + 1) h :: yp_n 20 p h :: yp_n 17 w h :: T).length, f_vt, nI (p + 1), f_bad, f_checking, f_live, f_pending, f_carry, f_active, f_ticks, f_status, f_result, f_endedAt, f_used, f_printed, a_kind, a_value, a_code, a_number, a_given, a_begins, a_params, td, a_val, a_vars, a_output, a_memory)) : wpY_expressionPart post (f_count, f_place, f_length, f_functions, f_loaded, f_loops, f_outside, f_tt, f_vt, f_pos, f_bad, f_checking, f_live, f_pending, f_carry, f_active, f_ticks, f_status, f_result, f_endedAt, f_used, f_printed, a_kind, a_value, a_code, a_number, a_given, a_begins, a_params, a_todo, a_val, a_vars, a_output, a_memory) 17 x := by
  subst hw
  have hs := gm_str_le (gm_tk a_code n p)
  refine br_f (by decide) (br_f (by decide) (br_f (by decide) (br_f (by decide) (br_t (by decide) ?_))))
  refine ym_tok hx hn hn' hp ?_
  refine ym_str (gm_tk_r hr) ?_
  refine br_t (nI_le (by omega) (by omega)) (nm_r ((congrArg (· + 1) hx).trans (nI_1 _)) ?_)
  refine ym_then 17 w (by decide) (by omega) hv hh ht (by omega) hd fun td hd => ?_
  refine br_f (nI_ge (a := 2) h2 (by omega)) ?_
  subst hx
  refine ym_then 20 p (by decide) (by omega) hv hh rfl (by simp only [List.length_cons]; omega) hd fun td hd => ?_
  exact ym_131 rfl (by omega) hv hh rfl hd (by simp only [List.length_cons]; omega) H
theorem ym_bin2 {post : SY → Prop} {f_count f_place f_length f_functions f_loaded f_loops f_outside f_tt f_vt f_pos f_bad f_checking f_live f_pending f_carry f_active f_ticks f_status f_result f_endedAt f_used f_printed : Int32} {a_kind a_value a_code a_number a_given a_begins a_params a_todo a_val a_vars a_output a_memory : Nat → Int32} {n p h : Nat} {T : List Nat} (hx : f_pos = nI p) (hn : f_length = nI n) (hn' : n ≤ 120) (hp : p ≤ 120) (hb : f_bad = 0) (hv : f_vt = nI h) (hh : h < 1024) (ht : f_tt = nI T.length) (hd : yp_Td a_todo T) {w : Nat} {x : Int32} (hw : x = nI w) (hw' : w ≤ 11) (hli : f_live = 0) (hr : ∀ q, q < n → ∃ k, k ≤ 41 ∧ a_code q = nI k) (h1 : ¬ gm_str (gm_tk a_code n p) < w) (h2 : gm_str (gm_tk a_code n p) ≤ 2) (hp' : p < n) (hl : T.length + 8 < 1300)
    (H : ∀ td, yp_Td td (yp_n 18 0 h :: yp_n 17 (gm_str (gm_tk a_code n p) + 1) h :: yp_n 21 0 h :: yp_n 17 w h :: T) → post (f_count, f_place, f_length, f_functions, f_loaded, f_loops, f_outside, nI (yp_n 18 0 h :: yp_n 17 (gm_str (gm_tk a_code n p) + 1) h :: yp_n 21 0 h :: yp_n 17 w h :: T).length, f_vt, nI (p + 1), f_bad, f_checking, f_live, f_pending, f_carry, f_active, f_ticks, f_status, f_result, f_endedAt, f_used, f_printed, a_kind, a_value, a_code, a_number, a_given, a_begins, a_params, td, a_val, a_vars, a_output, a_memory)) : wpY_expressionPart post (f_count, f_place, f_length, f_functions, f_loaded, f_loops, f_outside, f_tt, f_vt, f_pos, f_bad, f_checking, f_live, f_pending, f_carry, f_active, f_ticks, f_status, f_result, f_endedAt, f_used, f_printed, a_kind, a_value, a_code, a_number, a_given, a_begins, a_params, a_todo, a_val, a_vars, a_output, a_memory) 17 x := by
  subst hw
  refine br_f (by decide) (br_f (by decide) (br_f (by decide) (br_f (by decide) (br_t (by decide) ?_))))
  refine ym_tok hx hn hn' hp ?_
  refine ym_str (gm_tk_r hr) ?_
  refine br_t (nI_le (by omega) (by omega)) (nm_r ((congrArg (· + 1) hx).trans (nI_1 _)) ?_)
  refine ym_then 17 w (by decide) (by omega) hv hh ht (by omega) hd fun td hd => ?_
  refine br_t (nI_le (b := 2) h2 (by decide)) ?_
  unfold wpY_decide
  refine br_t hli ?_
  unfold wY_decide_78
  refine ym_then 21 0 (by decide) (by decide) hv hh rfl (by simp only [List.length_cons]; omega) hd fun td hd => ?_
  exact ym_131 rfl (by omega) hv hh rfl hd (by simp only [List.length_cons]; omega) H
theorem yp_b8 {v : Nat} (hv : v < 128) : (nI v).toInt8.toInt32 = nI v := by
  have h : ∀ v : Fin 128, (nI v.val).toInt8.toInt32 = nI v.val := by decide +kernel
  exact h ⟨v, hv⟩
theorem ym_nb {v : Nat} (hv : v < 128) : vp_nar .byte (nI v).toInt8.toInt32 = nI v := by
  rw [pk_vb]
  exact yp_b8 hv
theorem ym_args0 {post : SY → Prop} {f_count f_place f_length f_functions f_loaded f_loops f_outside f_tt f_vt f_pos f_bad f_checking f_live f_pending f_carry f_active f_ticks f_status f_result f_endedAt f_used f_printed : Int32} {a_kind a_value a_code a_number a_given a_begins a_params a_todo a_val a_vars a_output a_memory : Nat → Int32} {n p h : Nat} {T : List Nat} (hx : f_pos = nI p) (hn : f_length = nI n) (hn' : n ≤ 120) (hp : p ≤ 120) (hb : f_bad = 0) (hv : f_vt = nI h) (hh : h < 1024) (ht : f_tt = nI T.length) (hd : yp_Td a_todo T) {q : Nat} {x : Int32} (hc : f_checking = 0) (hq : x = nI q) (hq' : q < 120) (hl : T.length + 8 < 1300)
    (H1 : gm_tk a_code n p = 5 → post (f_count, f_place, f_length, f_functions, f_loaded, f_loops, f_outside, f_tt, f_vt, nI (p + 1), f_bad, f_checking, f_live, f_pending, f_carry, f_active, f_ticks, f_status, f_result, f_endedAt, f_used, f_printed, a_kind, a_value, a_code, a_number, a_given, a_begins, a_params, a_todo, a_val, a_vars, a_output, a_memory)) (H2 : ¬ gm_tk a_code n p = 5 → ∀ td, yp_Td td (yp_n 16 0 h :: yp_n 24 q h :: T) → post (f_count, f_place, f_length, f_functions, f_loaded, f_loops, f_outside, nI (yp_n 16 0 h :: yp_n 24 q h :: T).length, f_vt, f_pos, f_bad, f_checking, f_live, f_pending, f_carry, f_active, f_ticks, f_status, f_result, f_endedAt, f_used, f_printed, a_kind, a_value, a_code, a_number, a_given, a_begins, a_params, td, a_val, a_vars, a_output, a_memory)) : wY_callPart_93 post 23 x f_count f_place f_length f_functions f_loaded f_loops f_outside f_tt f_vt f_pos f_bad f_checking f_live f_pending f_carry f_active f_ticks f_status f_result f_endedAt f_used f_printed a_kind a_value a_code a_number a_given a_begins a_params a_todo a_val a_vars a_output a_memory := by
  subst hq
  refine nm_r (e' := nI q) ((pk_andN (by omega) 7 (by decide)).trans (congrArg nI (Nat.mod_eq_of_lt (by omega)))) ?_
  refine br_t (by decide) (br_t hc ?_)
  unfold wY_callPart_120
  refine ym_tok hx hn hn' hp ?_
  refine br_c (fun z => nm_r ((congrArg (· + 1) hx).trans (nI_1 _)) (H1 z)) (fun z => br_f (by decide) ?_)
  refine br_t hc ?_
  unfold wY_callPart_174
  refine ym_then 24 q (by decide) (by omega) hv hh ht (by omega) hd fun td hd => ?_
  exact ym_then 16 0 (by decide) (by decide) hv hh rfl (by simp only [List.length_cons]; omega) hd (H2 z)
theorem ym_args1 {post : SY → Prop} {f_count f_place f_length f_functions f_loaded f_loops f_outside f_tt f_vt f_pos f_bad f_checking f_live f_pending f_carry f_active f_ticks f_status f_result f_endedAt f_used f_printed : Int32} {a_kind a_value a_code a_number a_given a_begins a_params a_todo a_val a_vars a_output a_memory : Nat → Int32} {n p h : Nat} {T : List Nat} (hx : f_pos = nI p) (hn : f_length = nI n) (hn' : n ≤ 120) (hp : p ≤ 120) (hb : f_bad = 0) (hv : f_vt = nI h) (hh : h < 1024) (ht : f_tt = nI T.length) (hd : yp_Td a_todo T) {q : Nat} {x : Int32} (hc : ¬ f_checking = 0) (hq : x = nI q) (hq' : q < 120) (hl : T.length + 8 < 1300)
    (H1 : gm_tk a_code n p = 5 → post (f_count, f_place, f_length, f_functions, f_loaded, f_loops, f_outside, f_tt, f_vt, nI (p + 1), f_bad, f_checking, f_live, f_pending, f_carry, f_active, f_ticks, f_status, f_result, f_endedAt, f_used, f_printed, a_kind, a_value, a_code, a_number, upd a_given q (nI 0), a_begins, a_params, a_todo, a_val, a_vars, a_output, a_memory)) (H2 : ¬ gm_tk a_code n p = 5 → ∀ td, yp_Td td (yp_n 16 0 h :: yp_n 24 q h :: T) → post (f_count, f_place, f_length, f_functions, f_loaded, f_loops, f_outside, nI (yp_n 16 0 h :: yp_n 24 q h :: T).length, f_vt, f_pos, f_bad, f_checking, f_live, f_pending, f_carry, f_active, f_ticks, f_status, f_result, f_endedAt, f_used, f_printed, a_kind, a_value, a_code, a_number, upd a_given q (nI 1), a_begins, a_params, td, a_val, a_vars, a_output, a_memory)) : wY_callPart_93 post 23 x f_count f_place f_length f_functions f_loaded f_loops f_outside f_tt f_vt f_pos f_bad f_checking f_live f_pending f_carry f_active f_ticks f_status f_result f_endedAt f_used f_printed a_kind a_value a_code a_number a_given a_begins a_params a_todo a_val a_vars a_output a_memory := by
  subst hq
  have h3 : (nI q).toNatClampNeg = q := nI_clamp (by omega)
  refine nm_r (e' := nI q) ((pk_andN (by omega) 7 (by decide)).trans (congrArg nI (Nat.mod_eq_of_lt (by omega)))) ?_
  refine br_t (by decide) (br_f hc ⟨vp_in_nI hq' (by decide), nm_r (e' := upd a_given q (nI 0)) (by rw [h3]; rfl) ?_⟩)
  unfold wY_callPart_120
  refine ym_tok hx hn hn' hp ?_
  refine br_c (fun z => nm_r ((congrArg (· + 1) hx).trans (nI_1 _)) (H1 z)) (fun z => br_f (by decide) ?_)
  refine br_f hc ⟨vp_in_nI hq' (by decide), vp_in_nI hq' (by decide), nm_r (e' := upd a_given q (nI 1)) (by rw [h3, pk_us, gu_uu]; rfl) ?_⟩
  unfold wY_callPart_174
  refine ym_then 24 q (by decide) (by omega) hv hh ht (by omega) hd fun td hd => ?_
  exact ym_then 16 0 (by decide) (by decide) hv hh rfl (by simp only [List.length_cons]; omega) hd (H2 z)
theorem ym_margs0 {post : SY → Prop} {f_count f_place f_length f_functions f_loaded f_loops f_outside f_tt f_vt f_pos f_bad f_checking f_live f_pending f_carry f_active f_ticks f_status f_result f_endedAt f_used f_printed : Int32} {a_kind a_value a_code a_number a_given a_begins a_params a_todo a_val a_vars a_output a_memory : Nat → Int32} {n p h : Nat} {T : List Nat} (hx : f_pos = nI p) (hn : f_length = nI n) (hn' : n ≤ 120) (hp : p ≤ 120) (hb : f_bad = 0) (hv : f_vt = nI h) (hh : h < 1024) (ht : f_tt = nI T.length) (hd : yp_Td a_todo T) {q : Nat} {x : Int32} (hc : f_checking = 0) (hq : x = nI q) (hq' : q < 120) (hl : T.length + 8 < 1300)
    (H1 : gm_tk a_code n p = 5 → post (f_count, f_place, f_length, f_functions, f_loaded, f_loops, f_outside, f_tt, f_vt, nI (p + 1), f_bad, f_checking, f_live, f_pending, f_carry, f_active, f_ticks, f_status, f_result, f_endedAt, f_used, f_printed, a_kind, a_value, a_code, a_number, a_given, a_begins, a_params, a_todo, a_val, a_vars, a_output, a_memory)) (H2 : ¬ gm_tk a_code n p = 5 → gm_tk a_code n p = 11 → ∀ td, yp_Td td (yp_n 16 0 h :: yp_n 24 q h :: T) → post (f_count, f_place, f_length, f_functions, f_loaded, f_loops, f_outside, nI (yp_n 16 0 h :: yp_n 24 q h :: T).length, f_vt, nI (p + 1), f_bad, f_checking, f_live, f_pending, f_carry, f_active, f_ticks, f_status, f_result, f_endedAt, f_used, f_printed, a_kind, a_value, a_code, a_number, a_given, a_begins, a_params, td, a_val, a_vars, a_output, a_memory))
    (H3 : ¬ gm_tk a_code n p = 5 → ¬ gm_tk a_code n p = 11 → post (f_count, f_place, f_length, f_functions, f_loaded, f_loops, f_outside, f_tt, f_vt, f_pos, 1, f_checking, f_live, f_pending, f_carry, f_active, f_ticks, f_status, f_result, f_endedAt, f_used, f_printed, a_kind, a_value, a_code, a_number, a_given, a_begins, a_params, a_todo, a_val, a_vars, a_output, a_memory)) : wY_callPart_93 post 24 x f_count f_place f_length f_functions f_loaded f_loops f_outside f_tt f_vt f_pos f_bad f_checking f_live f_pending f_carry f_active f_ticks f_status f_result f_endedAt f_used f_printed a_kind a_value a_code a_number a_given a_begins a_params a_todo a_val a_vars a_output a_memory := by
  subst hq
  refine nm_r (e' := nI q) ((pk_andN (by omega) 7 (by decide)).trans (congrArg nI (Nat.mod_eq_of_lt (by omega)))) ?_
  refine br_f (by decide) ?_
  unfold wY_callPart_120
  refine ym_tok hx hn hn' hp ?_
  refine br_c (fun z => nm_r ((congrArg (· + 1) hx).trans (nI_1 _)) (H1 z)) (fun z => br_t (by decide) ?_)
  refine ym_take 11 hx hn hn' hp hb (fun y => br_f (by decide) ?_) (fun y => br_t rfl (H3 z y))
  refine br_t hc ?_
  unfold wY_callPart_174
  refine ym_then 24 q (by decide) (by omega) hv hh ht (by omega) hd fun td hd => ?_
  exact ym_then 16 0 (by decide) (by decide) hv hh rfl (by simp only [List.length_cons]; omega) hd (H2 z y)
theorem ym_margs1 {post : SY → Prop} {f_count f_place f_length f_functions f_loaded f_loops f_outside f_tt f_vt f_pos f_bad f_checking f_live f_pending f_carry f_active f_ticks f_status f_result f_endedAt f_used f_printed : Int32} {a_kind a_value a_code a_number a_given a_begins a_params a_todo a_val a_vars a_output a_memory : Nat → Int32} {n p h : Nat} {T : List Nat} (hx : f_pos = nI p) (hn : f_length = nI n) (hn' : n ≤ 120) (hp : p ≤ 120) (hb : f_bad = 0) (hv : f_vt = nI h) (hh : h < 1024) (ht : f_tt = nI T.length) (hd : yp_Td a_todo T) {q c : Nat} {x : Int32} (hc : ¬ f_checking = 0) (hq : x = nI q) (hq' : q < 120) (hg : a_given q = nI c) (hg' : c < 127) (hl : T.length + 8 < 1300)
    (H1 : gm_tk a_code n p = 5 → post (f_count, f_place, f_length, f_functions, f_loaded, f_loops, f_outside, f_tt, f_vt, nI (p + 1), f_bad, f_checking, f_live, f_pending, f_carry, f_active, f_ticks, f_status, f_result, f_endedAt, f_used, f_printed, a_kind, a_value, a_code, a_number, a_given, a_begins, a_params, a_todo, a_val, a_vars, a_output, a_memory)) (H2 : ¬ gm_tk a_code n p = 5 → gm_tk a_code n p = 11 → ∀ td, yp_Td td (yp_n 16 0 h :: yp_n 24 q h :: T) → post (f_count, f_place, f_length, f_functions, f_loaded, f_loops, f_outside, nI (yp_n 16 0 h :: yp_n 24 q h :: T).length, f_vt, nI (p + 1), f_bad, f_checking, f_live, f_pending, f_carry, f_active, f_ticks, f_status, f_result, f_endedAt, f_used, f_printed, a_kind, a_value, a_code, a_number, upd a_given q (nI (c + 1)), a_begins, a_params, td, a_val, a_vars, a_output, a_memory))
    (H3 : ¬ gm_tk a_code n p = 5 → ¬ gm_tk a_code n p = 11 → post (f_count, f_place, f_length, f_functions, f_loaded, f_loops, f_outside, f_tt, f_vt, f_pos, 1, f_checking, f_live, f_pending, f_carry, f_active, f_ticks, f_status, f_result, f_endedAt, f_used, f_printed, a_kind, a_value, a_code, a_number, a_given, a_begins, a_params, a_todo, a_val, a_vars, a_output, a_memory)) : wY_callPart_93 post 24 x f_count f_place f_length f_functions f_loaded f_loops f_outside f_tt f_vt f_pos f_bad f_checking f_live f_pending f_carry f_active f_ticks f_status f_result f_endedAt f_used f_printed a_kind a_value a_code a_number a_given a_begins a_params a_todo a_val a_vars a_output a_memory := by
  subst hq
  have h3 : (nI q).toNatClampNeg = q := nI_clamp (by omega)
  refine nm_r (e' := nI q) ((pk_andN (by omega) 7 (by decide)).trans (congrArg nI (Nat.mod_eq_of_lt (by omega)))) ?_
  refine br_f (by decide) ?_
  unfold wY_callPart_120
  refine ym_tok hx hn hn' hp ?_
  refine br_c (fun z => nm_r ((congrArg (· + 1) hx).trans (nI_1 _)) (H1 z)) (fun z => br_t (by decide) ?_)
  refine ym_take 11 hx hn hn' hp hb (fun y => br_f (by decide) ?_) (fun y => br_t rfl (H3 z y))
  refine br_f hc ⟨vp_in_nI hq' (by decide), vp_in_nI hq' (by decide), nm_r (e' := upd a_given q (nI (c + 1))) (by rw [h3, hg, nI_1, ym_nb (by omega)]) ?_⟩
  unfold wY_callPart_174
  refine ym_then 24 q (by decide) (by omega) hv hh ht (by omega) hd fun td hd => ?_
  exact ym_then 16 0 (by decide) (by decide) hv hh rfl (by simp only [List.length_cons]; omega) hd (H2 z y)
theorem ym_fun {post : SY → Prop} {f_count f_place f_length f_functions f_loaded f_loops f_outside f_tt f_vt f_pos f_bad f_checking f_live f_pending f_carry f_active f_ticks f_status f_result f_endedAt f_used f_printed : Int32} {a_kind a_value a_code a_number a_given a_begins a_params a_todo a_val a_vars a_output a_memory : Nat → Int32} {n p h : Nat} {T : List Nat} (hx : f_pos = nI p) (hn : f_length = nI n) (hn' : n ≤ 120) (hp : p ≤ 120) (hb : f_bad = 0) (hv : f_vt = nI h) (hh : h < 1024) (ht : f_tt = nI T.length) (hd : yp_Td a_todo T) {fc : Nat} (hf : f_functions = nI fc) (hf4 : fc ≤ 4) (hr : ∀ q, q < n → ∃ k, k ≤ 41 ∧ a_code q = nI k) (hl : T.length + 8 < 1300)
    (H0 : gm_tk a_code n p = -1 → 0 < fc → post (f_count, f_place, f_length, f_functions, f_loaded, f_loops, f_outside, f_tt, f_vt, f_pos, f_bad, f_checking, f_live, f_pending, f_carry, f_active, f_ticks, f_status, f_result, f_endedAt, f_used, f_printed, a_kind, a_value, a_code, a_number, a_given, a_begins, a_params, a_todo, a_val, a_vars, a_output, a_memory))
    (H4 : ¬ (gm_tk a_code n p = -1 ∧ 0 < fc) → fc = 4 → post (f_count, f_place, f_length, f_functions, f_loaded, f_loops, f_outside, f_tt, f_vt, f_pos, 1, f_checking, f_live, f_pending, f_carry, f_active, f_ticks, f_status, f_result, f_endedAt, f_used, f_printed, a_kind, a_value, a_code, a_number, a_given, a_begins, a_params, a_todo, a_val, a_vars, a_output, a_memory))
    (H41 : ¬ (gm_tk a_code n p = -1 ∧ 0 < fc) → ¬ fc = 4 → ¬ gm_tk a_code n p = 41 → post (f_count, f_place, f_length, f_functions, f_loaded, f_loops, f_outside, f_tt, f_vt, f_pos, 1, f_checking, f_live, f_pending, f_carry, f_active, f_ticks, f_status, f_result, f_endedAt, f_used, f_printed, a_kind, a_value, a_code, a_number, a_given, a_begins, a_params, a_todo, a_val, a_vars, a_output, a_memory))
    (HN : gm_tk a_code n p = 41 → ¬ fc = 4 → ¬ (gm_tk a_code n (p + 1) = 0 ∧ 0 ≤ a_number (p + 1) ∧ a_number (p + 1) ≤ 3) → post (f_count, f_place, f_length, f_functions, f_loaded, f_loops, f_outside, f_tt, f_vt, nI (p + 1), 1, f_checking, f_live, f_pending, f_carry, f_active, f_ticks, f_status, f_result, f_endedAt, f_used, f_printed, a_kind, a_value, a_code, a_number, a_given, a_begins, a_params, a_todo, a_val, a_vars, a_output, a_memory))
    (H8 : gm_tk a_code n p = 41 → ¬ fc = 4 → gm_tk a_code n (p + 1) = 0 ∧ 0 ≤ a_number (p + 1) ∧ a_number (p + 1) ≤ 3 → ¬ gm_tk a_code n (p + 2) = 8 → post (f_count, f_place, f_length, f_functions, f_loaded, f_loops, f_outside, f_tt, f_vt, nI (p + 2), 1, f_checking, f_live, f_pending, f_carry, f_active, f_ticks, f_status, f_result, f_endedAt, f_used, f_printed, a_kind, a_value, a_code, a_number, a_given, a_begins, upd a_params fc (a_number (p + 1)), a_todo, a_val, a_vars, a_output, a_memory))
    (H : gm_tk a_code n p = 41 → ¬ fc = 4 → gm_tk a_code n (p + 1) = 0 ∧ 0 ≤ a_number (p + 1) ∧ a_number (p + 1) ≤ 3 → gm_tk a_code n (p + 2) = 8 → ∀ td, yp_Td td (yp_n 2 0 h :: yp_n 1 0 h :: T) → post (f_count, f_place, f_length, nI (fc + 1), f_loaded, f_loops, f_outside, nI (yp_n 2 0 h :: yp_n 1 0 h :: T).length, f_vt, nI (p + 3), f_bad, f_checking, f_live, f_pending, f_carry, f_active, f_ticks, f_status, f_result, f_endedAt, f_used, f_printed, a_kind, a_value, a_code, a_number, a_given, upd a_begins fc (nI (p + 3)), upd a_params fc (a_number (p + 1)), td, a_val, a_vars, a_output, a_memory)) : wpY_function post (f_count, f_place, f_length, f_functions, f_loaded, f_loops, f_outside, f_tt, f_vt, f_pos, f_bad, f_checking, f_live, f_pending, f_carry, f_active, f_ticks, f_status, f_result, f_endedAt, f_used, f_printed, a_kind, a_value, a_code, a_number, a_given, a_begins, a_params, a_todo, a_val, a_vars, a_output, a_memory) := by
  have key : ¬ (gm_tk a_code n p = -1 ∧ 0 < fc) → wY_function_15 post f_count f_place f_length f_functions f_loaded f_loops f_outside f_tt f_vt f_pos f_bad f_checking f_live f_pending f_carry f_active f_ticks f_status f_result f_endedAt f_used f_printed a_kind a_value a_code a_number a_given a_begins a_params a_todo a_val a_vars a_output a_memory := by
    intro hne
    unfold wY_function_15
    rw [hf]
    refine pk_eq fc 4 (fun z => ?_) (fun z => ?_)
    · rw [hf] at H4
      exact H4 hne z
    · refine ym_take 41 hx hn hn' hp hb (fun y => br_f (by decide) ?_) (fun y => br_t rfl ?_)
      · have hq := gm_tk_lt y (by decide)
        refine ym_tok rfl hn hn' (by omega) (br_c (fun a => ?_) (fun a => ?_))
        · have hq1 := gm_tk_lt a (by decide)
          have e1 : (nI (p + 1)).toNatClampNeg = p + 1 := nI_clamp (by omega)
          have v1 : vp_in (nI (p + 1)) 120 := vp_in_nI (by omega) (by decide)
          rw [e1]
          refine ⟨v1, br_c (fun b => ?_) (fun b => ⟨v1, br_c (fun c => ?_) (fun c => ?_)⟩)⟩
          · rw [hf] at HN
            exact HN y z (fun w => Int32.not_lt.mpr w.2.1 b)
          · have e2 : (nI fc).toNatClampNeg = fc := nI_clamp (by omega)
            have hw : gm_tk a_code n (p + 1) = 0 ∧ 0 ≤ a_number (p + 1) ∧ a_number (p + 1) ≤ 3 := ⟨a, Int32.not_lt.mp b, c⟩
            obtain ⟨u, hu, eu⟩ := nI_of2 (M := 3) (n := 3) (by decide) b c
            have nb : vp_nar .byte (a_number (p + 1)).toInt8.toInt32 = a_number (p + 1) := by rw [eu]; exact ym_nb (by omega)
            refine nm_r (nI_1 _) ⟨v1, vp_in_nI (by omega) (by decide), nm_r (e' := upd a_params fc (a_number (p + 1))) (by rw [e2, nb]) ?_⟩
            refine ym_take 8 rfl hn hn' (by omega) hb (fun d => br_f (by decide) ?_) (fun d => br_t rfl ?_)
            · refine nm_r (nI_1 _) ⟨vp_in_nI (by omega) (by decide), nm_r (e' := upd a_begins fc (nI (p + 3))) (by rw [e2]; exact congrArg (upd a_begins fc) (ym_nb (by omega))) ?_⟩
              have hq2 := gm_tk_lt d (by decide)
              refine ym_then 1 0 (by decide) (by decide) hv hh ht (by omega) hd fun td hd => ?_
              exact ym_then 2 0 (by decide) (by decide) hv hh rfl (by simp only [List.length_cons]; omega) hd (H y z hw d)
            · rw [hf] at H8
              exact H8 y z hw d
          · rw [hf] at HN
            exact HN y z (fun w => c w.2.2)
        · rw [hf] at HN
          exact HN y z (fun w => a w.1)
      · rw [hf] at H41
        exact H41 hne z y
  unfold wpY_function
  refine ym_tok hx hn hn' hp ?_
  rcases gm_tk_r (p := p) hr with hm | ⟨k, hk, hm⟩
  · rw [hm]
    refine br_f (by decide) ?_
    have e : f_functions = nI fc := hf
    rw [hf] at key H0 ⊢
    refine pk_le fc 0 (fun z => key (by omega)) (fun z => H0 hm z)
  · rw [hm]
    refine br_t (nI_pos' (by omega)) (key (fun w => ?_))
    rw [hm] at w
    exact absurd (nI_pos' (n := k) (by omega)) (by rw [w.1]; decide)
