/-! Y: the work loop; a state that isn't live along G's stack -/
def yW (post : SY → Prop) (m : Nat) (s : Int32) (u : SY) : Prop := match u with
  | (f_count, f_place, f_length, f_functions, f_loaded, f_loops, f_outside, f_tt, f_vt, f_pos, f_bad, f_checking, f_live, f_pending, f_carry, f_active, f_ticks, f_status, f_result, f_endedAt, f_used, f_printed, a_kind, a_value, a_code, a_number, a_given, a_begins, a_params, a_todo, a_val, a_vars, a_output, a_memory) => wY_work_2 post m s f_count f_place f_length f_functions f_loaded f_loops f_outside f_tt f_vt f_pos f_bad f_checking f_live f_pending f_carry f_active f_ticks f_status f_result f_endedAt f_used f_printed a_kind a_value a_code a_number a_given a_begins a_params a_todo a_val a_vars a_output a_memory
def yL (post : SY → Prop) (g : Nat) (u : SY) : Prop := ∀ m, 400000 < m + g → yW post m (nI g) u
def yp_e (e low : Nat) : Prop := e % 32768 = low ∧ e < 33554432
theorem yp_e_n {a b h : Nat} (ha : a < 32) (hb : b < 1024) (hh : h < 1024) : yp_e (yp_n a b h) (a + 32 * b) := by
  unfold yp_e
  dsimp only [yp_n]
  omega
theorem yp_e_dec {e a b : Nat} (he : yp_e e (a + 32 * b)) (ha : a < 32) (hb : b < 1024) : nI e &&& 31 = nI a ∧ (nI e >>> ((5 : Int32) &&& 31)) &&& 1023 = nI b ∧ nI e >>> ((15 : Int32) &&& 31) = nI (e / 32768) := by
  unfold yp_e at he
  have h1 : e / 32768 < 1024 := by omega
  have h2 : e = a + 32 * b + 32768 * (e / 32768) := by omega
  have := yp_dec ha hb h1
  rw [← h2] at this
  exact this
theorem yi_0 {post : SY → Prop} {f_count f_place f_length f_functions f_loaded f_loops f_outside f_tt f_vt f_pos f_bad f_checking f_live f_pending f_carry f_active f_ticks f_status f_result f_endedAt f_used f_printed : Int32} {a_kind a_value a_code a_number a_given a_begins a_params a_todo a_val a_vars a_output a_memory : Nat → Int32} {T : List Nat} {e g : Nat} (hg : g < 400000) (ht : f_tt = nI (e :: T).length) (hT : T.length < 1300) (hd : yp_Td a_todo (e :: T)) (hb : f_bad = 0) (hs : f_status = 0)
    (H : ∀ Q : SY → Prop, (∀ v, yL post (g + 1) v → Q v) → ∀ x3 x4 x5 : Int32, x3 = nI e &&& 31 → x4 = (nI e >>> ((5 : Int32) &&& 31)) &&& 1023 → x5 = nI e >>> ((15 : Int32) &&& 31) →
      ((15 ≤ x3 → ((22 ≤ x3 → wpY_callPart Q (f_count, f_place, f_length, f_functions, f_loaded, f_loops, f_outside, nI T.length, f_vt, f_pos, f_bad, f_checking, f_live, f_pending, f_carry, f_active, f_ticks, f_status, f_result, f_endedAt, f_used, f_printed, a_kind, a_value, a_code, a_number, a_given, a_begins, a_params, a_todo, a_val, a_vars, a_output, a_memory) x3 x4 x5) ∧ (¬ 22 ≤ x3 → wpY_expressionPart Q (f_count, f_place, f_length, f_functions, f_loaded, f_loops, f_outside, nI T.length, f_vt, f_pos, f_bad, f_checking, f_live, f_pending, f_carry, f_active, f_ticks, f_status, f_result, f_endedAt, f_used, f_printed, a_kind, a_value, a_code, a_number, a_given, a_begins, a_params, a_todo, a_val, a_vars, a_output, a_memory) x3 x4))) ∧ (¬ 15 ≤ x3 → wpY_statementPart Q (f_count, f_place, f_length, f_functions, f_loaded, f_loops, f_outside, nI T.length, f_vt, f_pos, f_bad, f_checking, f_live, f_pending, f_carry, f_active, f_ticks, f_status, f_result, f_endedAt, f_used, f_printed, a_kind, a_value, a_code, a_number, a_given, a_begins, a_params, a_todo, a_val, a_vars, a_output, a_memory) x3 x4))) : yL post g (f_count, f_place, f_length, f_functions, f_loaded, f_loops, f_outside, f_tt, f_vt, f_pos, f_bad, f_checking, f_live, f_pending, f_carry, f_active, f_ticks, f_status, f_result, f_endedAt, f_used, f_printed, a_kind, a_value, a_code, a_number, a_given, a_begins, a_params, a_todo, a_val, a_vars, a_output, a_memory) := by
  intro m hm
  obtain ⟨m, rfl⟩ : ∃ m', m = m' + 1 := ⟨m - 1, by omega⟩
  subst ht
  have h3 : nI (e :: T).length - 1 = nI T.length := nI_pred _
  have h2 : vp_in (nI T.length) 1300 := vp_in_nI hT (by decide)
  have h4 : (nI T.length).toNatClampNeg = T.length := nI_clamp (by omega)
  refine br_f (nI_ge (b := 400000) hg (by decide)) (br_f (nI_nle (by simp) (by simp; omega)) (br_t hb (br_t hs ?_)))
  rw [h3, h4, hd.1]
  refine nm_e ⟨h2, nm_e (fun x3 e3 x4 e4 x5 e5 => ?_)⟩
  have K : ∀ v, yL post (g + 1) v → (match v with | (f_count, f_place, f_length, f_functions, f_loaded, f_loops, f_outside, f_tt, f_vt, f_pos, f_bad, f_checking, f_live, f_pending, f_carry, f_active, f_ticks, f_status, f_result, f_endedAt, f_used, f_printed, a_kind, a_value, a_code, a_number, a_given, a_begins, a_params, a_todo, a_val, a_vars, a_output, a_memory) => ∀ x1 : Int32, x1 = nI g + 1 → wY_work_2 post m x1 f_count f_place f_length f_functions f_loaded f_loops f_outside f_tt f_vt f_pos f_bad f_checking f_live f_pending f_carry f_active f_ticks f_status f_result f_endedAt f_used f_printed a_kind a_value a_code a_number a_given a_begins a_params a_todo a_val a_vars a_output a_memory) := by
    intro v hv
    obtain ⟨f_count', f_place', f_length', f_functions', f_loaded', f_loops', f_outside', f_tt', f_vt', f_pos', f_bad', f_checking', f_live', f_pending', f_carry', f_active', f_ticks', f_status', f_result', f_endedAt', f_used', f_printed', a_kind', a_value', a_code', a_number', a_given', a_begins', a_params', a_todo', a_val', a_vars', a_output', a_memory'⟩ := v
    exact nm_r (nI_1 _) (hv m (by omega))
  exact H _ K x3 x4 x5 e3 e4 e5
theorem yi_s {post : SY → Prop} {f_count f_place f_length f_functions f_loaded f_loops f_outside f_tt f_vt f_pos f_bad f_checking f_live f_pending f_carry f_active f_ticks f_status f_result f_endedAt f_used f_printed : Int32} {a_kind a_value a_code a_number a_given a_begins a_params a_todo a_val a_vars a_output a_memory : Nat → Int32} {T : List Nat} {e g : Nat} (w b : Nat) (hw : w < 15) (he : yp_e e (w + 32 * b)) (hb' : b < 1024) (hg : g < 400000) (ht : f_tt = nI (e :: T).length) (hT : T.length < 1300) (hd : yp_Td a_todo (e :: T)) (hb : f_bad = 0) (hs : f_status = 0)
    (H : ∀ Q : SY → Prop, (∀ v, yL post (g + 1) v → Q v) → wpY_statementPart Q (f_count, f_place, f_length, f_functions, f_loaded, f_loops, f_outside, nI T.length, f_vt, f_pos, f_bad, f_checking, f_live, f_pending, f_carry, f_active, f_ticks, f_status, f_result, f_endedAt, f_used, f_printed, a_kind, a_value, a_code, a_number, a_given, a_begins, a_params, a_todo, a_val, a_vars, a_output, a_memory) (nI w) (nI b)) : yL post g (f_count, f_place, f_length, f_functions, f_loaded, f_loops, f_outside, f_tt, f_vt, f_pos, f_bad, f_checking, f_live, f_pending, f_carry, f_active, f_ticks, f_status, f_result, f_endedAt, f_used, f_printed, a_kind, a_value, a_code, a_number, a_given, a_begins, a_params, a_todo, a_val, a_vars, a_output, a_memory) := by
  refine yi_0 hg ht hT hd hb hs fun Q hQ x3 x4 x5 e3 e4 e5 => ?_
  have h := yp_e_dec he (by omega) hb'
  rw [h.1] at e3
  rw [h.2.1] at e4
  subst e3 e4
  exact br_f (nI_ge (b := 15) hw (by decide)) (H Q hQ)
theorem yi_e {post : SY → Prop} {f_count f_place f_length f_functions f_loaded f_loops f_outside f_tt f_vt f_pos f_bad f_checking f_live f_pending f_carry f_active f_ticks f_status f_result f_endedAt f_used f_printed : Int32} {a_kind a_value a_code a_number a_given a_begins a_params a_todo a_val a_vars a_output a_memory : Nat → Int32} {T : List Nat} {e g : Nat} (w b : Nat) (hw : 15 ≤ w) (hw' : w < 22) (he : yp_e e (w + 32 * b)) (hb' : b < 1024) (hg : g < 400000) (ht : f_tt = nI (e :: T).length) (hT : T.length < 1300) (hd : yp_Td a_todo (e :: T)) (hb : f_bad = 0) (hs : f_status = 0)
    (H : ∀ Q : SY → Prop, (∀ v, yL post (g + 1) v → Q v) → wpY_expressionPart Q (f_count, f_place, f_length, f_functions, f_loaded, f_loops, f_outside, nI T.length, f_vt, f_pos, f_bad, f_checking, f_live, f_pending, f_carry, f_active, f_ticks, f_status, f_result, f_endedAt, f_used, f_printed, a_kind, a_value, a_code, a_number, a_given, a_begins, a_params, a_todo, a_val, a_vars, a_output, a_memory) (nI w) (nI b)) : yL post g (f_count, f_place, f_length, f_functions, f_loaded, f_loops, f_outside, f_tt, f_vt, f_pos, f_bad, f_checking, f_live, f_pending, f_carry, f_active, f_ticks, f_status, f_result, f_endedAt, f_used, f_printed, a_kind, a_value, a_code, a_number, a_given, a_begins, a_params, a_todo, a_val, a_vars, a_output, a_memory) := by
  refine yi_0 hg ht hT hd hb hs fun Q hQ x3 x4 x5 e3 e4 e5 => ?_
  have h := yp_e_dec he (by omega) hb'
  rw [h.1] at e3
  rw [h.2.1] at e4
  subst e3 e4
  exact br_t (nI_le (a := 15) hw (by omega)) (br_f (nI_ge (b := 22) hw' (by decide)) (H Q hQ))
theorem yi_c {post : SY → Prop} {f_count f_place f_length f_functions f_loaded f_loops f_outside f_tt f_vt f_pos f_bad f_checking f_live f_pending f_carry f_active f_ticks f_status f_result f_endedAt f_used f_printed : Int32} {a_kind a_value a_code a_number a_given a_begins a_params a_todo a_val a_vars a_output a_memory : Nat → Int32} {T : List Nat} {e g : Nat} (w b : Nat) (hw : 22 ≤ w) (hw' : w < 32) (he : yp_e e (w + 32 * b)) (hb' : b < 1024) (hg : g < 400000) (ht : f_tt = nI (e :: T).length) (hT : T.length < 1300) (hd : yp_Td a_todo (e :: T)) (hb : f_bad = 0) (hs : f_status = 0)
    (H : ∀ Q : SY → Prop, (∀ v, yL post (g + 1) v → Q v) → wpY_callPart Q (f_count, f_place, f_length, f_functions, f_loaded, f_loops, f_outside, nI T.length, f_vt, f_pos, f_bad, f_checking, f_live, f_pending, f_carry, f_active, f_ticks, f_status, f_result, f_endedAt, f_used, f_printed, a_kind, a_value, a_code, a_number, a_given, a_begins, a_params, a_todo, a_val, a_vars, a_output, a_memory) (nI w) (nI b) (nI (e / 32768))) : yL post g (f_count, f_place, f_length, f_functions, f_loaded, f_loops, f_outside, f_tt, f_vt, f_pos, f_bad, f_checking, f_live, f_pending, f_carry, f_active, f_ticks, f_status, f_result, f_endedAt, f_used, f_printed, a_kind, a_value, a_code, a_number, a_given, a_begins, a_params, a_todo, a_val, a_vars, a_output, a_memory) := by
  refine yi_0 hg ht hT hd hb hs fun Q hQ x3 x4 x5 e3 e4 e5 => ?_
  have h := yp_e_dec he (by omega) hb'
  rw [h.1] at e3
  rw [h.2.1] at e4
  rw [h.2.2] at e5
  subst e3 e4 e5
  exact br_t (nI_le (a := 15) (by omega) (by omega)) (br_t (nI_le (a := 22) hw (by omega)) (H Q hQ))
/-- the code of an item in Y's todo, but for the height -/
def yd_c (x : gm_I) : Nat :=
  if x.1 = 1 then 1 else if x.1 = 3 then 2 else if x.1 = 4 then 3 else if x.1 = 5 then 4 + 32 * x.2.1 else if x.1 = 6 then 6 else if x.1 = 9 then 8 + 32 * x.2.2.1
  else if x.1 = 13 then 17 + 32 * x.2.1 else if x.1 = 14 then 18 else if x.1 = 15 then 21 else if x.1 = 16 then 23 + 32 * x.2.1 else if x.1 = 17 then 24 + 32 * x.2.1 else if x.1 = 18 then 25 + 32 * x.2.1 else x.2.2.2.1
def yd_R (c : Bool) (pd : Int32) (Tb : List Nat) : List gm_I → List Nat → Prop
  | [], T => T = Tb
  | x :: S, T =>
    if x.1 = 1 then c = true ∧ ∃ e T', T = e :: T' ∧ yp_e e 1 ∧ yd_R c pd Tb S T'
    else if x.1 = 2 then c = true ∧ yd_R c pd Tb S T
    else if x.1 = 8 then yd_R c pd Tb S T
    else if x.1 = 10 then (c = true ∧ ∃ e T', T = e :: T' ∧ yp_e e 10 ∧ yd_R c pd Tb S T') ∨ (c = false ∧ (yd_R c pd Tb S T ∨ (pd = 3 ∧ ∃ q e T', T = e :: T' ∧ q < 1024 ∧ yp_e e (9 + 32 * q) ∧ yd_R c pd Tb S T')))
    else if x.1 = 7 then ∃ q e T', T = e :: T' ∧ q < 2 ∧ yp_e e (7 + 32 * q) ∧ yd_R c pd Tb S T'
    else if x.1 = 12 then (x.2.1 = 1 ∧ ∃ e T', T = e :: T' ∧ yp_e e 16 ∧ yd_R c pd Tb S T') ∨ (x.2.1 ≠ 1 ∧ ∃ e f T', T = e :: f :: T' ∧ yp_e e 18 ∧ yp_e f (17 + 32 * x.2.1) ∧ yd_R c pd Tb S T')
    else ∃ e T', T = e :: T' ∧ yp_e e (yd_c x) ∧ yd_R c pd Tb S T'
theorem yd_len1 {c : Bool} {pd : Int32} {Tb : List Nat} : ∀ {S : List gm_I} {T : List Nat}, yd_R c pd Tb S T → T.length ≤ Tb.length + gm_sm gw_p S
  | [], T, h => by rw [show T = Tb from h]; simp [gm_sm]
  | x :: S, T, h => by
    have ih := @yd_len1 c pd Tb S
    unfold yd_R at h
    simp only [gm_sm]
    obtain ⟨t, a, b, d, v⟩ := x
    dsimp only at h
    by_cases z : t = 1
    · subst z; rw [if_pos rfl] at h
      obtain ⟨h0, e, T', e1, _, e3⟩ := h
      have := ih e3; subst e1; simp [gw_p]; omega
    rw [if_neg z] at h
    by_cases z : t = 2
    · rw [if_pos z] at h; have := ih h.2; omega
    rw [if_neg z] at h
    by_cases z : t = 8
    · rw [if_pos z] at h; have := ih h; omega
    rw [if_neg z] at h
    by_cases z : t = 10
    · subst z; rw [if_pos rfl] at h
      rcases h with ⟨_, e, T', e1, _, e3⟩ | ⟨_, e3 | ⟨_, q, e, T', e1, _, _, e3⟩⟩
      · have := ih e3; subst e1; simp [gw_p, gw_c, gw_r]; omega
      · have := ih e3; omega
      · have := ih e3; subst e1; simp [gw_p, gw_c, gw_r]; omega
    rw [if_neg z] at h
    by_cases z : t = 7
    · subst z; rw [if_pos rfl] at h
      obtain ⟨q, e, T', e1, _, _, e3⟩ := h
      have := ih e3; subst e1; simp [gw_p, gw_c, gw_r]; omega
    rw [if_neg z] at h
    by_cases z : t = 12
    · subst z; rw [if_pos rfl] at h
      rcases h with ⟨_, e, T', e1, _, e3⟩ | ⟨_, e, f, T', e1, _, _, e3⟩
      · have := ih e3; subst e1; simp [gw_p, gw_c, gw_r]; omega
      · have := ih e3; subst e1; simp [gw_p, gw_c, gw_r]; omega
    rw [if_neg z] at h
    obtain ⟨e, T', e1, _, e3⟩ := h
    have := ih e3; subst e1
    have hw : 1 ≤ gw_p (t, a, b, d, v) := by
      simp only [gw_p, gw_c, gw_r]
      repeat' split
      all_goals omega
    simp only [List.length_cons]
    omega
theorem yd_len2 {c : Bool} {pd : Int32} {Tb : List Nat} (hc : c = false) : ∀ {S : List gm_I} {T : List Nat}, yd_R c pd Tb S T → T.length ≤ Tb.length + gm_sm gw_c S + gm_sm gw_r S
  | [], T, h => by rw [show T = Tb from h]; simp [gm_sm]
  | x :: S, T, h => by
    have ih := @yd_len2 c pd Tb hc S
    unfold yd_R at h
    simp only [gm_sm]
    obtain ⟨t, a, b, d, v⟩ := x
    dsimp only at h
    by_cases z : t = 1
    · subst z; rw [if_pos rfl] at h
      obtain ⟨h0, e, T', e1, _, e3⟩ := h
      rw [hc] at h0; cases h0
    rw [if_neg z] at h
    by_cases z : t = 2
    · rw [if_pos z] at h; have := ih h.2; omega
    rw [if_neg z] at h
    by_cases z : t = 8
    · rw [if_pos z] at h; have := ih h; omega
    rw [if_neg z] at h
    by_cases z : t = 10
    · subst z; rw [if_pos rfl] at h
      rcases h with ⟨_, e, T', e1, _, e3⟩ | ⟨_, e3 | ⟨_, q, e, T', e1, _, _, e3⟩⟩
      · have := ih e3; subst e1; simp [gw_p, gw_c, gw_r]; omega
      · have := ih e3; omega
      · have := ih e3; subst e1; simp [gw_p, gw_c, gw_r]; omega
    rw [if_neg z] at h
    by_cases z : t = 7
    · subst z; rw [if_pos rfl] at h
      obtain ⟨q, e, T', e1, _, _, e3⟩ := h
      have := ih e3; subst e1; simp [gw_p, gw_c, gw_r]; omega
    rw [if_neg z] at h
    by_cases z : t = 12
    · subst z; rw [if_pos rfl] at h
      rcases h with ⟨_, e, T', e1, _, e3⟩ | ⟨_, e, f, T', e1, _, _, e3⟩
      · have := ih e3; subst e1; simp [gw_p, gw_c, gw_r]; omega
      · have := ih e3; subst e1; simp [gw_p, gw_c, gw_r]; omega
    rw [if_neg z] at h
    obtain ⟨e, T', e1, _, e3⟩ := h
    have := ih e3; subst e1
    have hw : 1 ≤ gw_c (t, a, b, d, v) + gw_r (t, a, b, d, v) := by
      simp only [gw_p, gw_c, gw_r]
      repeat' split
      all_goals omega
    simp only [List.length_cons]
    omega
