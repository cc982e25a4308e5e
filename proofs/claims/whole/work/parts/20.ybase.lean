/-! Y: the todo stack as a list; the small methods -/
def yp_Td (td : Nat → Int32) : List Nat → Prop
  | [] => True
  | e :: T => td T.length = nI e ∧ yp_Td td T
theorem yp_Td_up {td : Nat → Int32} {k : Nat} {a : Int32} : ∀ {T : List Nat}, yp_Td td T → T.length ≤ k → yp_Td (upd td k a) T
  | [], _, _ => trivial
  | x :: l, h, hk => by
    have h1 : l.length + 1 ≤ k := hk
    have h2 : l.length ≠ k := by omega
    exact ⟨(pk_un h2).trans h.1, yp_Td_up h.2 (by omega)⟩
theorem yp_or (a b : Nat) : nI a ||| nI b = nI (a ||| b) := by
  apply Int32.toBitVec_inj.mp
  apply BitVec.eq_of_toNat_eq
  rw [Int32.toBitVec_or, BitVec.toNat_or]
  show a % 2 ^ 32 ||| b % 2 ^ 32 = (a ||| b) % 2 ^ 32
  exact (Nat.or_mod_two_pow).symm
theorem yp_or2 {a b i : Nat} (h : a < 2 ^ i) : a ||| b * 2 ^ i = a + b * 2 ^ i := by
  rw [Nat.or_comm, ← Nat.shiftLeft_eq, ← Nat.shiftLeft_add_eq_or_of_lt h, Nat.add_comm]
theorem yp_enc {a b h : Nat} (ha : a < 32) (hb : b < 1024) (hh : h < 1024) :
    (nI a ||| (nI b <<< ((5 : Int32) &&& 31))) ||| (nI h <<< ((15 : Int32) &&& 31)) = nI (a + 32 * b + 32768 * h) := by
  rw [pk_shlN ((5 : Int32) &&& 31) 5 (by decide) (by omega), pk_shlN ((15 : Int32) &&& 31) 15 (by decide) (by omega), yp_or, yp_or]
  rw [yp_or2 (i := 5) (by omega), yp_or2 (i := 15) (by omega)]
  exact congrArg nI (by omega)
theorem yp_dec {a b h : Nat} (ha : a < 32) (hb : b < 1024) (hh : h < 1024) :
    nI (a + 32 * b + 32768 * h) &&& 31 = nI a ∧ (nI (a + 32 * b + 32768 * h) >>> ((5 : Int32) &&& 31)) &&& 1023 = nI b ∧ nI (a + 32 * b + 32768 * h) >>> ((15 : Int32) &&& 31) = nI h := by
  refine ⟨?_, ?_, ?_⟩
  · rw [pk_andN (by omega) 5 (by decide)]
    exact congrArg nI (by omega)
  · rw [pk_shrN (by omega) _ 5 (by decide), pk_andN (by omega) 10 (by decide)]
    exact congrArg nI (by omega)
  · rw [pk_shrN (by omega) _ 15 (by decide)]
    exact congrArg nI (by omega)
theorem ym_then {post : SY → Prop} {f_count f_place f_length f_functions f_loaded f_loops f_outside f_tt f_vt f_pos f_bad f_checking f_live f_pending f_carry f_active f_ticks f_status f_result f_endedAt f_used f_printed : Int32} {a_kind a_value a_code a_number a_given a_begins a_params a_todo a_val a_vars a_output a_memory : Nat → Int32} {T : List Nat} {h : Nat} (a b : Nat) (ha : a < 32) (hb : b < 1024) (hv : f_vt = nI h) (hh : h < 1024) (ht : f_tt = nI T.length) (hT : T.length < 1300) (hd : yp_Td a_todo T)
    (H : ∀ td, yp_Td td ((a + 32 * b + 32768 * h) :: T) → post (f_count, f_place, f_length, f_functions, f_loaded, f_loops, f_outside, nI ((a + 32 * b + 32768 * h) :: T).length, f_vt, f_pos, f_bad, f_checking, f_live, f_pending, f_carry, f_active, f_ticks, f_status, f_result, f_endedAt, f_used, f_printed, a_kind, a_value, a_code, a_number, a_given, a_begins, a_params, td, a_val, a_vars, a_output, a_memory)) : wpY_then post (f_count, f_place, f_length, f_functions, f_loaded, f_loops, f_outside, f_tt, f_vt, f_pos, f_bad, f_checking, f_live, f_pending, f_carry, f_active, f_ticks, f_status, f_result, f_endedAt, f_used, f_printed, a_kind, a_value, a_code, a_number, a_given, a_begins, a_params, a_todo, a_val, a_vars, a_output, a_memory) (nI a) (nI b) := by
  subst hv ht
  have h3 : (nI T.length).toNatClampNeg = T.length := nI_clamp (by omega)
  refine nm_r (nI_1 _) ⟨vp_in_nI hT (by decide), nm_r (by rw [h3, yp_enc ha hb hh]) ?_⟩
  exact H _ ⟨pk_us, yp_Td_up hd (Nat.le_refl _)⟩
theorem ym_tok {post : Int32 → Prop} {f_count f_place f_length f_functions f_loaded f_loops f_outside f_tt f_vt f_pos f_bad f_checking f_live f_pending f_carry f_active f_ticks f_status f_result f_endedAt f_used f_printed : Int32} {a_kind a_value a_code a_number a_given a_begins a_params a_todo a_val a_vars a_output a_memory : Nat → Int32} {n p : Nat} (hx : f_pos = nI p) (hn : f_length = nI n) (hn' : n ≤ 120) (hp : p ≤ 120) (H : post (gm_tk a_code n p)) : wpY_tok post (f_count, f_place, f_length, f_functions, f_loaded, f_loops, f_outside, f_tt, f_vt, f_pos, f_bad, f_checking, f_live, f_pending, f_carry, f_active, f_ticks, f_status, f_result, f_endedAt, f_used, f_printed, a_kind, a_value, a_code, a_number, a_given, a_begins, a_params, a_todo, a_val, a_vars, a_output, a_memory) := by
  subst hx hn
  refine pk_le n p (fun h => ?_) (fun h => ?_)
  · rwa [show gm_tk a_code n p = -1 from if_neg (by omega)] at H
  · rw [show gm_tk a_code n p = a_code p from if_pos h] at H
    refine ⟨vp_in_nI (by omega) (by decide), ?_⟩
    rw [nI_clamp (by omega)]
    exact H
theorem ym_take {post : Int32 → SY → Prop} {f_count f_place f_length f_functions f_loaded f_loops f_outside f_tt f_vt f_pos f_bad f_checking f_live f_pending f_carry f_active f_ticks f_status f_result f_endedAt f_used f_printed : Int32} {a_kind a_value a_code a_number a_given a_begins a_params a_todo a_val a_vars a_output a_memory : Nat → Int32} {n p : Nat} (k : Int32) (hx : f_pos = nI p) (hn : f_length = nI n) (hn' : n ≤ 120) (hp : p ≤ 120) (hb : f_bad = 0)
    (H1 : gm_tk a_code n p = k → post 1 (f_count, f_place, f_length, f_functions, f_loaded, f_loops, f_outside, f_tt, f_vt, nI (p + 1), f_bad, f_checking, f_live, f_pending, f_carry, f_active, f_ticks, f_status, f_result, f_endedAt, f_used, f_printed, a_kind, a_value, a_code, a_number, a_given, a_begins, a_params, a_todo, a_val, a_vars, a_output, a_memory)) (H2 : ¬ gm_tk a_code n p = k → post 0 (f_count, f_place, f_length, f_functions, f_loaded, f_loops, f_outside, f_tt, f_vt, f_pos, 1, f_checking, f_live, f_pending, f_carry, f_active, f_ticks, f_status, f_result, f_endedAt, f_used, f_printed, a_kind, a_value, a_code, a_number, a_given, a_begins, a_params, a_todo, a_val, a_vars, a_output, a_memory)) : wpY_take post (f_count, f_place, f_length, f_functions, f_loaded, f_loops, f_outside, f_tt, f_vt, f_pos, f_bad, f_checking, f_live, f_pending, f_carry, f_active, f_ticks, f_status, f_result, f_endedAt, f_used, f_printed, a_kind, a_value, a_code, a_number, a_given, a_begins, a_params, a_todo, a_val, a_vars, a_output, a_memory) k := by
  refine br_t hb (ym_tok hx hn hn' hp (br_c (fun h => ?_) (fun h => H2 h)))
  subst hx
  exact nm_r (nI_1 _) (H1 h)
