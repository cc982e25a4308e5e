/-! Y, live -/
def yR (post : SY → Prop) (W : SY) (g a : Nat) (vs : List Int32) (p t pr : Nat) (T : List Nat) (vr mem out : Nat → Int32) : Prop :=
  ∀ td va ca, yp_Td td T → zp_V va vs → yL post g (W.1, W.2.1, W.2.2.1, W.2.2.2.1, W.2.2.2.2.1, W.2.2.2.2.2.1, W.2.2.2.2.2.2.1, nI T.length, nI vs.length, nI p, 0, W.2.2.2.2.2.2.2.2.2.2.2.1, 1, 0, ca, nI a, nI t, 0, W.2.2.2.2.2.2.2.2.2.2.2.2.2.2.2.2.2.2.1, -1, W.2.2.2.2.2.2.2.2.2.2.2.2.2.2.2.2.2.2.2.2.1, nI pr, W.2.2.2.2.2.2.2.2.2.2.2.2.2.2.2.2.2.2.2.2.2.2.1, W.2.2.2.2.2.2.2.2.2.2.2.2.2.2.2.2.2.2.2.2.2.2.2.1, W.2.2.2.2.2.2.2.2.2.2.2.2.2.2.2.2.2.2.2.2.2.2.2.2.1, W.2.2.2.2.2.2.2.2.2.2.2.2.2.2.2.2.2.2.2.2.2.2.2.2.2.1, W.2.2.2.2.2.2.2.2.2.2.2.2.2.2.2.2.2.2.2.2.2.2.2.2.2.2.1, W.2.2.2.2.2.2.2.2.2.2.2.2.2.2.2.2.2.2.2.2.2.2.2.2.2.2.2.1, W.2.2.2.2.2.2.2.2.2.2.2.2.2.2.2.2.2.2.2.2.2.2.2.2.2.2.2.2.1, td, va, vr, out, mem)
def ySt (post : SY → Prop) (W : SY) (g a : Nat) (vs : List Int32) (p t pr : Nat) (T : List Nat) (vr mem out : Nat → Int32) : Prop :=
  ∀ Q : SY → Prop, (∀ v, yL post (g + 1) v → Q v) → ∀ td va ca, yp_Td td T → zp_V va vs → wpY_statement Q (W.1, W.2.1, W.2.2.1, W.2.2.2.1, W.2.2.2.2.1, W.2.2.2.2.2.1, W.2.2.2.2.2.2.1, nI T.length, nI vs.length, nI p, 0, W.2.2.2.2.2.2.2.2.2.2.2.1, 1, 0, ca, nI a, nI t, 0, W.2.2.2.2.2.2.2.2.2.2.2.2.2.2.2.2.2.2.1, -1, W.2.2.2.2.2.2.2.2.2.2.2.2.2.2.2.2.2.2.2.2.1, nI pr, W.2.2.2.2.2.2.2.2.2.2.2.2.2.2.2.2.2.2.2.2.2.2.1, W.2.2.2.2.2.2.2.2.2.2.2.2.2.2.2.2.2.2.2.2.2.2.2.1, W.2.2.2.2.2.2.2.2.2.2.2.2.2.2.2.2.2.2.2.2.2.2.2.2.1, W.2.2.2.2.2.2.2.2.2.2.2.2.2.2.2.2.2.2.2.2.2.2.2.2.2.1, W.2.2.2.2.2.2.2.2.2.2.2.2.2.2.2.2.2.2.2.2.2.2.2.2.2.2.1, W.2.2.2.2.2.2.2.2.2.2.2.2.2.2.2.2.2.2.2.2.2.2.2.2.2.2.2.1, W.2.2.2.2.2.2.2.2.2.2.2.2.2.2.2.2.2.2.2.2.2.2.2.2.2.2.2.2.1, td, va, vr, out, mem)
def yUn (post : SY → Prop) (W : SY) (g a : Nat) (vs : List Int32) (p t pr : Nat) (T : List Nat) (vr mem out : Nat → Int32) : Prop :=
  ∀ Q : SY → Prop, (∀ v, yL post (g + 1) v → Q v) → ∀ td va ca, yp_Td td T → zp_V va vs → wpY_unary Q (W.1, W.2.1, W.2.2.1, W.2.2.2.1, W.2.2.2.2.1, W.2.2.2.2.2.1, W.2.2.2.2.2.2.1, nI T.length, nI vs.length, nI p, 0, W.2.2.2.2.2.2.2.2.2.2.2.1, 1, 0, ca, nI a, nI t, 0, W.2.2.2.2.2.2.2.2.2.2.2.2.2.2.2.2.2.2.1, -1, W.2.2.2.2.2.2.2.2.2.2.2.2.2.2.2.2.2.2.2.2.1, nI pr, W.2.2.2.2.2.2.2.2.2.2.2.2.2.2.2.2.2.2.2.2.2.2.1, W.2.2.2.2.2.2.2.2.2.2.2.2.2.2.2.2.2.2.2.2.2.2.2.1, W.2.2.2.2.2.2.2.2.2.2.2.2.2.2.2.2.2.2.2.2.2.2.2.2.1, W.2.2.2.2.2.2.2.2.2.2.2.2.2.2.2.2.2.2.2.2.2.2.2.2.2.1, W.2.2.2.2.2.2.2.2.2.2.2.2.2.2.2.2.2.2.2.2.2.2.2.2.2.2.1, W.2.2.2.2.2.2.2.2.2.2.2.2.2.2.2.2.2.2.2.2.2.2.2.2.2.2.2.1, W.2.2.2.2.2.2.2.2.2.2.2.2.2.2.2.2.2.2.2.2.2.2.2.2.2.2.2.2.1, td, va, vr, out, mem)
def wD (W : SY) (h : Nat) (pd ca : Int32) (a t pr : Nat) (va vr mem out : Nat → Int32) : SY := (W.1, W.2.1, W.2.2.1, W.2.2.2.1, W.2.2.2.2.1, W.2.2.2.2.2.1, W.2.2.2.2.2.2.1, W.2.2.2.2.2.2.2.1, nI h, W.2.2.2.2.2.2.2.2.2.1, W.2.2.2.2.2.2.2.2.2.2.1, W.2.2.2.2.2.2.2.2.2.2.2.1, W.2.2.2.2.2.2.2.2.2.2.2.2.1, pd, ca, nI a, nI t, W.2.2.2.2.2.2.2.2.2.2.2.2.2.2.2.2.2.1, W.2.2.2.2.2.2.2.2.2.2.2.2.2.2.2.2.2.2.1, -1, W.2.2.2.2.2.2.2.2.2.2.2.2.2.2.2.2.2.2.2.2.1, nI pr, W.2.2.2.2.2.2.2.2.2.2.2.2.2.2.2.2.2.2.2.2.2.2.1, W.2.2.2.2.2.2.2.2.2.2.2.2.2.2.2.2.2.2.2.2.2.2.2.1, W.2.2.2.2.2.2.2.2.2.2.2.2.2.2.2.2.2.2.2.2.2.2.2.2.1, W.2.2.2.2.2.2.2.2.2.2.2.2.2.2.2.2.2.2.2.2.2.2.2.2.2.1, W.2.2.2.2.2.2.2.2.2.2.2.2.2.2.2.2.2.2.2.2.2.2.2.2.2.2.1, W.2.2.2.2.2.2.2.2.2.2.2.2.2.2.2.2.2.2.2.2.2.2.2.2.2.2.2.1, W.2.2.2.2.2.2.2.2.2.2.2.2.2.2.2.2.2.2.2.2.2.2.2.2.2.2.2.2.1, W.2.2.2.2.2.2.2.2.2.2.2.2.2.2.2.2.2.2.2.2.2.2.2.2.2.2.2.2.2.1, va, vr, out, mem)
def yA0 : gm_A := (fun _ => 0, fun _ => 0, fun _ => 0, fun _ => 0, fun _ => 0, fun _ => 0, fun _ => 0, fun _ => 0)
def yD (post : SY → Prop) (W : SY) (g p : Nat) (T : List Nat) (h : Nat) (pd ca : Int32) (a t pr : Nat) (va vr mem out : Nat → Int32) : Prop := yQ post (wD W h pd ca a t pr va vr mem out) false g p [] T 0 0 yA0
def yF (Q : SY → Prop) (W : SY) (how pl v : Int32) (t pr : Nat) (mem out : Nat → Int32) : Prop :=
  ∀ (tt vt pos bad live pe ca ac : Int32) (td va vr : Nat → Int32), (how = 0 → va 0 = v) → Q (W.1, W.2.1, W.2.2.1, W.2.2.2.1, W.2.2.2.2.1, W.2.2.2.2.2.1, W.2.2.2.2.2.2.1, tt, vt, pos, bad, W.2.2.2.2.2.2.2.2.2.2.2.1, live, pe, ca, ac, nI t, how, W.2.2.2.2.2.2.2.2.2.2.2.2.2.2.2.2.2.2.1, pl, W.2.2.2.2.2.2.2.2.2.2.2.2.2.2.2.2.2.2.2.2.1, nI pr, W.2.2.2.2.2.2.2.2.2.2.2.2.2.2.2.2.2.2.2.2.2.2.1, W.2.2.2.2.2.2.2.2.2.2.2.2.2.2.2.2.2.2.2.2.2.2.2.1, W.2.2.2.2.2.2.2.2.2.2.2.2.2.2.2.2.2.2.2.2.2.2.2.2.1, W.2.2.2.2.2.2.2.2.2.2.2.2.2.2.2.2.2.2.2.2.2.2.2.2.2.1, W.2.2.2.2.2.2.2.2.2.2.2.2.2.2.2.2.2.2.2.2.2.2.2.2.2.2.1, W.2.2.2.2.2.2.2.2.2.2.2.2.2.2.2.2.2.2.2.2.2.2.2.2.2.2.2.1, W.2.2.2.2.2.2.2.2.2.2.2.2.2.2.2.2.2.2.2.2.2.2.2.2.2.2.2.2.1, td, va, vr, out, mem)
def yb (W : SY) (n : Nat) : Prop := W.2.2.1 = nI n ∧ n ≤ 120 ∧ gm_tok W.2.2.2.2.2.2.2.2.2.2.2.2.2.2.2.2.2.2.2.2.2.2.2.2.1 W.2.2.2.2.2.2.2.2.2.2.2.2.2.2.2.2.2.2.2.2.2.2.2.2.2.1 n ∧ W.2.2.2.2.2.2.2.2.2.2.2.1 = 0
theorem yb_h {W : SY} {n h a t pr : Nat} {pd ca : Int32} {va vr mem out : Nat → Int32} (hW : yb W n) (hh : h < 1024) : yh (wD W h pd ca a t pr va vr mem out) false n h :=
  ⟨hW.1, hW.2.1, rfl, hh, hW.2.2.1, fun z => (by cases z), fun _ => hW.2.2.2⟩
theorem yf_end {post : SY → Prop} {f_count f_place f_length f_functions f_loaded f_loops f_outside f_tt f_vt f_pos f_bad f_checking f_live f_pending f_carry f_active f_ticks f_status f_result f_endedAt f_used f_printed : Int32} {a_kind a_value a_code a_number a_given a_begins a_params a_todo a_val a_vars a_output a_memory : Nat → Int32} {g : Nat} (hg : g ≤ 400000) (hs : ¬ f_status = 0) (H : post (f_count, f_place, f_length, f_functions, f_loaded, f_loops, f_outside, f_tt, f_vt, f_pos, f_bad, f_checking, f_live, f_pending, f_carry, f_active, f_ticks, f_status, f_result, f_endedAt, f_used, f_printed, a_kind, a_value, a_code, a_number, a_given, a_begins, a_params, a_todo, a_val, a_vars, a_output, a_memory)) : yL post g (f_count, f_place, f_length, f_functions, f_loaded, f_loops, f_outside, f_tt, f_vt, f_pos, f_bad, f_checking, f_live, f_pending, f_carry, f_active, f_ticks, f_status, f_result, f_endedAt, f_used, f_printed, a_kind, a_value, a_code, a_number, a_given, a_begins, a_params, a_todo, a_val, a_vars, a_output, a_memory) := ye_end hg (Or.inr (Or.inr hs)) H
theorem nI_m1 {h : Nat} (hh : 0 < h) : nI h - 1 = nI (h - 1) := by
  obtain ⟨k, rfl⟩ : ∃ k, h = k + 1 := ⟨h - 1, by omega⟩
  exact nI_pred k
/-! statements -/
theorem yl_B9 {post : SY → Prop} {W : SY} {n g a p t pr : Nat} {vs : List Int32} {T : List Nat} {vr mem out : Nat → Int32} (hW : yb W n) (hg : g < 400000) (hp : p ≤ n) (hh : vs.length < 590) (hT : T.length + 10 < 1300) {e : Nat} (he : yp_e e 2) (h9 : gm_tk W.2.2.2.2.2.2.2.2.2.2.2.2.2.2.2.2.2.2.2.2.2.2.2.2.1 n p = 9) (H : yR post W (g + 1) a vs (p + 1) t pr T vr mem out) : yR post W g a vs p t pr (e :: T) vr mem out := by
  have hn := hW.2.1
  intro td va ca hd hv
  refine yi_s 2 0 (by decide) he (by omega) hg rfl (by omega) hd rfl rfl fun Q hQ => ?_
  refine br_f (by decide) (br_f (by decide) (br_f (by decide) (br_t (by decide) (?_))))
  refine ym_tok rfl hW.1 hW.2.1 (by omega) ?_
  exact br_t h9 (nm_r (nI_1 _) (hQ _ (H _ _ _ hd.2 hv)))
theorem yl_B {post : SY → Prop} {W : SY} {n g a p t pr : Nat} {vs : List Int32} {T : List Nat} {vr mem out : Nat → Int32} (hW : yb W n) (hg : g < 400000) (hp : p ≤ n) (hh : vs.length < 590) (hT : T.length + 10 < 1300) {e : Nat} (he : yp_e e 2) (h9 : ¬ gm_tk W.2.2.2.2.2.2.2.2.2.2.2.2.2.2.2.2.2.2.2.2.2.2.2.2.1 n p = 9) (H : ySt post W g a vs p t pr (yp_n 2 0 vs.length :: T) vr mem out) : yR post W g a vs p t pr (e :: T) vr mem out := by
  have hn := hW.2.1
  intro td va ca hd hv
  refine yi_s 2 0 (by decide) he (by omega) hg rfl (by omega) hd rfl rfl fun Q hQ => ?_
  refine br_f (by decide) (br_f (by decide) (br_f (by decide) (br_t (by decide) (?_))))
  refine ym_tok rfl hW.1 hW.2.1 (by omega) ?_
  refine br_f h9 ?_
  exact ym_then 2 0 (by decide) (by decide) rfl (by omega) rfl (by omega) hd.2 fun td hd => H Q hQ td va ca hd hv
theorem yl_S {post : SY → Prop} {W : SY} {n g a p t pr : Nat} {vs : List Int32} {T : List Nat} {vr mem out : Nat → Int32} (hW : yb W n) (hg : g < 400000) (hp : p ≤ n) (hh : vs.length < 590) (hT : T.length + 10 < 1300) {e : Nat} (he : yp_e e 3) (H : ySt post W g a vs p t pr T vr mem out) : yR post W g a vs p t pr (e :: T) vr mem out := by
  intro td va ca hd hv
  refine yi_s 3 0 (by decide) he (by omega) hg rfl (by omega) hd rfl rfl fun Q hQ => ?_
  exact br_f (by decide) (br_f (by decide) (br_f (by decide) (br_f (by decide) (br_t (by decide) (H Q hQ td va ca hd.2 hv)))))
theorem ys_8 {post : SY → Prop} {W : SY} {n g a p t pr : Nat} {vs : List Int32} {T : List Nat} {vr mem out : Nat → Int32} (hW : yb W n) (hg : g < 400000) (hp : p ≤ n) (hh : vs.length < 590) (hT : T.length + 10 < 1300) (h1 : gm_tk W.2.2.2.2.2.2.2.2.2.2.2.2.2.2.2.2.2.2.2.2.2.2.2.2.1 n p = 8) (H : yR post W (g + 1) a vs (p + 1) t pr (yp_n 2 0 vs.length :: T) vr mem out) : ySt post W g a vs p t pr T vr mem out := by
  have hn := hW.2.1
  intro Q hQ td va ca hd hv
  exact ym_st8 rfl hW.1 hW.2.1 (by omega) rfl rfl (by omega) rfl hd (by omega) h1 fun td hd => hQ _ (H _ _ _ hd hv)
theorem ys_1 {post : SY → Prop} {W : SY} {n g a p t pr : Nat} {vs : List Int32} {T : List Nat} {vr mem out : Nat → Int32} (hW : yb W n) (hg : g < 400000) (hp : p ≤ n) (hh : vs.length < 590) (hT : T.length + 10 < 1300) {u : Nat} (h1 : gm_tk W.2.2.2.2.2.2.2.2.2.2.2.2.2.2.2.2.2.2.2.2.2.2.2.2.1 n p = 1) (h2 : gm_tk W.2.2.2.2.2.2.2.2.2.2.2.2.2.2.2.2.2.2.2.2.2.2.2.2.1 n (p + 1) = 12) (hu : W.2.2.2.2.2.2.2.2.2.2.2.2.2.2.2.2.2.2.2.2.2.2.2.2.2.1 p = nI u) (hu' : u ≤ 5) (H : yR post W (g + 1) a vs (p + 2) t pr (yp_n 16 0 vs.length :: yp_n 13 u vs.length :: yp_n 4 10 vs.length :: T) vr mem out) : ySt post W g a vs p t pr T vr mem out := by
  have hn := hW.2.1
  intro Q hQ td va ca hd hv
  exact ym_st1 rfl hW.1 hW.2.1 (by omega) rfl rfl (by omega) rfl hd (by omega) h1 (gm_tk_lt h1 (by decide)) hu hu' (fun _ td hd => hQ _ (H _ _ _ hd hv)) (fun z => absurd h2 z)
theorem ys_2 {post : SY → Prop} {W : SY} {n g a p t pr : Nat} {vs : List Int32} {T : List Nat} {vr mem out : Nat → Int32} (hW : yb W n) (hg : g < 400000) (hp : p ≤ n) (hh : vs.length < 590) (hT : T.length + 10 < 1300) (h1 : gm_tk W.2.2.2.2.2.2.2.2.2.2.2.2.2.2.2.2.2.2.2.2.2.2.2.2.1 n p = 2) (h2 : gm_tk W.2.2.2.2.2.2.2.2.2.2.2.2.2.2.2.2.2.2.2.2.2.2.2.2.1 n (p + 1) = 4) (H : yR post W (g + 1) a vs (p + 2) t pr (yp_n 23 p vs.length :: yp_n 25 p vs.length :: yp_n 15 0 vs.length :: yp_n 4 10 vs.length :: T) vr mem out) : ySt post W g a vs p t pr T vr mem out := by
  have hn := hW.2.1
  intro Q hQ td va ca hd hv
  exact ym_st2 rfl hW.1 hW.2.1 (by omega) rfl rfl (by omega) rfl hd (by omega) h1 (gm_tk_lt h1 (by decide)) (fun _ td hd => hQ _ (H _ _ _ hd hv)) (fun z => absurd h2 z)
theorem ys_3 {post : SY → Prop} {W : SY} {n g a p t pr : Nat} {vs : List Int32} {T : List Nat} {vr mem out : Nat → Int32} (hW : yb W n) (hg : g < 400000) (hp : p ≤ n) (hh : vs.length < 590) (hT : T.length + 10 < 1300) (h1 : gm_tk W.2.2.2.2.2.2.2.2.2.2.2.2.2.2.2.2.2.2.2.2.2.2.2.2.1 n p = 3) (h2 : gm_tk W.2.2.2.2.2.2.2.2.2.2.2.2.2.2.2.2.2.2.2.2.2.2.2.2.1 n (p + 1) = 6) (H : yR post W (g + 1) a vs (p + 2) t pr (yp_n 16 0 vs.length :: yp_n 4 7 vs.length :: yp_n 4 12 vs.length :: yp_n 16 0 vs.length :: yp_n 14 p vs.length :: yp_n 4 10 vs.length :: T) vr mem out) : ySt post W g a vs p t pr T vr mem out := by
  have hn := hW.2.1
  intro Q hQ td va ca hd hv
  exact ym_st3 rfl hW.1 hW.2.1 (by omega) rfl rfl (by omega) rfl hd (by omega) h1 (gm_tk_lt h1 (by decide)) (fun _ td hd => hQ _ (H _ _ _ hd hv)) (fun z => absurd h2 z)
theorem ys_34 {post : SY → Prop} {W : SY} {n g a p t pr : Nat} {vs : List Int32} {T : List Nat} {vr mem out : Nat → Int32} (hW : yb W n) (hg : g < 400000) (hp : p ≤ n) (hh : vs.length < 590) (hT : T.length + 10 < 1300) (h1 : gm_tk W.2.2.2.2.2.2.2.2.2.2.2.2.2.2.2.2.2.2.2.2.2.2.2.2.1 n p = 34) (h2 : gm_tk W.2.2.2.2.2.2.2.2.2.2.2.2.2.2.2.2.2.2.2.2.2.2.2.2.1 n (p + 1) = 4) (H : yR post W (g + 1) a vs (p + 2) t pr (yp_n 16 0 vs.length :: yp_n 4 5 vs.length :: yp_n 6 0 vs.length :: T) vr mem out) : ySt post W g a vs p t pr T vr mem out := by
  have hn := hW.2.1
  intro Q hQ td va ca hd hv
  exact ym_st34 rfl hW.1 hW.2.1 (by omega) rfl rfl (by omega) rfl hd (by omega) h1 (gm_tk_lt h1 (by decide)) (fun _ td hd => hQ _ (H _ _ _ hd hv)) (fun z => absurd h2 z)
theorem ys_39 {post : SY → Prop} {W : SY} {n g a p t pr : Nat} {vs : List Int32} {T : List Nat} {vr mem out : Nat → Int32} (hW : yb W n) (hg : g < 400000) (hp : p ≤ n) (hh : vs.length < 590) (hT : T.length + 10 < 1300) {d e : Nat} (hdd : d = 39 ∧ e = 11 ∨ d = 40 ∧ e = 12) (h1 : gm_tk W.2.2.2.2.2.2.2.2.2.2.2.2.2.2.2.2.2.2.2.2.2.2.2.2.1 n p = nI d) (H : yR post W (g + 1) a vs (p + 1) t pr (yp_n 16 0 vs.length :: yp_n e 0 vs.length :: yp_n 4 10 vs.length :: T) vr mem out) : ySt post W g a vs p t pr T vr mem out := by
  have hn := hW.2.1
  intro Q hQ td va ca hd hv
  exact ym_st39 rfl hW.1 hW.2.1 (by omega) rfl rfl (by omega) rfl hd hdd (by omega) h1 (gm_tk_lt' h1 (by omega)) fun td hd => hQ _ (H _ _ _ hd hv)
theorem ym_tick {post : Int32 → SY → Prop} {f_count f_place f_length f_functions f_loaded f_loops f_outside f_tt f_vt f_pos f_bad f_checking f_live f_pending f_carry f_active f_ticks f_status f_result f_endedAt f_used f_printed : Int32} {a_kind a_value a_code a_number a_given a_begins a_params a_todo a_val a_vars a_output a_memory : Nat → Int32} {t : Nat} {x : Int32} (ht : f_ticks = nI t) (ht' : t ≤ 120) (H1 : 0 < t → post 1 (f_count, f_place, f_length, f_functions, f_loaded, f_loops, f_outside, f_tt, f_vt, f_pos, f_bad, f_checking, f_live, f_pending, f_carry, f_active, nI (t - 1), f_status, f_result, f_endedAt, f_used, f_printed, a_kind, a_value, a_code, a_number, a_given, a_begins, a_params, a_todo, a_val, a_vars, a_output, a_memory)) (H2 : t = 0 → post 0 (f_count, f_place, f_length, f_functions, f_loaded, f_loops, f_outside, f_tt, f_vt, f_pos, f_bad, f_checking, f_live, f_pending, f_carry, f_active, f_ticks, 4, f_result, x, f_used, f_printed, a_kind, a_value, a_code, a_number, a_given, a_begins, a_params, a_todo, a_val, a_vars, a_output, a_memory)) : wpY_tick post (f_count, f_place, f_length, f_functions, f_loaded, f_loops, f_outside, f_tt, f_vt, f_pos, f_bad, f_checking, f_live, f_pending, f_carry, f_active, f_ticks, f_status, f_result, f_endedAt, f_used, f_printed, a_kind, a_value, a_code, a_number, a_given, a_begins, a_params, a_todo, a_val, a_vars, a_output, a_memory) x := by
  subst ht
  refine pk_eq t 0 (fun z => H2 z) (fun z => nm_r (nI_m1 (by omega)) (H1 (by omega)))
theorem ym_loopL {post : SY → Prop} {f_count f_place f_length f_functions f_loaded f_loops f_outside f_tt f_vt f_pos f_bad f_checking f_live f_pending f_carry f_active f_ticks f_status f_result f_endedAt f_used f_printed : Int32} {a_kind a_value a_code a_number a_given a_begins a_params a_todo a_val a_vars a_output a_memory : Nat → Int32} {h q t : Nat} {x : Int32} {T : List Nat} (hli : ¬ f_live = 0) (hq : x = nI q) (hq2 : 2 ≤ q) (hq' : q < 1024) (ht : f_ticks = nI t) (ht' : t ≤ 120) (hv : f_vt = nI h) (hh : h < 1024) (htt : f_tt = nI T.length) (hd : yp_Td a_todo T) (hl : T.length + 4 < 1300)
    (H1 : 0 < t → ∀ td, yp_Td td (yp_n 16 0 h :: yp_n 4 5 h :: yp_n 8 q h :: T) → post (f_count, f_place, f_length, f_functions, f_loaded, f_loops, f_outside, nI (yp_n 16 0 h :: yp_n 4 5 h :: yp_n 8 q h :: T).length, f_vt, nI q, f_bad, f_checking, f_live, f_pending, f_carry, f_active, nI (t - 1), f_status, f_result, f_endedAt, f_used, f_printed, a_kind, a_value, a_code, a_number, a_given, a_begins, a_params, td, a_val, a_vars, a_output, a_memory)) (H2 : t = 0 → post (f_count, f_place, f_length, f_functions, f_loaded, f_loops, f_outside, f_tt, f_vt, f_pos, f_bad, f_checking, f_live, f_pending, f_carry, f_active, f_ticks, 4, f_result, nI (q - 2), f_used, f_printed, a_kind, a_value, a_code, a_number, a_given, a_begins, a_params, a_todo, a_val, a_vars, a_output, a_memory)) : wpY_loop post (f_count, f_place, f_length, f_functions, f_loaded, f_loops, f_outside, f_tt, f_vt, f_pos, f_bad, f_checking, f_live, f_pending, f_carry, f_active, f_ticks, f_status, f_result, f_endedAt, f_used, f_printed, a_kind, a_value, a_code, a_number, a_given, a_begins, a_params, a_todo, a_val, a_vars, a_output, a_memory) x := by
  subst hq
  unfold wpY_loop
  refine br_f hli ?_
  rw [show nI q - 2 = nI (q - 2) from pk_sub (b := 2) hq2]
  refine ym_tick ht ht' (fun z => br_f (by decide) (ym_loop18 rfl hq' hv hh htt hd hl (H1 z))) (fun z => br_t rfl (H2 z))
theorem ys_36 {post : SY → Prop} {W : SY} {n g a p t pr : Nat} {vs : List Int32} {T : List Nat} {vr mem out : Nat → Int32} (hW : yb W n) (hg : g < 400000) (hp : p ≤ n) (hh : vs.length < 590) (hT : T.length + 10 < 1300) (ht : t ≤ 120) (h1 : gm_tk W.2.2.2.2.2.2.2.2.2.2.2.2.2.2.2.2.2.2.2.2.2.2.2.2.1 n p = 36) (h2 : gm_tk W.2.2.2.2.2.2.2.2.2.2.2.2.2.2.2.2.2.2.2.2.2.2.2.2.1 n (p + 1) = 4) (H1 : 0 < t → yR post W (g + 1) a vs (p + 2) (t - 1) pr (yp_n 16 0 vs.length :: yp_n 4 5 vs.length :: yp_n 8 (p + 2) vs.length :: T) vr mem out) (H2 : t = 0 → yF post W 4 (nI p) 0 t pr mem out) : ySt post W g a vs p t pr T vr mem out := by
  have hn := hW.2.1
  intro Q hQ td va ca hd hv
  have hq := gm_tk_lt h1 (by decide)
  unfold wpY_statement
  refine ym_tok rfl hW.1 hW.2.1 (by omega) ?_
  rw [h1]
  refine nm_r (nI_1 _) (br_f (by decide) (br_f (by decide) (br_f (by decide) (br_f (by decide) (br_f (by decide) (br_f (by decide) (br_f (by decide) (br_f (by decide) (br_f (by decide) (br_f (by decide) (br_f (by decide) (br_f (by decide) (br_f (by decide) (br_f (by decide) (br_f (by decide) (br_f (by decide) (br_f (by decide) (br_f (by decide) (br_f (by decide) (br_f (by decide) (br_f (by decide) (br_f (by decide) (br_f (by decide) (br_f (by decide) (br_f (by decide) (br_f (by decide) (br_f (by decide) (br_f (by decide) (br_f (by decide) (br_f (by decide) (br_f (by decide) (br_f (by decide) (br_f (by decide) (br_f (by decide) (br_f (by decide) (br_f (by decide) (br_f (by decide) (br_t (by decide) (?_)))))))))))))))))))))))))))))))))))))))
  refine ym_take 4 rfl hW.1 hW.2.1 (by omega) rfl (fun _ => br_f (by decide) ?_) (fun z => absurd h2 z)
  exact ym_loopL (by decide) rfl (by omega) (by omega) rfl ht rfl (by omega) rfl hd (by omega) (fun z td hd => hQ _ (H1 z _ _ _ hd hv)) (fun z => hQ _ (yf_end (by omega) (by decide) (H2 z _ _ _ _ _ _ _ _ _ _ _ (fun w => absurd w (by decide)))))
theorem ys_37 {post : SY → Prop} {W : SY} {n g a p t pr : Nat} {vs : List Int32} {T : List Nat} {vr mem out : Nat → Int32} (hW : yb W n) (hg : g < 400000) (hp : p ≤ n) (hh : vs.length < 590) (hT : T.length + 10 < 1300) {d : Nat} (hdd : d = 37 ∨ d = 38) (h1 : gm_tk W.2.2.2.2.2.2.2.2.2.2.2.2.2.2.2.2.2.2.2.2.2.2.2.2.1 n p = nI d) (H : ∀ va, zp_V va vs → yD post W (g + 1) (p + 1) (yp_n 4 10 vs.length :: T) vs.length (nI (d - 36)) 0 a t pr va vr mem out) : ySt post W g a vs p t pr T vr mem out := by
  have hn := hW.2.1
  intro Q hQ td va ca hd hv
  have hq := gm_tk_lt' h1 (by omega)
  unfold wpY_statement
  refine ym_tok rfl hW.1 hW.2.1 (by omega) ?_
  rw [h1]
  rcases hdd with rfl | rfl
  · refine nm_r (nI_1 _) (br_f (by decide) (br_f (by decide) (br_f (by decide) (br_f (by decide) (br_f (by decide) (br_f (by decide) (br_f (by decide) (br_f (by decide) (br_f (by decide) (br_f (by decide) (br_f (by decide) (br_f (by decide) (br_f (by decide) (br_f (by decide) (br_f (by decide) (br_f (by decide) (br_f (by decide) (br_f (by decide) (br_f (by decide) (br_f (by decide) (br_f (by decide) (br_f (by decide) (br_f (by decide) (br_f (by decide) (br_f (by decide) (br_f (by decide) (br_f (by decide) (br_f (by decide) (br_f (by decide) (br_f (by decide) (br_f (by decide) (br_f (by decide) (br_f (by decide) (br_f (by decide) (br_f (by decide) (br_f (by decide) (br_f (by decide) (br_f (by decide) (br_t (by decide) (?_))))))))))))))))))))))))))))))))))))))))
    refine br_t hW.2.2.2 (br_f (by decide) ?_)
    exact ym_then 4 10 (by decide) (by decide) rfl (by omega) rfl (by omega) hd fun td hd => hQ _ (H va hv td hd)
  · refine nm_r (nI_1 _) (br_f (by decide) (br_f (by decide) (br_f (by decide) (br_f (by decide) (br_f (by decide) (br_f (by decide) (br_f (by decide) (br_f (by decide) (br_f (by decide) (br_f (by decide) (br_f (by decide) (br_f (by decide) (br_f (by decide) (br_f (by decide) (br_f (by decide) (br_f (by decide) (br_f (by decide) (br_f (by decide) (br_f (by decide) (br_f (by decide) (br_f (by decide) (br_f (by decide) (br_f (by decide) (br_f (by decide) (br_f (by decide) (br_f (by decide) (br_f (by decide) (br_f (by decide) (br_f (by decide) (br_f (by decide) (br_f (by decide) (br_f (by decide) (br_f (by decide) (br_f (by decide) (br_f (by decide) (br_f (by decide) (br_f (by decide) (br_f (by decide) (br_f (by decide) (br_t (by decide) (?_)))))))))))))))))))))))))))))))))))))))))
    refine br_t hW.2.2.2 (br_f (by decide) ?_)
    exact ym_then 4 10 (by decide) (by decide) rfl (by omega) rfl (by omega) hd fun td hd => hQ _ (H va hv td hd)
/-! statement parts -/
theorem yl_X {post : SY → Prop} {W : SY} {n g a p t pr : Nat} {vs : List Int32} {T : List Nat} {vr mem out : Nat → Int32} (hW : yb W n) (hg : g < 400000) (hp : p ≤ n) (hh : vs.length < 590) (hT : T.length + 10 < 1300) {e : Nat} {k : Nat} (he : yp_e e (4 + 32 * k)) (hk : k ≤ 41) (h1 : gm_tk W.2.2.2.2.2.2.2.2.2.2.2.2.2.2.2.2.2.2.2.2.2.2.2.2.1 n p = nI k) (H : yR post W (g + 1) a vs (p + 1) t pr T vr mem out) : yR post W g a vs p t pr (e :: T) vr mem out := by
  have hn := hW.2.1
  intro td va ca hd hv
  refine yi_s 4 k (by decide) he (by omega) hg rfl (by omega) hd rfl rfl fun Q hQ => ?_
  refine br_f (by decide) (br_f (by decide) (br_f (by decide) (br_f (by decide) (br_f (by decide) (br_t (by decide) (?_))))))
  exact ym_take (nI k) rfl hW.1 hW.2.1 (by omega) rfl (fun _ => hQ _ (H _ _ _ hd.2 hv)) (fun z => absurd h1 z)
theorem yl_I {post : SY → Prop} {W : SY} {n g a p t pr : Nat} {vs : List Int32} {T : List Nat} {vr mem out : Nat → Int32} (hW : yb W n) (hg : g < 400000) (hp : p ≤ n) (hh : vs.length < 590) (hT : T.length + 10 < 1300) {e : Nat} {v : Int32} (he : yp_e e 6) (H1 : v = 0 → ∀ va ca, zp_V va vs → yD post W (g + 1) p (yp_n 3 0 vs.length :: yp_n 7 2 vs.length :: T) vs.length 0 ca a t pr va vr mem out) (H2 : ¬ v = 0 → yR post W (g + 1) a vs p t pr (yp_n 3 0 vs.length :: yp_n 7 1 vs.length :: T) vr mem out) : yR post W g a (v :: vs) p t pr (e :: T) vr mem out := by
  have hn := hW.2.1
  intro td va ca hd hv
  have e1 : nI (v :: vs).length - 1 = nI vs.length := nI_pred _
  have e2 : (nI vs.length).toNatClampNeg = vs.length := nI_clamp (by omega)
  have vi : vp_in (nI vs.length) 600 := vp_in_nI (by omega) (by decide)
  refine yi_s 6 0 (by decide) he (by omega) hg rfl (by omega) hd rfl rfl fun Q hQ => ?_
  refine br_f (by decide) (br_f (by decide) (br_f (by decide) (br_f (by decide) (br_f (by decide) (br_f (by decide) (br_f (by decide) (br_t (by decide) (br_f (by decide) ?_))))))))
  rw [e1, e2, hv.1]
  refine nm_e ⟨vi, br_c (fun z => br_t rfl ?_) (fun z => br_f (by decide) ?_)⟩
  · refine ym_then 7 2 (by decide) (by decide) rfl (by omega) rfl (by omega) hd.2 fun td hd => ?_
    exact ym_then 3 0 (by decide) (by decide) rfl (by omega) rfl (by simp only [List.length_cons]; omega) hd fun td hd => hQ _ (H1 z va ca hv.2 td hd)
  · refine ym_then 7 1 (by decide) (by decide) rfl (by omega) rfl (by omega) hd.2 fun td hd => ?_
    exact ym_then 3 0 (by decide) (by decide) rfl (by omega) rfl (by simp only [List.length_cons]; omega) hd fun td hd => hQ _ (H2 z _ _ _ hd hv.2)
theorem yl_L1 {post : SY → Prop} {W : SY} {n g a p t pr : Nat} {vs : List Int32} {T : List Nat} {vr mem out : Nat → Int32} (hW : yb W n) (hg : g < 400000) (hp : p ≤ n) (hh : vs.length < 590) (hT : T.length + 10 < 1300) {e : Nat} (he : yp_e e 39) (H1 : ¬ gm_tk W.2.2.2.2.2.2.2.2.2.2.2.2.2.2.2.2.2.2.2.2.2.2.2.2.1 n p = 35 → yR post W (g + 1) a vs p t pr T vr mem out) (H2 : gm_tk W.2.2.2.2.2.2.2.2.2.2.2.2.2.2.2.2.2.2.2.2.2.2.2.2.1 n p = 35 → ∀ va ca, zp_V va vs → yD post W (g + 1) (p + 1) (yp_n 3 0 vs.length :: yp_n 5 0 vs.length :: T) vs.length 0 ca a t pr va vr mem out) : yR post W g a vs p t pr (e :: T) vr mem out := by
  have hn := hW.2.1
  intro td va ca hd hv
  refine yi_s 7 1 (by decide) he (by omega) hg rfl (by omega) hd rfl rfl fun Q hQ => ?_
  refine br_f (by decide) (br_f (by decide) (br_f (by decide) (br_f (by decide) (br_f (by decide) (br_f (by decide) (br_f (by decide) (br_f (by decide) (br_t (by decide) (br_f (by decide) ?_)))))))))
  refine ym_tok rfl hW.1 hW.2.1 (by omega) ?_
  refine br_c (fun z => nm_r (nI_1 _) (br_t rfl ?_)) (fun z => hQ _ (H1 z _ _ _ hd.2 hv))
  unfold wpY_kill
  refine br_f (by decide) ?_
  refine ym_then 5 0 (by decide) (by decide) rfl (by omega) rfl (by omega) hd.2 fun td hd => ?_
  exact ym_then 3 0 (by decide) (by decide) rfl (by omega) rfl (by simp only [List.length_cons]; omega) hd fun td hd => hQ _ (H2 z va ca hv td hd)
theorem yl_W {post : SY → Prop} {W : SY} {n g a p t pr : Nat} {vs : List Int32} {T : List Nat} {vr mem out : Nat → Int32} (hW : yb W n) (hg : g < 400000) (hp : p ≤ n) (hh : vs.length < 590) (hT : T.length + 10 < 1300) {e : Nat} {v : Int32} {q : Nat} (he : yp_e e (8 + 32 * q)) (hq : q < 1024) (H1 : v = 0 → ∀ va ca, zp_V va vs → yD post W (g + 1) p (yp_n 3 0 vs.length :: yp_n 5 0 vs.length :: T) vs.length 0 ca a t pr va vr mem out) (H2 : ¬ v = 0 → yR post W (g + 1) a vs p t pr (yp_n 3 0 vs.length :: yp_n 9 q vs.length :: T) vr mem out) : yR post W g a (v :: vs) p t pr (e :: T) vr mem out := by
  have hn := hW.2.1
  intro td va ca hd hv
  have e1 : nI (v :: vs).length - 1 = nI vs.length := nI_pred _
  have e2 : (nI vs.length).toNatClampNeg = vs.length := nI_clamp (by omega)
  have vi : vp_in (nI vs.length) 600 := vp_in_nI (by omega) (by decide)
  refine yi_s 8 q (by decide) he (by omega) hg rfl (by omega) hd rfl rfl fun Q hQ => ?_
  refine br_f (by decide) (br_f (by decide) (br_f (by decide) (br_f (by decide) (br_f (by decide) (br_f (by decide) (br_f (by decide) (br_f (by decide) (br_f (by decide) (br_t (by decide) (br_t hW.2.2.2 (br_f (by decide) ?_)))))))))))
  rw [e1, e2, hv.1]
  refine nm_e ⟨vi, br_c (fun z => ?_) (fun z => ?_)⟩
  · unfold wY_statementPart_291 wpY_kill
    refine br_f (by decide) ?_
    refine ym_then 5 0 (by decide) (by decide) rfl (by omega) rfl (by omega) hd.2 fun td hd => ?_
    exact ym_then 3 0 (by decide) (by decide) rfl (by omega) rfl (by simp only [List.length_cons]; omega) hd fun td hd => hQ _ (H1 z va ca hv.2 td hd)
  · refine ym_then 9 q (by decide) hq rfl (by omega) rfl (by omega) hd.2 fun td hd => ?_
    exact ym_then 3 0 (by decide) (by decide) rfl (by omega) rfl (by simp only [List.length_cons]; omega) hd fun td hd => hQ _ (H2 z _ _ _ hd hv.2)
theorem yl_O {post : SY → Prop} {W : SY} {n g a p t pr : Nat} {vs : List Int32} {T : List Nat} {vr mem out : Nat → Int32} (hW : yb W n) (hg : g < 400000) (hp : p ≤ n) (hh : vs.length < 590) (hT : T.length + 10 < 1300) {e : Nat} {q : Nat} (he : yp_e e (9 + 32 * q)) (hq2 : 2 ≤ q) (hq : q < 1024) (ht : t ≤ 120) (H1 : 0 < t → yR post W (g + 1) a vs q (t - 1) pr (yp_n 16 0 vs.length :: yp_n 4 5 vs.length :: yp_n 8 q vs.length :: T) vr mem out) (H2 : t = 0 → yF post W 4 (nI (q - 2)) 0 t pr mem out) : yR post W g a vs p t pr (e :: T) vr mem out := by
  have hn := hW.2.1
  intro td va ca hd hv
  refine yi_s 9 q (by decide) he (by omega) hg rfl (by omega) hd rfl rfl fun Q hQ => ?_
  refine br_f (by decide) (br_f (by decide) (br_f (by decide) (br_f (by decide) (br_f (by decide) (br_f (by decide) (br_f (by decide) (br_f (by decide) (br_f (by decide) (br_f (by decide) (br_t (by decide) (br_f (by decide) (br_f (by decide) (br_f (by decide) (br_f (by decide) ?_))))))))))))))
  exact ym_loopL (by decide) rfl hq2 hq rfl ht rfl (by omega) rfl hd.2 (by omega) (fun z td hd => hQ _ (H1 z _ _ _ hd hv)) (fun z => hQ _ (yf_end (by omega) (by decide) (H2 z _ _ _ _ _ _ _ _ _ _ _ (fun w => absurd w (by decide)))))
theorem yl_ret {post : SY → Prop} {W : SY} {n g a p t pr : Nat} {vs : List Int32} {T : List Nat} {vr mem out : Nat → Int32} (hW : yb W n) (hg : g < 400000) (hp : p ≤ n) (hh : vs.length < 590) (hT : T.length + 10 < 1300) {e : Nat} {v : Int32} (he : yp_e e 11) (H : ∀ va, zp_V va vs → yD post W (g + 1) p T vs.length 3 v a t pr va vr mem out) : yR post W g a (v :: vs) p t pr (e :: T) vr mem out := by
  have hn := hW.2.1
  intro td va ca hd hv
  have e1 : nI (v :: vs).length - 1 = nI vs.length := nI_pred _
  have e2 : (nI vs.length).toNatClampNeg = vs.length := nI_clamp (by omega)
  have vi : vp_in (nI vs.length) 600 := vp_in_nI (by omega) (by decide)
  refine yi_s 11 0 (by decide) he (by omega) hg rfl (by omega) hd rfl rfl fun Q hQ => ?_
  refine br_f (by decide) (br_f (by decide) (br_f (by decide) (br_f (by decide) (br_f (by decide) (br_f (by decide) (br_f (by decide) (br_f (by decide) (br_f (by decide) (br_f (by decide) (br_f (by decide) (br_f (by decide) (br_t (by decide) (br_f (by decide) ?_)))))))))))))
  rw [e1, e2, hv.1]
  exact nm_e ⟨vi, hQ _ (H va hv.2 td hd.2)⟩
theorem yl_print {post : SY → Prop} {W : SY} {n g a p t pr : Nat} {vs : List Int32} {T : List Nat} {vr mem out : Nat → Int32} (hW : yb W n) (hg : g < 400000) (hp : p ≤ n) (hh : vs.length < 590) (hT : T.length + 10 < 1300) {e : Nat} {v : Int32} (he : yp_e e 12) (hpr : pr < 2 ^ 30) (H : yR post W (g + 1) a vs p t (pr + 1) T vr mem (if pr < 24 then upd out pr v else out)) : yR post W g a (v :: vs) p t pr (e :: T) vr mem out := by
  have hn := hW.2.1
  intro td va ca hd hv
  have e1 : nI (v :: vs).length - 1 = nI vs.length := nI_pred _
  have e2 : (nI vs.length).toNatClampNeg = vs.length := nI_clamp (by omega)
  have vi : vp_in (nI vs.length) 600 := vp_in_nI (by omega) (by decide)
  refine yi_s 12 0 (by decide) he (by omega) hg rfl (by omega) hd rfl rfl fun Q hQ => ?_
  refine br_f (by decide) (br_f (by decide) (br_f (by decide) (br_f (by decide) (br_f (by decide) (br_f (by decide) (br_f (by decide) (br_f (by decide) (br_f (by decide) (br_f (by decide) (br_f (by decide) (br_f (by decide) (br_f (by decide) (br_t (by decide) (br_f (by decide) ?_))))))))))))))
  rw [e1, e2, hv.1]
  refine nm_e ⟨vi, ?_⟩
  refine pk_le 24 pr (fun z => nm_r (nI_1 _) ?_) (fun z => ⟨vp_in_nI z (by decide), nm_r (e' := upd out pr v) (by rw [nI_clamp (by omega)]) (nm_r (nI_1 _) ?_)⟩)
  · rw [if_neg (by omega)] at H; exact hQ _ (H _ _ _ hd.2 hv.2)
  · rw [if_pos z] at H; exact hQ _ (H _ _ _ hd.2 hv.2)
theorem yp_slot {b u : Nat} : 6 * nI (b + 1) - 6 + nI u = nI (6 * b + u) := by
  rw [show (6 : Int32) * nI (b + 1) = nI (6 * b + 6) from pk_mul 6 (b + 1), show nI (6 * b + 6) - 6 = nI (6 * b) from (pk_sub (a := 6 * b + 6) (b := 6) (by omega)).trans (congrArg nI (by omega)), nI_add]
theorem yl_set {post : SY → Prop} {W : SY} {n g a p t pr : Nat} {vs : List Int32} {T : List Nat} {vr mem out : Nat → Int32} (hW : yb W n) (hg : g < 400000) (hp : p ≤ n) (hh : vs.length < 590) (hT : T.length + 10 < 1300) {e : Nat} {v : Int32} {u b : Nat} (ha : a = b + 1) (hb : b ≤ 7) (he : yp_e e (13 + 32 * u)) (hu : u ≤ 5) (H : yR post W (g + 1) a vs p t pr T (upd vr (6 * b + u) v) mem out) : yR post W g a (v :: vs) p t pr (e :: T) vr mem out := by
  have hn := hW.2.1
  intro td va ca hd hv
  have e1 : nI (v :: vs).length - 1 = nI vs.length := nI_pred _
  have e2 : (nI vs.length).toNatClampNeg = vs.length := nI_clamp (by omega)
  have vi : vp_in (nI vs.length) 600 := vp_in_nI (by omega) (by decide)
  subst ha
  refine yi_s 13 u (by decide) he (by omega) hg rfl (by omega) hd rfl rfl fun Q hQ => ?_
  refine br_f (by decide) (br_f (by decide) (br_f (by decide) (br_f (by decide) (br_f (by decide) (br_f (by decide) (br_f (by decide) (br_f (by decide) (br_f (by decide) (br_f (by decide) (br_f (by decide) (br_f (by decide) (br_f (by decide) (br_f (by decide) (br_t (by decide) (br_f (by decide) ?_)))))))))))))))
  rw [e1, e2, hv.1, yp_slot]
  exact nm_e ⟨vi, vp_in_nI (by omega) (by decide), nm_r (e' := upd vr (6 * b + u) v) (by rw [nI_clamp (by omega)]) (hQ _ (H _ _ _ hd.2 hv.2))⟩
theorem yl_setc {post : SY → Prop} {W : SY} {n g a p t pr : Nat} {vs : List Int32} {T : List Nat} {vr mem out : Nat → Int32} (hW : yb W n) (hg : g < 400000) (hp : p ≤ n) (hh : vs.length < 590) (hT : T.length + 10 < 1300) {e : Nat} {v i : Int32} {q : Nat} (he : yp_e e (14 + 32 * q)) (hq : q < 1024) (H1 : ¬ i < 0 → i ≤ 15 → yR post W (g + 1) a vs p t pr T vr (upd mem i.toNatClampNeg v) out) (H2 : (i < 0 ∨ ¬ i ≤ 15) → yF post W 2 (nI q) 0 t pr mem out) : yR post W g a (v :: i :: vs) p t pr (e :: T) vr mem out := by
  have hn := hW.2.1
  intro td va ca hd hv
  have e1 : nI (v :: i :: vs).length - 2 = nI vs.length := (pk_sub (a := (v :: i :: vs).length) (b := 2) (by simp)).trans (congrArg nI (by simp))
  have e2 : (nI vs.length).toNatClampNeg = vs.length := nI_clamp (by omega)
  have e3 : (nI (vs.length + 1)).toNatClampNeg = vs.length + 1 := nI_clamp (by omega)
  have vi : vp_in (nI vs.length) 600 := vp_in_nI (by omega) (by decide)
  have vi2 : vp_in (nI (vs.length + 1)) 600 := vp_in_nI (by omega) (by decide)
  have h1 : va (vs.length + 1) = v := hv.1
  refine yi_s 14 q (by decide) he (by omega) hg rfl (by omega) hd rfl rfl fun Q hQ => ?_
  refine br_f (by decide) (br_t (by decide) (br_f (by decide) ?_))
  unfold wpY_setCell
  refine nm_r (e' := nI vs.length) e1 ?_
  rw [nI_1, e2, e3, hv.2.1, h1]
  have bad : (i < 0 ∨ ¬ i ≤ 15) → Q (W.1, W.2.1, W.2.2.1, W.2.2.2.1, W.2.2.2.2.1, W.2.2.2.2.2.1, W.2.2.2.2.2.2.1, nI T.length, nI vs.length, nI p, 0, W.2.2.2.2.2.2.2.2.2.2.2.1, 1, 0, ca, nI a, nI t, 2, W.2.2.2.2.2.2.2.2.2.2.2.2.2.2.2.2.2.2.1, nI q, W.2.2.2.2.2.2.2.2.2.2.2.2.2.2.2.2.2.2.2.2.1, nI pr, W.2.2.2.2.2.2.2.2.2.2.2.2.2.2.2.2.2.2.2.2.2.2.1, W.2.2.2.2.2.2.2.2.2.2.2.2.2.2.2.2.2.2.2.2.2.2.2.1, W.2.2.2.2.2.2.2.2.2.2.2.2.2.2.2.2.2.2.2.2.2.2.2.2.1, W.2.2.2.2.2.2.2.2.2.2.2.2.2.2.2.2.2.2.2.2.2.2.2.2.2.1, W.2.2.2.2.2.2.2.2.2.2.2.2.2.2.2.2.2.2.2.2.2.2.2.2.2.2.1, W.2.2.2.2.2.2.2.2.2.2.2.2.2.2.2.2.2.2.2.2.2.2.2.2.2.2.2.1, W.2.2.2.2.2.2.2.2.2.2.2.2.2.2.2.2.2.2.2.2.2.2.2.2.2.2.2.2.1, td, va, vr, out, mem) := fun z => hQ _ (yf_end (by omega) (by decide) (H2 z _ _ _ _ _ _ _ _ _ _ _ (fun w => absurd w (by decide))))
  refine ⟨vi, br_c (fun z => bad (Or.inl z)) (fun z => ⟨vi, br_c (fun y => ⟨vi, vi2, rl_in (N := 15) (by decide) z y (by decide), nm_e (hQ _ (H1 z y _ _ _ hd.2 hv.2.2))⟩) (fun y => bad (Or.inr y))⟩)⟩
