/-! Y, live: expressions and calls -/
theorem yl_E1 {post : SY → Prop} {W : SY} {n g a p t pr : Nat} {vs : List Int32} {T : List Nat} {vr mem out : Nat → Int32} (hW : yb W n) (hg : g < 400000) (hp : p ≤ n) (hh : vs.length < 590) (hT : T.length + 10 < 1300) {e : Nat} (he : yp_e e 16) (H : yUn post W g a vs p t pr (yp_n 17 1 vs.length :: T) vr mem out) : yR post W g a vs p t pr (e :: T) vr mem out := by
  have hn := hW.2.1
  intro td va ca hd hv
  refine yi_e 16 0 (by decide) (by decide) he (by omega) hg rfl (by omega) hd rfl rfl fun Q hQ => ?_
  refine br_f (by decide) (br_f (by decide) (br_f (by decide) (br_t (by decide) (?_))))
  exact ym_then 17 1 (by decide) (by decide) rfl (by omega) rfl (by omega) hd.2 fun td hd => H Q hQ td va ca hd hv
theorem yl_N {post : SY → Prop} {W : SY} {n g a p t pr : Nat} {vs : List Int32} {T : List Nat} {vr mem out : Nat → Int32} (hW : yb W n) (hg : g < 400000) (hp : p ≤ n) (hh : vs.length < 590) (hT : T.length + 10 < 1300) {e : Nat} (he : yp_e e 18) (H : yUn post W g a vs p t pr T vr mem out) : yR post W g a vs p t pr (e :: T) vr mem out := by
  have hn := hW.2.1
  intro td va ca hd hv
  refine yi_e 18 0 (by decide) (by decide) he (by omega) hg rfl (by omega) hd rfl rfl fun Q hQ => ?_
  exact br_f (by decide) (br_f (by decide) (br_f (by decide) (br_f (by decide) (br_f (by decide) (br_t (by decide) (H Q hQ td va ca hd.2 hv))))))
theorem yu_s {post : SY → Prop} {W : SY} {n g a p t pr : Nat} {vs : List Int32} {T : List Nat} {vr mem out : Nat → Int32} (hW : yb W n) (hg : g < 400000) (hp : p ≤ n) (hh : vs.length < 590) (hT : T.length + 10 < 1300) {d : Nat} (hdd : d = 28 ∨ d = 32 ∨ d = 33) (h1 : gm_tk W.2.2.2.2.2.2.2.2.2.2.2.2.2.2.2.2.2.2.2.2.2.2.2.2.1 n p = nI d) (H : yR post W (g + 1) a vs (p + 1) t pr (yp_n 18 0 vs.length :: yp_n 19 d vs.length :: T) vr mem out) : yUn post W g a vs p t pr T vr mem out := by
  have hn := hW.2.1
  intro Q hQ td va ca hd hv
  exact ym_un rfl hW.1 hW.2.1 (by omega) rfl rfl (by omega) rfl hd hdd (by omega) h1 fun td hd => hQ _ (H _ _ _ hd hv)
theorem yu_2 {post : SY → Prop} {W : SY} {n g a p t pr : Nat} {vs : List Int32} {T : List Nat} {vr mem out : Nat → Int32} (hW : yb W n) (hg : g < 400000) (hp : p ≤ n) (hh : vs.length < 590) (hT : T.length + 10 < 1300) (h1 : gm_tk W.2.2.2.2.2.2.2.2.2.2.2.2.2.2.2.2.2.2.2.2.2.2.2.2.1 n p = 2) (h2 : gm_tk W.2.2.2.2.2.2.2.2.2.2.2.2.2.2.2.2.2.2.2.2.2.2.2.2.1 n (p + 1) = 4) (H : yR post W (g + 1) a vs (p + 2) t pr (yp_n 23 p vs.length :: yp_n 25 p vs.length :: T) vr mem out) : yUn post W g a vs p t pr T vr mem out := by
  have hn := hW.2.1
  intro Q hQ td va ca hd hv
  exact ym_un2 rfl hW.1 hW.2.1 (by omega) rfl rfl (by omega) rfl hd (by omega) h1 (gm_tk_lt h1 (by decide)) (fun _ td hd => hQ _ (H _ _ _ hd hv)) (fun z => absurd h2 z)
theorem yu_3 {post : SY → Prop} {W : SY} {n g a p t pr : Nat} {vs : List Int32} {T : List Nat} {vr mem out : Nat → Int32} (hW : yb W n) (hg : g < 400000) (hp : p ≤ n) (hh : vs.length < 590) (hT : T.length + 10 < 1300) (h1 : gm_tk W.2.2.2.2.2.2.2.2.2.2.2.2.2.2.2.2.2.2.2.2.2.2.2.2.1 n p = 3) (h2 : gm_tk W.2.2.2.2.2.2.2.2.2.2.2.2.2.2.2.2.2.2.2.2.2.2.2.2.1 n (p + 1) = 6) (H : yR post W (g + 1) a vs (p + 2) t pr (yp_n 16 0 vs.length :: yp_n 4 7 vs.length :: yp_n 22 p vs.length :: T) vr mem out) : yUn post W g a vs p t pr T vr mem out := by
  have hn := hW.2.1
  intro Q hQ td va ca hd hv
  exact ym_un3 rfl hW.1 hW.2.1 (by omega) rfl rfl (by omega) rfl hd (by omega) h1 (gm_tk_lt h1 (by decide)) (fun _ td hd => hQ _ (H _ _ _ hd hv)) (fun z => absurd h2 z)
theorem yu_4 {post : SY → Prop} {W : SY} {n g a p t pr : Nat} {vs : List Int32} {T : List Nat} {vr mem out : Nat → Int32} (hW : yb W n) (hg : g < 400000) (hp : p ≤ n) (hh : vs.length < 590) (hT : T.length + 10 < 1300) (h1 : gm_tk W.2.2.2.2.2.2.2.2.2.2.2.2.2.2.2.2.2.2.2.2.2.2.2.2.1 n p = 4) (H : yR post W (g + 1) a vs (p + 1) t pr (yp_n 16 0 vs.length :: yp_n 4 5 vs.length :: T) vr mem out) : yUn post W g a vs p t pr T vr mem out := by
  have hn := hW.2.1
  intro Q hQ td va ca hd hv
  exact ym_un4 rfl hW.1 hW.2.1 (by omega) rfl rfl (by omega) rfl hd (by omega) h1 fun td hd => hQ _ (H _ _ _ hd hv)
theorem yu_0 {post : SY → Prop} {W : SY} {n g a p t pr : Nat} {vs : List Int32} {T : List Nat} {vr mem out : Nat → Int32} (hW : yb W n) (hg : g < 400000) (hp : p ≤ n) (hh : vs.length < 590) (hT : T.length + 10 < 1300) (h1 : gm_tk W.2.2.2.2.2.2.2.2.2.2.2.2.2.2.2.2.2.2.2.2.2.2.2.2.1 n p = 0) (H : yR post W (g + 1) a (W.2.2.2.2.2.2.2.2.2.2.2.2.2.2.2.2.2.2.2.2.2.2.2.2.2.1 p :: vs) (p + 1) t pr T vr mem out) : yUn post W g a vs p t pr T vr mem out := by
  have hn := hW.2.1
  intro Q hQ td va ca hd hv
  have e2 : (nI vs.length).toNatClampNeg = vs.length := nI_clamp (by omega)
  have vi : vp_in (nI vs.length) 600 := vp_in_nI (by omega) (by decide)
  have hq := gm_tk_lt h1 (by decide)
  have vp : vp_in (nI p) 120 := vp_in_nI (by omega) (by decide)
  have e3 : (nI p).toNatClampNeg = p := nI_clamp (by omega)
  unfold wpY_unary
  refine ym_tok rfl hW.1 hW.2.1 (by omega) ?_
  rw [h1]
  refine nm_r (nI_1 _) (br_t (by decide) (br_f (by decide) (nm_r (nI_1 _) ⟨vp, vi, nm_r (e' := upd va vs.length (W.2.2.2.2.2.2.2.2.2.2.2.2.2.2.2.2.2.2.2.2.2.2.2.2.2.1 p)) (by rw [e2, e3]) ?_⟩)))
  exact hQ _ (H _ _ _ hd ⟨pk_us, zp_V_up hv (Nat.le_refl _)⟩)
theorem yu_1 {post : SY → Prop} {W : SY} {n g a p t pr : Nat} {vs : List Int32} {T : List Nat} {vr mem out : Nat → Int32} (hW : yb W n) (hg : g < 400000) (hp : p ≤ n) (hh : vs.length < 590) (hT : T.length + 10 < 1300) {u b : Nat} (ha : a = b + 1) (hb : b ≤ 7) (h1 : gm_tk W.2.2.2.2.2.2.2.2.2.2.2.2.2.2.2.2.2.2.2.2.2.2.2.2.1 n p = 1) (hu : W.2.2.2.2.2.2.2.2.2.2.2.2.2.2.2.2.2.2.2.2.2.2.2.2.2.1 p = nI u) (hu' : u ≤ 5) (H : yR post W (g + 1) a (vr (6 * b + u) :: vs) (p + 1) t pr T vr mem out) : yUn post W g a vs p t pr T vr mem out := by
  have hn := hW.2.1
  intro Q hQ td va ca hd hv
  have e2 : (nI vs.length).toNatClampNeg = vs.length := nI_clamp (by omega)
  have vi : vp_in (nI vs.length) 600 := vp_in_nI (by omega) (by decide)
  have hq := gm_tk_lt h1 (by decide)
  have vp : vp_in (nI p) 120 := vp_in_nI (by omega) (by decide)
  have e3 : (nI p).toNatClampNeg = p := nI_clamp (by omega)
  unfold wpY_unary
  refine ym_tok rfl hW.1 hW.2.1 (by omega) ?_
  rw [h1]
  subst ha
  refine nm_r (nI_1 _) (br_f (by decide) (br_t (by decide) (br_f (by decide) (nm_r (nI_1 _) ⟨vp, ?_⟩))))
  rw [e3, hu, yp_slot, nI_clamp (n := 6 * b + u) (by omega)]
  refine ⟨vp_in_nI (by omega) (by decide), vi, nm_r (e' := upd va vs.length (vr (6 * b + u))) (by rw [e2]) ?_⟩
  exact hQ _ (H _ _ _ hd ⟨pk_us, zp_V_up hv (Nat.le_refl _)⟩)
theorem yl_R0 {post : SY → Prop} {W : SY} {n g a p t pr : Nat} {vs : List Int32} {T : List Nat} {vr mem out : Nat → Int32} (hW : yb W n) (hg : g < 400000) (hp : p ≤ n) (hh : vs.length < 590) (hT : T.length + 10 < 1300) {e : Nat} {w : Nat} (he : yp_e e (17 + 32 * w)) (hw : w ≤ 11) (h1 : gm_str (gm_tk W.2.2.2.2.2.2.2.2.2.2.2.2.2.2.2.2.2.2.2.2.2.2.2.2.1 n p) < w) (H : yR post W (g + 1) a vs p t pr T vr mem out) : yR post W g a vs p t pr (e :: T) vr mem out := by
  have hn := hW.2.1
  intro td va ca hd hv
  refine yi_e 17 w (by decide) (by decide) he (by omega) hg rfl (by omega) hd rfl rfl fun Q hQ => ?_
  exact ym_bin0 rfl hW.1 hW.2.1 (by omega) rfl hw (fun q hq => (hW.2.2.1 q hq).1) h1 (hQ _ (H _ _ _ hd.2 hv))
theorem yl_R1 {post : SY → Prop} {W : SY} {n g a p t pr : Nat} {vs : List Int32} {T : List Nat} {vr mem out : Nat → Int32} (hW : yb W n) (hg : g < 400000) (hp : p ≤ n) (hh : vs.length < 590) (hT : T.length + 10 < 1300) {e : Nat} {w : Nat} (he : yp_e e (17 + 32 * w)) (hw : w ≤ 11) (hq : p < n) (h1 : ¬ gm_str (gm_tk W.2.2.2.2.2.2.2.2.2.2.2.2.2.2.2.2.2.2.2.2.2.2.2.2.1 n p) < w) (h2 : 2 < gm_str (gm_tk W.2.2.2.2.2.2.2.2.2.2.2.2.2.2.2.2.2.2.2.2.2.2.2.2.1 n p)) (H : yR post W (g + 1) a vs (p + 1) t pr (yp_n 18 0 vs.length :: yp_n 17 (gm_str (gm_tk W.2.2.2.2.2.2.2.2.2.2.2.2.2.2.2.2.2.2.2.2.2.2.2.2.1 n p) + 1) vs.length :: yp_n 20 p vs.length :: yp_n 17 w vs.length :: T) vr mem out) : yR post W g a vs p t pr (e :: T) vr mem out := by
  have hn := hW.2.1
  intro td va ca hd hv
  refine yi_e 17 w (by decide) (by decide) he (by omega) hg rfl (by omega) hd rfl rfl fun Q hQ => ?_
  exact ym_bin1 rfl hW.1 hW.2.1 (by omega) rfl rfl (by omega) rfl hd.2 rfl hw (fun q hq => (hW.2.2.1 q hq).1) h1 h2 hq (by omega) fun td hd => hQ _ (H _ _ _ hd hv)
theorem yl_R2 {post : SY → Prop} {W : SY} {n g a p t pr : Nat} {vs : List Int32} {T : List Nat} {vr mem out : Nat → Int32} (hW : yb W n) (hg : g < 400000) (hp : p ≤ n) (hh : vs.length < 590) (hT : T.length + 10 < 1300) {e : Nat} {w q : Nat} {v : Int32} (he : yp_e e (17 + 32 * w)) (hw : w ≤ 11) (hp2 : p < n) (hq : q = 1 ∨ q = 2) (h1 : gm_str (gm_tk W.2.2.2.2.2.2.2.2.2.2.2.2.2.2.2.2.2.2.2.2.2.2.2.2.1 n p) = q) (hwq : w ≤ q) (H1 : (v = 0 ↔ q = 2) → ∀ va ca, zp_V va ((if v = 0 then 0 else 1) :: vs) → yD post W (g + 1) (p + 1) (yp_n 18 0 (vs.length + 1) :: yp_n 17 (q + 1) (vs.length + 1) :: yp_n 21 0 (vs.length + 1) :: yp_n 5 0 (vs.length + 1) :: yp_n 17 w (vs.length + 1) :: T) (vs.length + 1) 0 ca a t pr va vr mem out) (H2 : ¬ (v = 0 ↔ q = 2) → yR post W (g + 1) a vs (p + 1) t pr (yp_n 18 0 vs.length :: yp_n 17 (q + 1) vs.length :: yp_n 21 0 vs.length :: yp_n 17 w (vs.length + 1) :: T) vr mem out) : yR post W g a (v :: vs) p t pr (e :: T) vr mem out := by
  have hn := hW.2.1
  intro td va ca hd hv
  have e1 : nI (v :: vs).length - 1 = nI vs.length := nI_pred _
  have e2 : (nI vs.length).toNatClampNeg = vs.length := nI_clamp (by omega)
  have vi : vp_in (nI vs.length) 600 := vp_in_nI (by omega) (by decide)
  refine yi_e 17 w (by decide) (by decide) he (by omega) hg rfl (by omega) hd rfl rfl fun Q hQ => ?_
  refine br_f (by decide) (br_f (by decide) (br_f (by decide) (br_f (by decide) (br_t (by decide) (?_)))))
  refine ym_tok rfl hW.1 hW.2.1 (by omega) ?_
  refine ym_str (gm_tk_r (fun q hq => (hW.2.2.1 q hq).1)) ?_
  rw [h1]
  refine br_t (nI_le hwq (by omega)) (nm_r (nI_1 _) ?_)
  refine ym_then 17 w (by decide) (by omega) rfl (by simp only [List.length_cons]; omega) rfl (by omega) hd.2 fun td hd => ?_
  refine br_t (nI_le (b := 2) (by omega) (by decide)) ?_
  have kil : ∀ (z : Int32), z = (if v = 0 then 0 else 1) → (v = 0 ↔ q = 2) → wY_decide_60 (fun u => match u with | (f_count, f_place, f_length, f_functions, f_loaded, f_loops, f_outside, f_tt, f_vt, f_pos, f_bad, f_checking, f_live, f_pending, f_carry, f_active, f_ticks, f_status, f_result, f_endedAt, f_used, f_printed, a_kind, a_value, a_code, a_number, a_given, a_begins, a_params, a_todo, a_val, a_vars, a_output, a_memory) => wY_expressionPart_131 Q (nI q) f_count f_place f_length f_functions f_loaded f_loops f_outside f_tt f_vt f_pos f_bad f_checking f_live f_pending f_carry f_active f_ticks f_status f_result f_endedAt f_used f_printed a_kind a_value a_code a_number a_given a_begins a_params a_todo a_val a_vars a_output a_memory) z (nI (v :: vs).length - 1) W.1 W.2.1 W.2.2.1 W.2.2.2.1 W.2.2.2.2.1 W.2.2.2.2.2.1 W.2.2.2.2.2.2.1 (nI (yp_n 17 w (v :: vs).length :: T).length) (nI (v :: vs).length) (nI (p + 1)) 0 W.2.2.2.2.2.2.2.2.2.2.2.1 1 0 ca (nI a) (nI t) 0 W.2.2.2.2.2.2.2.2.2.2.2.2.2.2.2.2.2.2.1 (-1) W.2.2.2.2.2.2.2.2.2.2.2.2.2.2.2.2.2.2.2.2.1 (nI pr) W.2.2.2.2.2.2.2.2.2.2.2.2.2.2.2.2.2.2.2.2.2.2.1 W.2.2.2.2.2.2.2.2.2.2.2.2.2.2.2.2.2.2.2.2.2.2.2.1 W.2.2.2.2.2.2.2.2.2.2.2.2.2.2.2.2.2.2.2.2.2.2.2.2.1 W.2.2.2.2.2.2.2.2.2.2.2.2.2.2.2.2.2.2.2.2.2.2.2.2.2.1 W.2.2.2.2.2.2.2.2.2.2.2.2.2.2.2.2.2.2.2.2.2.2.2.2.2.2.1 W.2.2.2.2.2.2.2.2.2.2.2.2.2.2.2.2.2.2.2.2.2.2.2.2.2.2.2.1 W.2.2.2.2.2.2.2.2.2.2.2.2.2.2.2.2.2.2.2.2.2.2.2.2.2.2.2.2.1 td va vr out mem := by
    intro z hz hiff
    subst hz
    rw [e1]
    refine ⟨vi, nm_r (e' := upd va vs.length (if v = 0 then 0 else 1)) (by rw [e2]) ?_⟩
    unfold wpY_kill
    refine br_f (by decide) ?_
    refine ym_then 5 0 (by decide) (by decide) rfl (by simp only [List.length_cons]; omega) rfl (by simp only [List.length_cons]; omega) hd fun td hd => ?_
    unfold wY_decide_78
    refine ym_then 21 0 (by decide) (by decide) rfl (by simp only [List.length_cons]; omega) rfl (by simp only [List.length_cons]; omega) hd fun td hd => ?_
    exact ym_131 rfl (by omega) rfl (by simp only [List.length_cons]; omega) rfl hd (by simp only [List.length_cons]; omega) fun td hd => hQ _ (H1 hiff _ ca ⟨pk_us, zp_V_up hv.2 (Nat.le_refl _)⟩ td hd)
  have nok : ¬ (v = 0 ↔ q = 2) → wY_decide_78 (fun u => match u with | (f_count, f_place, f_length, f_functions, f_loaded, f_loops, f_outside, f_tt, f_vt, f_pos, f_bad, f_checking, f_live, f_pending, f_carry, f_active, f_ticks, f_status, f_result, f_endedAt, f_used, f_printed, a_kind, a_value, a_code, a_number, a_given, a_begins, a_params, a_todo, a_val, a_vars, a_output, a_memory) => wY_expressionPart_131 Q (nI q) f_count f_place f_length f_functions f_loaded f_loops f_outside f_tt f_vt f_pos f_bad f_checking f_live f_pending f_carry f_active f_ticks f_status f_result f_endedAt f_used f_printed a_kind a_value a_code a_number a_given a_begins a_params a_todo a_val a_vars a_output a_memory) W.1 W.2.1 W.2.2.1 W.2.2.2.1 W.2.2.2.2.1 W.2.2.2.2.2.1 W.2.2.2.2.2.2.1 (nI (yp_n 17 w (v :: vs).length :: T).length) (nI vs.length) (nI (p + 1)) 0 W.2.2.2.2.2.2.2.2.2.2.2.1 1 0 ca (nI a) (nI t) 0 W.2.2.2.2.2.2.2.2.2.2.2.2.2.2.2.2.2.2.1 (-1) W.2.2.2.2.2.2.2.2.2.2.2.2.2.2.2.2.2.2.2.2.1 (nI pr) W.2.2.2.2.2.2.2.2.2.2.2.2.2.2.2.2.2.2.2.2.2.2.1 W.2.2.2.2.2.2.2.2.2.2.2.2.2.2.2.2.2.2.2.2.2.2.2.1 W.2.2.2.2.2.2.2.2.2.2.2.2.2.2.2.2.2.2.2.2.2.2.2.2.1 W.2.2.2.2.2.2.2.2.2.2.2.2.2.2.2.2.2.2.2.2.2.2.2.2.2.1 W.2.2.2.2.2.2.2.2.2.2.2.2.2.2.2.2.2.2.2.2.2.2.2.2.2.2.1 W.2.2.2.2.2.2.2.2.2.2.2.2.2.2.2.2.2.2.2.2.2.2.2.2.2.2.2.1 W.2.2.2.2.2.2.2.2.2.2.2.2.2.2.2.2.2.2.2.2.2.2.2.2.2.2.2.2.1 td va vr out mem := by
    intro hiff
    unfold wY_decide_78
    refine ym_then 21 0 (by decide) (by decide) rfl (by omega) rfl (by simp only [List.length_cons]; omega) hd fun td hd => ?_
    exact ym_131 rfl (by omega) rfl (by omega) rfl hd (by simp only [List.length_cons]; omega) fun td hd => hQ _ (H2 hiff _ _ _ hd hv.2)
  unfold wpY_decide
  refine br_f (by decide) ?_
  refine ⟨by rw [e1]; exact vi, ?_⟩
  rw [e1, e2, hv.1]
  have q12 : nI q = 1 ↔ q = 1 := nI_eq (b := 1) (by omega) (by decide)
  refine br_c (fun z => ?_) (fun z => ?_)
  · refine br_c (fun y => ?_) (fun y => ?_)
    · exact br_f (by decide) (nm_r e1 (nok (fun i => by have := i.mp z; have := q12.mp y; omega)))
    · exact br_t rfl (br_t rfl (kil 0 (if_pos z).symm ⟨fun _ => by rw [q12] at y; omega, fun _ => z⟩))
  · refine br_c (fun y => ?_) (fun y => ?_)
    · exact br_t rfl (br_f (by decide) (kil 1 (if_neg z).symm ⟨fun w => absurd w z, fun w => by rw [q12] at y; omega⟩))
    · exact br_f (by decide) (nm_r e1 (nok (fun i => z (i.mpr (by rw [q12] at y; omega)))))
theorem yl_drop {post : SY → Prop} {W : SY} {n g a p t pr : Nat} {vs : List Int32} {T : List Nat} {vr mem out : Nat → Int32} (hW : yb W n) (hg : g < 400000) (hp : p ≤ n) (hh : vs.length < 590) (hT : T.length + 10 < 1300) {e : Nat} {v : Int32} (he : yp_e e 15) (H : yR post W (g + 1) a vs p t pr T vr mem out) : yR post W g a (v :: vs) p t pr (e :: T) vr mem out := by
  have hn := hW.2.1
  intro td va ca hd hv
  have e1 : nI (v :: vs).length - 1 = nI vs.length := nI_pred _
  have e2 : (nI vs.length).toNatClampNeg = vs.length := nI_clamp (by omega)
  have vi : vp_in (nI vs.length) 600 := vp_in_nI (by omega) (by decide)
  refine yi_e 15 0 (by decide) (by decide) he (by omega) hg rfl (by omega) hd rfl rfl fun Q hQ => ?_
  exact br_f (by decide) (br_f (by decide) (br_t (by decide) (br_f (by decide) (nm_r e1 (hQ _ (H _ _ _ hd.2 hv.2))))))
theorem yl_tru {post : SY → Prop} {W : SY} {n g a p t pr : Nat} {vs : List Int32} {T : List Nat} {vr mem out : Nat → Int32} (hW : yb W n) (hg : g < 400000) (hp : p ≤ n) (hh : vs.length < 590) (hT : T.length + 10 < 1300) {e : Nat} {v : Int32} (he : yp_e e 21) (H : yR post W (g + 1) a (zv_u 57 v :: vs) p t pr T vr mem out) : yR post W g a (v :: vs) p t pr (e :: T) vr mem out := by
  have hn := hW.2.1
  intro td va ca hd hv
  have e1 : nI (v :: vs).length - 1 = nI vs.length := nI_pred _
  have e2 : (nI vs.length).toNatClampNeg = vs.length := nI_clamp (by omega)
  have vi : vp_in (nI vs.length) 600 := vp_in_nI (by omega) (by decide)
  refine yi_e 21 0 (by decide) (by decide) he (by omega) hg rfl (by omega) hd rfl rfl fun Q hQ => ?_
  refine br_f (by decide) (br_t (by decide) (br_f (by decide) ?_))
  rw [e1, e2, hv.1]
  refine ⟨vi, br_c (fun z => ⟨vi, nm_e ?_⟩) (fun z => ⟨vi, nm_e ?_⟩)⟩
  · rw [show zv_u 57 v = 0 from if_pos z] at H; exact hQ _ (H _ _ _ hd.2 ⟨pk_us, zp_V_up hv.2 (Nat.le_refl _)⟩)
  · rw [show zv_u 57 v = 1 from if_neg z] at H; exact hQ _ (H _ _ _ hd.2 ⟨pk_us, zp_V_up hv.2 (Nat.le_refl _)⟩)
theorem yl_sign {post : SY → Prop} {W : SY} {n g a p t pr : Nat} {vs : List Int32} {T : List Nat} {vr mem out : Nat → Int32} (hW : yb W n) (hg : g < 400000) (hp : p ≤ n) (hh : vs.length < 590) (hT : T.length + 10 < 1300) {e : Nat} {v : Int32} {d k : Nat} (hdd : d = 28 ∧ k = 50 ∨ d = 32 ∧ k = 32 ∨ d = 33 ∧ k = 33) (he : yp_e e (19 + 32 * d)) (H : yR post W (g + 1) a (zv_u k v :: vs) p t pr T vr mem out) : yR post W g a (v :: vs) p t pr (e :: T) vr mem out := by
  have hn := hW.2.1
  intro td va ca hd hv
  have e1 : nI (v :: vs).length - 1 = nI vs.length := nI_pred _
  have e2 : (nI vs.length).toNatClampNeg = vs.length := nI_clamp (by omega)
  have vi : vp_in (nI vs.length) 600 := vp_in_nI (by omega) (by decide)
  refine yi_e 19 d (by decide) (by decide) he (by omega) hg rfl (by omega) hd rfl rfl fun Q hQ => ?_
  refine br_f (by decide) (br_f (by decide) (br_f (by decide) (br_f (by decide) (br_f (by decide) (br_f (by decide) (br_t (by decide) (br_f (by decide) ?_)))))))
  rw [e1, e2, hv.1]
  rcases hdd with ⟨rfl, rfl⟩ | ⟨rfl, rfl⟩ | ⟨rfl, rfl⟩
  · exact br_t (by decide) ⟨vi, vi, nm_e (hQ _ (H _ _ _ hd.2 ⟨pk_us, zp_V_up hv.2 (Nat.le_refl _)⟩))⟩
  · refine br_f (by decide) (br_f (by decide) ⟨vi, br_c (fun z => ⟨vi, nm_e ?_⟩) (fun z => ⟨vi, nm_e ?_⟩)⟩)
    · rw [show zv_u 32 v = 1 from if_pos z] at H; exact hQ _ (H _ _ _ hd.2 ⟨pk_us, zp_V_up hv.2 (Nat.le_refl _)⟩)
    · rw [show zv_u 32 v = 0 from if_neg z] at H; exact hQ _ (H _ _ _ hd.2 ⟨pk_us, zp_V_up hv.2 (Nat.le_refl _)⟩)
  · exact br_f (by decide) (br_t (by decide) ⟨vi, vi, nm_e (hQ _ (H _ _ _ hd.2 ⟨pk_us, zp_V_up hv.2 (Nat.le_refl _)⟩))⟩)
theorem yl_comp {post : SY → Prop} {W : SY} {n g a p t pr : Nat} {vs : List Int32} {T : List Nat} {vr mem out : Nat → Int32} (hW : yb W n) (hg : g < 400000) (hp : p ≤ n) (hh : vs.length < 590) (hT : T.length + 10 < 1300) {e : Nat} {x y : Int32} {q k : Nat} (he : yp_e e (20 + 32 * q)) (hq : q < n) (hk : W.2.2.2.2.2.2.2.2.2.2.2.2.2.2.2.2.2.2.2.2.2.2.2.2.1 q = nI k) (hk1 : 15 ≤ k) (hk2 : k ≤ 31) (H1 : y = 0 ∧ 30 ≤ k → yF post W 1 (nI q) 0 t pr mem out) (H2 : ¬ (y = 0 ∧ 30 ≤ k) → yR post W (g + 1) a (zv_b k x y :: vs) p t pr T vr mem out) : yR post W g a (y :: x :: vs) p t pr (e :: T) vr mem out := by
  have hn := hW.2.1
  intro td va ca hd hv
  have e1 : nI (y :: x :: vs).length - 1 = nI (vs.length + 1) := nI_pred _
  have e2 : (nI (vs.length + 1)).toNatClampNeg = vs.length + 1 := nI_clamp (by omega)
  have e3 : nI (vs.length + 1) - 1 = nI vs.length := nI_pred _
  have e4 : (nI vs.length).toNatClampNeg = vs.length := nI_clamp (by omega)
  have e5 : (nI q).toNatClampNeg = q := nI_clamp (by omega)
  have h1 : va (vs.length + 1) = y := hv.1
  refine yi_e 20 q (by decide) (by decide) he (by omega) hg rfl (by omega) hd rfl rfl fun Q hQ => ?_
  refine br_f (by decide) (br_f (by decide) (br_f (by decide) (br_f (by decide) (br_f (by decide) (br_f (by decide) (br_f (by decide) (br_t (by decide) (br_f (by decide) ?_))))))))
  unfold wpY_compute
  refine nm_r e1 ⟨by rw [e1]; exact vp_in_nI (by omega) (by decide), nm_r (e' := y) (by rw [e1, e2]; exact h1) ⟨by rw [e3]; exact vp_in_nI (by omega) (by decide), nm_r (e' := x) (by rw [e3, e4]; exact hv.2.1) ⟨vp_in_nI (by omega) (by decide), nm_r (e' := nI k) (by rw [e5]; exact hk) ?_⟩⟩⟩
  have fin : ¬ (y = 0 ∧ 30 ≤ k) → wY_compute_55 Q y x (nI k) W.1 W.2.1 W.2.2.1 W.2.2.2.1 W.2.2.2.2.1 W.2.2.2.2.2.1 W.2.2.2.2.2.2.1 (nI T.length) (nI (vs.length + 1)) (nI p) 0 W.2.2.2.2.2.2.2.2.2.2.2.1 1 0 ca (nI a) (nI t) 0 W.2.2.2.2.2.2.2.2.2.2.2.2.2.2.2.2.2.2.1 (-1) W.2.2.2.2.2.2.2.2.2.2.2.2.2.2.2.2.2.2.2.2.1 (nI pr) W.2.2.2.2.2.2.2.2.2.2.2.2.2.2.2.2.2.2.2.2.2.2.1 W.2.2.2.2.2.2.2.2.2.2.2.2.2.2.2.2.2.2.2.2.2.2.2.1 W.2.2.2.2.2.2.2.2.2.2.2.2.2.2.2.2.2.2.2.2.2.2.2.2.1 W.2.2.2.2.2.2.2.2.2.2.2.2.2.2.2.2.2.2.2.2.2.2.2.2.2.1 W.2.2.2.2.2.2.2.2.2.2.2.2.2.2.2.2.2.2.2.2.2.2.2.2.2.2.1 W.2.2.2.2.2.2.2.2.2.2.2.2.2.2.2.2.2.2.2.2.2.2.2.2.2.2.2.1 W.2.2.2.2.2.2.2.2.2.2.2.2.2.2.2.2.2.2.2.2.2.2.2.2.2.2.2.2.1 td va vr out mem :=
    fun z => ym_55 hk1 hk2 z rfl (by omega) (hQ _ (H2 z _ _ _ hd.2 ⟨pk_us, zp_V_up hv.2.2 (Nat.le_refl _)⟩))
  refine pk_lt k 30 (fun z => fin (by omega)) (fun z => br_c (fun w => ?_) (fun w => fin (fun u => w u.1)))
  exact hQ _ (yf_end (by omega) (by decide) (H1 ⟨w, z⟩ _ _ _ _ _ _ _ _ _ _ _ (fun w => absurd w (by decide))))
theorem yl_cell {post : SY → Prop} {W : SY} {n g a p t pr : Nat} {vs : List Int32} {T : List Nat} {vr mem out : Nat → Int32} (hW : yb W n) (hg : g < 400000) (hp : p ≤ n) (hh : vs.length < 590) (hT : T.length + 10 < 1300) {e : Nat} {i : Int32} {q : Nat} (he : yp_e e (22 + 32 * q)) (hq : q < 1024) (H1 : ¬ i < 0 → i ≤ 15 → yR post W (g + 1) a (mem i.toNatClampNeg :: vs) p t pr T vr mem out) (H2 : (i < 0 ∨ ¬ i ≤ 15) → yF post W 2 (nI q) 0 t pr mem out) : yR post W g a (i :: vs) p t pr (e :: T) vr mem out := by
  have hn := hW.2.1
  intro td va ca hd hv
  have e1 : nI (i :: vs).length - 1 = nI vs.length := nI_pred _
  have e2 : (nI vs.length).toNatClampNeg = vs.length := nI_clamp (by omega)
  have vi : vp_in (nI vs.length) 600 := vp_in_nI (by omega) (by decide)
  refine yi_c 22 q (by decide) (by decide) he (by omega) hg rfl (by omega) hd rfl rfl fun Q hQ => ?_
  refine br_f (by decide) (br_f (by decide) (br_t (by decide) (br_f (by decide) ?_)))
  rw [e1, e2, hv.1]
  have bad : (i < 0 ∨ ¬ i ≤ 15) → Q (W.1, W.2.1, W.2.2.1, W.2.2.2.1, W.2.2.2.2.1, W.2.2.2.2.2.1, W.2.2.2.2.2.2.1, nI T.length, nI (i :: vs).length, nI p, 0, W.2.2.2.2.2.2.2.2.2.2.2.1, 1, 0, ca, nI a, nI t, 2, W.2.2.2.2.2.2.2.2.2.2.2.2.2.2.2.2.2.2.1, nI q, W.2.2.2.2.2.2.2.2.2.2.2.2.2.2.2.2.2.2.2.2.1, nI pr, W.2.2.2.2.2.2.2.2.2.2.2.2.2.2.2.2.2.2.2.2.2.2.1, W.2.2.2.2.2.2.2.2.2.2.2.2.2.2.2.2.2.2.2.2.2.2.2.1, W.2.2.2.2.2.2.2.2.2.2.2.2.2.2.2.2.2.2.2.2.2.2.2.2.1, W.2.2.2.2.2.2.2.2.2.2.2.2.2.2.2.2.2.2.2.2.2.2.2.2.2.1, W.2.2.2.2.2.2.2.2.2.2.2.2.2.2.2.2.2.2.2.2.2.2.2.2.2.2.1, W.2.2.2.2.2.2.2.2.2.2.2.2.2.2.2.2.2.2.2.2.2.2.2.2.2.2.2.1, W.2.2.2.2.2.2.2.2.2.2.2.2.2.2.2.2.2.2.2.2.2.2.2.2.2.2.2.2.1, td, va, vr, out, mem) := fun z => hQ _ (yf_end (by omega) (by decide) (H2 z _ _ _ _ _ _ _ _ _ _ _ (fun w => absurd w (by decide))))
  refine ⟨vi, nm_e (br_c (fun z => bad (Or.inl z)) (fun z => br_c (fun y => ⟨rl_in (N := 15) (by decide) z y (by decide), vi, nm_e (hQ _ (H1 z y _ _ _ hd.2 ⟨pk_us, zp_V_up hv.2 (Nat.le_refl _)⟩))⟩) (fun y => bad (Or.inr y))))⟩
theorem yl_args {post : SY → Prop} {W : SY} {n g a p t pr : Nat} {vs : List Int32} {T : List Nat} {vr mem out : Nat → Int32} (hW : yb W n) (hg : g < 400000) (hp : p ≤ n) (hh : vs.length < 590) (hT : T.length + 10 < 1300) {e : Nat} {q : Nat} (he : yp_e e (23 + 32 * q)) (hq : q < n) (H1 : gm_tk W.2.2.2.2.2.2.2.2.2.2.2.2.2.2.2.2.2.2.2.2.2.2.2.2.1 n p = 5 → yR post W (g + 1) a vs (p + 1) t pr T vr mem out) (H2 : ¬ gm_tk W.2.2.2.2.2.2.2.2.2.2.2.2.2.2.2.2.2.2.2.2.2.2.2.2.1 n p = 5 → yR post W (g + 1) a vs p t pr (yp_n 16 0 vs.length :: yp_n 24 q vs.length :: T) vr mem out) : yR post W g a vs p t pr (e :: T) vr mem out := by
  have hn := hW.2.1
  intro td va ca hd hv
  refine yi_c 23 q (by decide) (by decide) he (by omega) hg rfl (by omega) hd rfl rfl fun Q hQ => ?_
  refine br_f (by decide) (br_f (by decide) (br_f (by decide) (br_t (by decide) (?_))))
  exact ym_args0 rfl hW.1 hW.2.1 (by omega) rfl rfl (by omega) rfl hd.2 hW.2.2.2 rfl (by omega) (by omega) (fun z => hQ _ (H1 z _ _ _ hd.2 hv)) (fun z td hd => hQ _ (H2 z _ _ _ hd hv))
theorem yl_margs {post : SY → Prop} {W : SY} {n g a p t pr : Nat} {vs : List Int32} {T : List Nat} {vr mem out : Nat → Int32} (hW : yb W n) (hg : g < 400000) (hp : p ≤ n) (hh : vs.length < 590) (hT : T.length + 10 < 1300) {e : Nat} {q : Nat} (he : yp_e e (24 + 32 * q)) (hq : q < n) (h5 : gm_tk W.2.2.2.2.2.2.2.2.2.2.2.2.2.2.2.2.2.2.2.2.2.2.2.2.1 n p = 5 ∨ gm_tk W.2.2.2.2.2.2.2.2.2.2.2.2.2.2.2.2.2.2.2.2.2.2.2.2.1 n p = 11) (H1 : gm_tk W.2.2.2.2.2.2.2.2.2.2.2.2.2.2.2.2.2.2.2.2.2.2.2.2.1 n p = 5 → yR post W (g + 1) a vs (p + 1) t pr T vr mem out) (H2 : gm_tk W.2.2.2.2.2.2.2.2.2.2.2.2.2.2.2.2.2.2.2.2.2.2.2.2.1 n p = 11 → yR post W (g + 1) a vs (p + 1) t pr (yp_n 16 0 vs.length :: yp_n 24 q vs.length :: T) vr mem out) : yR post W g a vs p t pr (e :: T) vr mem out := by
  have hn := hW.2.1
  intro td va ca hd hv
  refine yi_c 24 q (by decide) (by decide) he (by omega) hg rfl (by omega) hd rfl rfl fun Q hQ => ?_
  refine br_f (by decide) (br_f (by decide) (br_f (by decide) (br_f (by decide) (br_t (by decide) (?_)))))
  exact ym_margs0 rfl hW.1 hW.2.1 (by omega) rfl rfl (by omega) rfl hd.2 hW.2.2.2 rfl (by omega) (by omega) (fun z => hQ _ (H1 z _ _ _ hd.2 hv)) (fun z y td hd => hQ _ (H2 y _ _ _ hd hv)) (fun z y => absurd (h5.resolve_left z) y)
