/-! Y, live: calls, returns; from not live to live -/
theorem zp_ent_fun {a c h : Nat} {va : Nat → Int32} : ∀ (v : Nat) (X : Nat → Int32) (vs : List Int32), vs.length = h + (if v < c then v else c) → zp_V va vs →
    zp_ent a c v X vs = fun j => if 6 * a ≤ j ∧ j < 6 * a + v then (if j - 6 * a < c then va (h + (j - 6 * a)) else 0) else X j := by
  intro v
  induction v with
  | zero =>
    intro X vs _ _
    funext j
    rw [if_neg (by omega)]
    rfl
  | succ v ih =>
    intro X vs hl hv
    by_cases hc : v < c
    · have e1 : (if v + 1 < c then v + 1 else c) = v + 1 := by split <;> omega
      rw [e1] at hl
      cases vs with
      | nil => simp at hl
      | cons w l =>
        simp only [List.length_cons] at hl
        have hll : l.length = h + v := by omega
        rw [show zp_ent a c (v + 1) X (w :: l) = zp_ent a c v (upd X (6 * a + v) w) l from if_pos hc, ih _ l (by rw [if_pos hc]; exact hll) hv.2]
        funext j
        by_cases h1 : j = 6 * a + v
        · subst h1
          rw [if_neg (by omega), pk_us, if_pos (by omega), if_pos (by omega)]
          have := hv.1
          rw [hll] at this
          rw [show 6 * a + v - 6 * a = v by omega]
          exact this.symm
        · by_cases h2 : 6 * a ≤ j ∧ j < 6 * a + v
          · rw [if_pos h2, if_pos (show 6 * a ≤ j ∧ j < 6 * a + (v + 1) by omega)]
          · rw [if_neg h2, pk_un h1, if_neg (by omega)]
    · rw [if_neg (by omega)] at hl
      rw [show zp_ent a c (v + 1) X vs = zp_ent a c v (upd X (6 * a + v) 0) vs from if_neg hc, ih _ vs (by rw [if_neg hc]; exact hl) hv]
      funext j
      by_cases h1 : j = 6 * a + v
      · subst h1
        rw [if_neg (by omega), pk_us, if_pos (by omega), if_neg (by omega)]
      · by_cases h2 : 6 * a ≤ j ∧ j < 6 * a + v
        · rw [if_pos h2, if_pos (show 6 * a ≤ j ∧ j < 6 * a + (v + 1) by omega)]
        · rw [if_neg h2, pk_un h1, if_neg (by omega)]
theorem ym_ent {post : SY → Prop} {f_count f_place f_length f_functions f_loaded f_loops f_outside f_tt f_vt f_pos f_bad f_checking f_live f_pending f_carry f_active f_ticks f_status f_result f_endedAt f_used f_printed : Int32} {a_kind a_value a_code a_number a_given a_begins a_params a_todo a_val a_vars a_output a_memory : Nat → Int32} {f c a h p q : Nat} {T : List Nat} {vs : List Int32} {x y : Int32} (hx : x = nI f) (hf : f < 4) (hc : a_params f = nI c) (hc3 : c ≤ 3) (ha : f_active = nI a) (ha8 : a < 8) (hy : y = nI h) (hh : h < 590) (hp : f_pos = nI p) (hp' : p < 1024) (hq : a_begins f = nI q)
    (ht : f_tt = nI T.length) (hT : T.length + 2 < 1300) (hd : yp_Td a_todo T) (hl : vs.length = h + c) (hv : zp_V a_val vs)
    (H : ∀ td, yp_Td td (yp_n 2 0 h :: yp_n 26 p h :: T) → post (f_count, f_place, f_length, f_functions, f_loaded, f_loops, f_outside, nI (yp_n 2 0 h :: yp_n 26 p h :: T).length, nI h, nI q, f_bad, f_checking, f_live, f_pending, f_carry, nI (a + 1), f_ticks, f_status, f_result, f_endedAt, f_used, f_printed, a_kind, a_value, a_code, a_number, a_given, a_begins, a_params, td, a_val, zp_ent a c 6 a_vars vs, a_output, a_memory)) : ∃ m, wY_enter_32 post x y f_count f_place f_length f_functions f_loaded f_loops f_outside f_tt f_vt f_pos f_bad f_checking f_live f_pending f_carry f_active f_ticks f_status f_result f_endedAt f_used f_printed m 0 a_kind a_value a_code a_number a_given a_begins a_params a_todo a_val a_vars a_output a_memory := by
  subst hx hy
  have ef : (nI f).toNatClampNeg = f := nI_clamp (by omega)
  have e6 : (if 6 < c then 6 else c) = c := if_neg (by omega)
  have key : ∀ d v, v + d = 6 → wY_enter_32 post (nI f) (nI h) f_count f_place f_length f_functions f_loaded f_loops f_outside f_tt f_vt f_pos f_bad f_checking f_live f_pending f_carry f_active f_ticks f_status f_result f_endedAt f_used f_printed (d + 1) (nI v) a_kind a_value a_code a_number a_given a_begins a_params a_todo a_val (fun j => if 6 * a ≤ j ∧ j < 6 * a + v then (if j - 6 * a < c then a_val (h + (j - 6 * a)) else 0) else a_vars j) a_output a_memory := by
    intro d
    induction d with
    | zero =>
      intro v hv6
      have : v = 6 := by omega
      subst this
      refine br_t (by decide) (nm_r (e' := nI (a + 1)) (by rw [ha]; exact nI_1 a) ?_)
      rw [← zp_ent_fun (c := c) (h := h) 6 a_vars vs (by rw [e6]; exact hl) hv, hp]
      refine ym_then 26 p (by decide) hp' rfl (by omega) ht (by omega) hd fun td hd => ?_
      refine ym_then 2 0 (by decide) (by decide) rfl (by omega) rfl (by simp only [List.length_cons]; omega) hd fun td hd => ?_
      refine ⟨vp_in_nI hf (by decide), nm_r (e' := nI q) (by rw [ef]; exact hq) ?_⟩
      exact H td hd
    | succ d ih =>
      intro v hv6
      have eu : ∀ w : Int32, (if v < c then a_val (h + v) else 0) = w → upd (fun j => if 6 * a ≤ j ∧ j < 6 * a + v then (if j - 6 * a < c then a_val (h + (j - 6 * a)) else 0) else a_vars j) (6 * a + v) w = (fun j => if 6 * a ≤ j ∧ j < 6 * a + (v + 1) then (if j - 6 * a < c then a_val (h + (j - 6 * a)) else 0) else a_vars j) := by
        intro w hw
        funext j
        by_cases h1 : j = 6 * a + v
        · subst h1
          rw [pk_us, if_pos (by omega), show 6 * a + v - 6 * a = v by omega]
          exact hw.symm
        · rw [pk_un h1]
          by_cases h2 : 6 * a ≤ j ∧ j < 6 * a + v
          · rw [if_pos h2, if_pos (show 6 * a ≤ j ∧ j < 6 * a + (v + 1) by omega)]
          · rw [if_neg h2, if_neg (by omega)]
      have es : 6 * f_active + nI v = nI (6 * a + v) := by rw [ha, show (6 : Int32) * nI a = nI (6 * a) from pk_mul 6 a, nI_add]
      have vi : vp_in (nI (6 * a + v)) 48 := vp_in_nI (by omega) (by decide)
      refine br_f (nI_ge (b := 6) (by omega) (by decide)) ⟨vp_in_nI hf (by decide), ?_⟩
      rw [ef, hc, es, nI_clamp (n := 6 * a + v) (by omega)]
      refine pk_le c v (fun z => ⟨vi, nm_r (eu 0 (if_neg (by omega))) (nm_r (nI_1 _) (ih (v + 1) (by omega)))⟩) (fun z => ?_)
      rw [nI_add, nI_clamp (n := h + v) (by omega)]
      exact ⟨vp_in_nI (by omega) (by decide), vi, nm_r (eu (a_val (h + v)) (if_pos z)) (nm_r (nI_1 _) (ih (v + 1) (by omega)))⟩
  refine ⟨7, ?_⟩
  have e0 : (fun j => if 6 * a ≤ j ∧ j < 6 * a + 0 then (if j - 6 * a < c then a_val (h + (j - 6 * a)) else 0) else a_vars j) = a_vars := by
    funext j
    rw [if_neg (by omega)]
  have k0 := key 6 0 rfl
  rw [e0] at k0
  exact k0
theorem zp_V_drop {st : Nat → Int32} : ∀ (c : Nat) {l : List Int32}, zp_V st l → zp_V st (l.drop c)
  | 0, _, h => h
  | _ + 1, [], _ => trivial
  | c + 1, _ :: l, h => zp_V_drop c (l := l) h.2
theorem yl_call {post : SY → Prop} {W : SY} {n g a p t pr : Nat} {vs : List Int32} {T : List Nat} {vr mem out : Nat → Int32} (hW : yb W n) (hg : g < 400000) (hp : p ≤ n) (hh : vs.length < 590) (hT : T.length + 10 < 1300) {e q h f c p' : Nat} (he : e = yp_n 25 q h) (hq : q < n) (hf : W.2.2.2.2.2.2.2.2.2.2.2.2.2.2.2.2.2.2.2.2.2.2.2.2.2.1 q = nI f) (hf4 : f < 4) (hc : W.2.2.2.2.2.2.2.2.2.2.2.2.2.2.2.2.2.2.2.2.2.2.2.2.2.2.2.2.1 f = nI c) (hc3 : c ≤ 3) (hl : vs.length = h + c) (hb : W.2.2.2.2.2.2.2.2.2.2.2.2.2.2.2.2.2.2.2.2.2.2.2.2.2.2.2.1 f = nI p') (ha8 : a ≤ 8) (ht : t ≤ 120)
    (H8 : a = 8 → yF post W 3 (nI q) 0 t pr mem out) (Ht : a < 8 → t = 0 → yF post W 4 (nI q) 0 t pr mem out)
    (H : a < 8 → 0 < t → yR post W (g + 1) (a + 1) (vs.drop c) p' (t - 1) pr (yp_n 2 0 h :: yp_n 26 p h :: T) (zp_ent a c 6 vr vs) mem out) : yR post W g a vs p t pr (e :: T) vr mem out := by
  have hn := hW.2.1
  intro td va ca hd hv
  have hdv : e / 32768 = h := by subst he; dsimp only [yp_n]; omega
  have he' : yp_e e (25 + 32 * q) := by rw [he]; exact yp_e_n (by decide) (by omega) (by omega)
  have e5 : (nI q).toNatClampNeg = q := nI_clamp (by omega)
  have dl : (vs.drop c).length = h := by rw [List.length_drop]; omega
  have dv : zp_V va (vs.drop c) := zp_V_drop c hv
  refine yi_c 25 q (by decide) (by decide) he' (by omega) hg rfl (by omega) hd rfl rfl fun Q hQ => ?_
  refine br_f (by decide) (br_f (by decide) (br_f (by decide) (br_f (by decide) (br_f (by decide) (br_t (by decide) (br_f (by decide) ?_))))))
  refine ⟨vp_in_nI (by omega) (by decide), ?_⟩
  rw [e5, hf, hdv]
  unfold wpY_enter
  refine pk_eq a 8 (fun z => ?_) (fun z => br_f (nI_pos (by omega)) ?_)
  · exact hQ _ (yf_end (by omega) (by decide) (H8 z _ _ _ _ _ _ _ _ _ _ _ (fun w => absurd w (by decide))))
  refine ym_tick rfl ht (fun y => br_f (by decide) ?_) (fun y => br_t rfl ?_)
  · refine ym_ent rfl hf4 hc hc3 rfl (by omega) rfl (by omega) rfl (by omega) hb rfl (by omega) hd.2 hl hv fun td hd => ?_
    have H := H (by omega) y td va ca hd dv
    rw [dl] at H
    exact hQ _ H
  · exact hQ _ (yf_end (by omega) (by decide) (Ht (by omega) y _ _ _ _ _ _ _ _ _ _ _ (fun w => absurd w (by decide))))
theorem yl_frame {post : SY → Prop} {W : SY} {n g a p t pr : Nat} {vs : List Int32} {T : List Nat} {vr mem out : Nat → Int32} (hW : yb W n) (hg : g < 400000) (hp : p ≤ n) (hh : vs.length < 590) (hT : T.length + 10 < 1300) {e q b : Nat} (he : e = yp_n 26 q vs.length) (hq : q < 1024) (ha : a = b + 1) (H : yR post W (g + 1) b (0 :: vs) q t pr T vr mem out) : yR post W g a vs p t pr (e :: T) vr mem out := by
  have hn := hW.2.1
  intro td va ca hd hv
  subst ha
  have hdv : e / 32768 = vs.length := by subst he; dsimp only [yp_n]; omega
  have he' : yp_e e (26 + 32 * q) := by rw [he]; exact yp_e_n (by decide) (by omega) (by omega)
  refine yi_c 26 q (by decide) (by decide) he' (by omega) hg rfl (by omega) hd rfl rfl fun Q hQ => ?_
  refine br_f (by decide) (br_t (by decide) (?_))
  rw [hdv]
  unfold wpY_back
  refine nm_r (nI_pred _) (nm_r (nI_1 _) (br_f (by decide) ⟨vp_in_nI (by omega) (by decide), nm_r (e' := upd va vs.length 0) (by rw [nI_clamp (by omega)]) ?_⟩))
  exact hQ _ (H _ _ _ hd.2 ⟨pk_us, zp_V_up hv (Nat.le_refl _)⟩)
theorem yl_done {post : SY → Prop} {W : SY} {n g a p t pr : Nat} {vs : List Int32} {T : List Nat} {vr mem out : Nat → Int32} (hg : g ≤ 400000) {v : Int32} (H : yF post W 0 (-1) v t pr mem out) : yR post W g a [v] p t pr [] vr mem out := by
  intro td va ca hd hv
  exact ye_end hg (Or.inl (by decide)) (H _ _ _ _ _ _ _ _ _ _ _ (fun _ => hv.1))
theorem yk_rev {post : SY → Prop} {W : SY} {n g a p t pr : Nat} {vs : List Int32} {T : List Nat} {vr mem out : Nat → Int32} (hW : yb W n) (hg : g < 400000) (hp : p ≤ n) (hh : vs.length < 590) (hT : T.length + 10 < 1300) {ca : Int32} {va : Nat → Int32} {e : Nat} (he : yp_e e 5) (hv : zp_V va vs) (H : yR post W (g + 1) a vs p t pr T vr mem out) : yD post W g p (e :: T) vs.length 0 ca a t pr va vr mem out := by
  intro td hd
  refine yi_s 5 0 (by decide) he (by omega) hg rfl (by omega) hd rfl rfl fun Q hQ => ?_
  exact br_f (by decide) (br_f (by decide) (br_f (by decide) (br_f (by decide) (br_f (by decide) (br_f (by decide) (br_t (by decide) (hQ _ (H _ _ _ hd.2 hv))))))))
theorem yk_els {post : SY → Prop} {W : SY} {n g a p t pr : Nat} {vs : List Int32} {T : List Nat} {vr mem out : Nat → Int32} (hW : yb W n) (hg : g < 400000) (hp : p ≤ n) (hh : vs.length < 590) (hT : T.length + 10 < 1300) {ca : Int32} {va : Nat → Int32} {e : Nat} (he : yp_e e 71) (hv : zp_V va vs) (H1 : ¬ gm_tk W.2.2.2.2.2.2.2.2.2.2.2.2.2.2.2.2.2.2.2.2.2.2.2.2.1 n p = 35 → yR post W (g + 1) a vs p t pr T vr mem out) (H2 : gm_tk W.2.2.2.2.2.2.2.2.2.2.2.2.2.2.2.2.2.2.2.2.2.2.2.2.1 n p = 35 → yR post W (g + 1) a vs (p + 1) t pr (yp_n 3 0 vs.length :: T) vr mem out) : yD post W g p (e :: T) vs.length 0 ca a t pr va vr mem out := by
  have hn := hW.2.1
  intro td hd
  refine yi_s 7 2 (by decide) he (by omega) hg rfl (by omega) hd rfl rfl fun Q hQ => ?_
  refine br_f (by decide) (br_f (by decide) (br_f (by decide) (br_f (by decide) (br_f (by decide) (br_f (by decide) (br_f (by decide) (br_f (by decide) (br_t (by decide) (br_t rfl ?_)))))))))
  refine ym_tok rfl hW.1 hW.2.1 (by omega) ?_
  refine br_c (fun z => nm_r (nI_1 _) (br_f (by decide) ?_)) (fun z => hQ _ (H1 z _ _ _ hd.2 hv))
  exact ym_then 3 0 (by decide) (by decide) rfl (by omega) rfl (by omega) hd.2 fun td hd => hQ _ (H2 z _ _ _ hd hv)
theorem yk_brk {post : SY → Prop} {W : SY} {n g a p t pr : Nat} {vs : List Int32} {T : List Nat} {vr mem out : Nat → Int32} (hW : yb W n) (hg : g < 400000) (hp : p ≤ n) (hh : vs.length < 590) (hT : T.length + 10 < 1300) {ca : Int32} {va : Nat → Int32} {e q : Nat} (he : yp_e e (9 + 32 * q)) (hq : q < 1024) (hv : zp_V va vs) (H : yR post W (g + 1) a vs p t pr T vr mem out) : yD post W g p (e :: T) vs.length 1 ca a t pr va vr mem out := by
  intro td hd
  refine yi_s 9 q (by decide) he (by omega) hg rfl (by omega) hd rfl rfl fun Q hQ => ?_
  exact br_f (by decide) (br_f (by decide) (br_f (by decide) (br_f (by decide) (br_f (by decide) (br_f (by decide) (br_f (by decide) (br_f (by decide) (br_f (by decide) (br_f (by decide) (br_t (by decide) (br_t rfl (br_f (show ¬ (1 : Int32) = 2 by decide) (br_t rfl (br_t rfl (hQ _ (H _ _ _ hd.2 hv))))))))))))))))
theorem yk_con {post : SY → Prop} {W : SY} {n g a p t pr : Nat} {vs : List Int32} {T : List Nat} {vr mem out : Nat → Int32} (hW : yb W n) (hg : g < 400000) (hp : p ≤ n) (hh : vs.length < 590) (hT : T.length + 10 < 1300) {ca : Int32} {va : Nat → Int32} {e q : Nat} (he : yp_e e (9 + 32 * q)) (hq2 : 2 ≤ q) (hq : q < 1024) (ht : t ≤ 120) (hv : zp_V va vs) (H1 : 0 < t → yR post W (g + 1) a vs q (t - 1) pr (yp_n 16 0 vs.length :: yp_n 4 5 vs.length :: yp_n 8 q vs.length :: T) vr mem out) (H2 : t = 0 → yF post W 4 (nI (q - 2)) 0 t pr mem out) : yD post W g p (e :: T) vs.length 2 ca a t pr va vr mem out := by
  intro td hd
  refine yi_s 9 q (by decide) he (by omega) hg rfl (by omega) hd rfl rfl fun Q hQ => ?_
  refine br_f (by decide) (br_f (by decide) (br_f (by decide) (br_f (by decide) (br_f (by decide) (br_f (by decide) (br_f (by decide) (br_f (by decide) (br_f (by decide) (br_f (by decide) (br_t (by decide) (br_t rfl (br_t rfl (br_f (show ¬ (2 : Int32) = 1 by decide) (br_t rfl (br_f (by decide) ?_)))))))))))))))
  exact ym_loopL (by decide) rfl hq2 hq rfl ht rfl (by omega) rfl hd.2 (by omega) (fun z td hd => hQ _ (H1 z _ _ _ hd hv)) (fun z => hQ _ (yf_end (by omega) (by decide) (H2 z _ _ _ _ _ _ _ _ _ _ _ (fun w => absurd w (by decide)))))
theorem yk_frame {post : SY → Prop} {W : SY} {n g a p t pr : Nat} {vs : List Int32} {T : List Nat} {vr mem out : Nat → Int32} (hW : yb W n) (hg : g < 400000) (hp : p ≤ n) (hh : vs.length < 590) (hT : T.length + 10 < 1300) {ca : Int32} {va : Nat → Int32} {e q b : Nat} (he : e = yp_n 26 q vs.length) (hq : q < 1024) (ha : a = b + 1) (hv : zp_V va vs) (H : yR post W (g + 1) b (ca :: vs) q t pr T vr mem out) : yD post W g p (e :: T) vs.length 3 ca a t pr va vr mem out := by
  intro td hd
  subst ha
  have hdv : e / 32768 = vs.length := by subst he; dsimp only [yp_n]; omega
  have he' : yp_e e (26 + 32 * q) := by rw [he]; exact yp_e_n (by decide) (by omega) (by omega)
  refine yi_c 26 q (by decide) (by decide) he' (by omega) hg rfl (by omega) hd rfl rfl fun Q hQ => ?_
  refine br_f (by decide) (br_t (by decide) (?_))
  rw [hdv]
  unfold wpY_back
  refine nm_r (nI_pred _) (nm_r (nI_1 _) (br_t rfl ⟨vp_in_nI (by omega) (by decide), nm_r (e' := upd va vs.length ca) (by rw [nI_clamp (by omega)]; rfl) ?_⟩))
  exact hQ _ (H _ _ _ hd.2 ⟨pk_us, zp_V_up hv (Nat.le_refl _)⟩)
