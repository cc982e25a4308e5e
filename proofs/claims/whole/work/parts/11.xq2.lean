/-! X, compile: the loop, statements and expressions -/
section
variable {post : Int32 → SX → Prop} {U : SX} {K V : Nat → Int32} {n s p cc lc fc : Nat} {P : List gm_M} {lj : Int32} {ol : List Nat} {A : gm_A}
theorem xq_st8 {v : Int32} {q : Nat} (hU : xh U K V n) (hs : s < 1000000) (hl : P.length + 7 < 960) (hp : p ≤ 120) (h : gm_tk K n p = 8)
    (H : xQ post U (s + 1) (p + 1) ((102, 0, 0) :: (9, 0, 0) :: P) lj ol cc lc fc A) : xQ post U s p ((103, v, q) :: P) lj ol cc lc fc A := by
  intro pk pv pp oa hP hO
  refine xi_step hs rfl (by omega) hP rfl fun Q hQ => ?_
  rw [← hU.2.2.1 p] at h
  exact br_t (by decide) (br_t (by decide) (br_f (by decide) (br_f (by decide) (br_f (by decide) (br_f (by decide) (br_f (by decide) (br_t (by decide) (xm_st8 rfl hU.1 hU.2.1 hp rfl hP.2.2.2 (by omega) h (fun pk pv pp hP => hQ _ (H _ _ _ _ hP hO))))))))))
theorem xq_st1 {v : Int32} {q : Nat} (hU : xh U K V n) (hs : s < 1000000) (hl : P.length + 7 < 960) (hp : p < n) (h : gm_tk K n p = 1)
    (H : xQ post U (s + 1) (p + 1) ((12, 0, 0) :: (106, 1, 0) :: (253, V p, p) :: (10, 0, 0) :: P) lj ol cc lc fc A) : xQ post U s p ((103, v, q) :: P) lj ol cc lc fc A := by
  intro pk pv pp oa hP hO
  refine xi_step hs rfl (by omega) hP rfl fun Q hQ => ?_
  have hn := hU.2.1
  have hp' : p ≤ 120 := by omega
  rw [← hU.2.2.1 p] at h
  rw [← hU.2.2.2.1 p hp] at H
  exact br_t (by decide) (br_t (by decide) (br_f (by decide) (br_f (by decide) (br_f (by decide) (br_f (by decide) (br_f (by decide) (br_t (by decide) (xm_st1 rfl hU.1 hU.2.1 hp' rfl hP.2.2.2 (by omega) (by omega) h (fun pk pv pp hP => hQ _ (H _ _ _ _ hP hO))))))))))
theorem xq_st3 {v : Int32} {q : Nat} (hU : xh U K V n) (hs : s < 1000000) (hl : P.length + 7 < 960) (hp : p < n) (h : gm_tk K n p = 3)
    (H : xQ post U (s + 1) (p + 1) ((6, 0, 0) :: (106, 1, 0) :: (7, 0, 0) :: (12, 0, 0) :: (106, 1, 0) :: (255, V p, p) :: (10, 0, 0) :: P) lj ol cc lc fc A) : xQ post U s p ((103, v, q) :: P) lj ol cc lc fc A := by
  intro pk pv pp oa hP hO
  refine xi_step hs rfl (by omega) hP rfl fun Q hQ => ?_
  have hn := hU.2.1
  have hp' : p ≤ 120 := by omega
  rw [← hU.2.2.1 p] at h
  rw [← hU.2.2.2.1 p hp] at H
  exact br_t (by decide) (br_t (by decide) (br_f (by decide) (br_f (by decide) (br_f (by decide) (br_f (by decide) (br_f (by decide) (br_t (by decide) (xm_st3 rfl hU.1 hU.2.1 hp' rfl hP.2.2.2 (by omega) (by omega) h (fun pk pv pp hP => hQ _ (H _ _ _ _ hP hO))))))))))
theorem xq_st2 {v : Int32} {q : Nat} (hU : xh U K V n) (hs : s < 1000000) (hl : P.length + 7 < 960) (hp : p < n) (h : gm_tk K n p = 2)
    (H : xQ post U (s + 1) (p + 1) ((4, 0, 0) :: (109, 0, p) :: (262, 0, p) :: (263, 0, p) :: (264, V p, 0) :: (256, 0, 0) :: (10, 0, 0) :: P) lj ol cc lc fc A) : xQ post U s p ((103, v, q) :: P) lj ol cc lc fc A := by
  intro pk pv pp oa hP hO
  refine xi_step hs rfl (by omega) hP rfl fun Q hQ => ?_
  have hn := hU.2.1
  have hp' : p ≤ 120 := by omega
  rw [← hU.2.2.1 p] at h
  rw [← hU.2.2.2.1 p hp] at H
  exact br_t (by decide) (br_t (by decide) (br_f (by decide) (br_f (by decide) (br_f (by decide) (br_f (by decide) (br_f (by decide) (br_t (by decide) (xm_st2 rfl hU.1 hU.2.1 hp' rfl hP.2.2.2 (by omega) (by omega) h (fun pk pv pp hP => hQ _ (H _ _ _ _ hP hO))))))))))
theorem xq_st34 {v : Int32} {q : Nat} (hU : xh U K V n) (hs : s < 1000000) (hl : P.length + 7 < 960) (hp : p ≤ 120) (h : gm_tk K n p = 34)
    (H : xQ post U (s + 1) (p + 1) ((4, 0, 0) :: (106, 1, 0) :: (5, 0, 0) :: (259, nI lc, 0) :: (103, 0, 0) :: (104, nI lc, 0) :: P) lj ol cc (lc + 2) fc A) : xQ post U s p ((103, v, q) :: P) lj ol cc lc fc A := by
  intro pk pv pp oa hP hO
  refine xi_step hs rfl (by omega) hP rfl fun Q hQ => ?_
  rw [← hU.2.2.1 p] at h
  exact br_t (by decide) (br_t (by decide) (br_f (by decide) (br_f (by decide) (br_f (by decide) (br_f (by decide) (br_f (by decide) (br_t (by decide) (xm_st34 rfl hU.1 hU.2.1 hp rfl hP.2.2.2 rfl (by omega) h (fun pk pv pp hP => hQ _ (H _ _ _ _ hP hO))))))))))
theorem xq_st36 {v : Int32} {q : Nat} (hU : xh U K V n) (hs : s < 1000000) (hl : P.length + 7 < 960) (hp : p ≤ 120) (h : gm_tk K n p = 36) (hol : ol.length < 120) (hlc : lc < 240) (hc : cc < 360)
    (H : xQ post U (s + 1) (p + 1) ((4, 0, 0) :: (106, 1, 0) :: (5, 0, 0) :: (259, nI (lc + 1), 0) :: (103, 0, 0) :: (105, nI lc, 0) :: P) lj (lc :: ol) (cc + 1) (lc + 2) fc (gm_up A cc fc (p + 2) [(63, 0, p)] (some (lc, cc)) none none)) : xQ post U s p ((103, v, q) :: P) lj ol cc lc fc A := by
  intro pk pv pp oa hP hO
  refine xi_step hs rfl (by omega) hP rfl fun Q hQ => ?_
  rw [← hU.2.2.1 p] at h
  exact br_t (by decide) (br_t (by decide) (br_f (by decide) (br_f (by decide) (br_f (by decide) (br_f (by decide) (br_f (by decide) (br_t (by decide) (xm_st36 rfl hU.1 hU.2.1 hp rfl hP.2.2.2 rfl hol hO rfl rfl hlc hc (by omega) h (fun oa hO pk pv pp hP => hQ _ (H _ _ _ _ hP hO))))))))))
theorem xq_st37a {v : Int32} {q d : Nat} (hU : xh U K V n) (hs : s < 1000000) (hl : P.length + 7 < 960) (hp : p ≤ 120) (hd : d = 37 ∨ d = 38) (h : gm_tk K n p = nI d)
    (H : xQ post U (s + 1) (p + 1) ((10, 0, 0) :: P) (gm_o true p lj) [] cc lc fc A) : xQ post U s p ((103, v, q) :: P) lj [] cc lc fc A := by
  intro pk pv pp oa hP hO
  refine xi_step hs rfl (by omega) hP rfl fun Q hQ => ?_
  rw [← hU.2.2.1 p] at h
  exact br_t (by decide) (br_t (by decide) (br_f (by decide) (br_f (by decide) (br_f (by decide) (br_f (by decide) (br_f (by decide) (br_t (by decide) (xm_st37a (ol := []) rfl hU.1 hU.2.1 hp rfl hP.2.2.2 rfl (by decide) trivial hd (by omega) rfl h (fun pk pv pp hP => hQ _ (H _ _ _ _ hP hO))))))))))
theorem xq_st37b {v : Int32} {q d e a : Nat} (hU : xh U K V n) (hs : s < 1000000) (hl : P.length + 7 < 960) (hp : p ≤ 120) (hd : d = 37 ∧ e = 1 ∨ d = 38 ∧ e = 0) (h : gm_tk K n p = nI d) (hol : ol.length < 120) (hc : cc < 360)
    (H : xQ post U (s + 1) (p + 1) ((10, 0, 0) :: P) lj (a :: ol) (cc + 1) lc fc (gm_up A cc fc (p + 1) [(58, nI (a + e), p)] none none none)) : xQ post U s p ((103, v, q) :: P) lj (a :: ol) cc lc fc A := by
  intro pk pv pp oa hP hO
  refine xi_step hs rfl (by omega) hP rfl fun Q hQ => ?_
  rw [← hU.2.2.1 p] at h
  exact br_t (by decide) (br_t (by decide) (br_f (by decide) (br_f (by decide) (br_f (by decide) (br_f (by decide) (br_f (by decide) (br_t (by decide) (xm_st37b rfl hU.1 hU.2.1 hp rfl hP.2.2.2 rfl hol hO rfl hc hd (by omega) h (fun pk pv pp hP => hQ _ (H _ _ _ _ hP hO))))))))))
theorem xq_st39 {v : Int32} {q d : Nat} (hU : xh U K V n) (hs : s < 1000000) (hl : P.length + 7 < 960) (hp : p ≤ 120) (hd : d = 39 ∨ d = 40) (h : gm_tk K n p = nI d)
    (H : xQ post U (s + 1) (p + 1) ((106, 1, 0) :: (200 + d, 0, p) :: (10, 0, 0) :: P) lj ol cc lc fc A) : xQ post U s p ((103, v, q) :: P) lj ol cc lc fc A := by
  intro pk pv pp oa hP hO
  refine xi_step hs rfl (by omega) hP rfl fun Q hQ => ?_
  rw [← hU.2.2.1 p] at h
  exact br_t (by decide) (br_t (by decide) (br_f (by decide) (br_f (by decide) (br_f (by decide) (br_f (by decide) (br_f (by decide) (br_t (by decide) (xm_st39 rfl hU.1 hU.2.1 hp rfl hP.2.2.2 hd (by omega) h (fun pk pv pp hP => hQ _ (H _ _ _ _ hP hO))))))))))
theorem xq_stE {v : Int32} {q : Nat} (hU : xh U K V n) (hs : s < 1000000) (hl : P.length + 7 < 960) (hp : p ≤ 120) (h8 : ¬ gm_tk K n p = 8) (h1 : ¬ gm_tk K n p = 1) (h3 : ¬ gm_tk K n p = 3) (h2 : ¬ gm_tk K n p = 2) (h34 : ¬ gm_tk K n p = 34)
    (h36 : ¬ gm_tk K n p = 36) (h37 : ¬ gm_tk K n p = 37) (h38 : ¬ gm_tk K n p = 38) (h39 : ¬ gm_tk K n p = 39) (h40 : ¬ gm_tk K n p = 40)
    (H : xE post U (s + 1) p A.2.2.2.2.1 A.2.2.2.2.2.2.1) : xQ post U s p ((103, v, q) :: P) lj ol cc lc fc A := by
  intro pk pv pp oa hP hO
  refine xi_step hs rfl (by omega) hP rfl fun Q hQ => ?_
  rw [← hU.2.2.1 p] at h8 h1 h3 h2 h34 h36 h37 h38 h39 h40
  exact br_t (by decide) (br_t (by decide) (br_f (by decide) (br_f (by decide) (br_f (by decide) (br_f (by decide) (br_f (by decide) (br_t (by decide) (xm_stE rfl hU.1 hU.2.1 hp h8 h1 h3 h2 h34 h36 h37 h38 h39 h40 (hQ _ (H _ _ _ _ _ _ _ _ _ _ _ _ _ _ _ _))))))))))
theorem xq_un {v : Int32} {q d e : Nat} (hU : xh U K V n) (hs : s < 1000000) (hl : P.length + 7 < 960) (hp : p < n) (hd : d = 28 ∧ e = 50 ∨ d = 32 ∧ e = 32 ∨ d = 33 ∧ e = 33) (h : gm_tk K n p = nI d)
    (H : xQ post U (s + 1) (p + 1) ((108, 0, 0) :: (200 + e, 0, p) :: P) lj ol cc lc fc A) : xQ post U s p ((108, v, q) :: P) lj ol cc lc fc A := by
  intro pk pv pp oa hP hO
  refine xi_step hs rfl (by omega) hP rfl fun Q hQ => ?_
  have hn := hU.2.1
  have hp' : p ≤ 120 := by omega
  rw [← hU.2.2.1 p] at h
  exact br_t (by decide) (br_t (by decide) (br_f (by decide) (br_f (by decide) (br_f (by decide) (br_f (by decide) (br_f (by decide) (br_f (by decide) (br_f (by decide) (br_f (by decide) (br_f (by decide) (br_f (by decide) (br_t (by decide) (xm_un rfl hU.1 hU.2.1 hp' rfl hP.2.2.2 (by omega) hd (by omega) h (fun pk pv pp hP => hQ _ (H _ _ _ _ hP hO)))))))))))))))
theorem xq_un0 {v : Int32} {q : Nat} (hU : xh U K V n) (hs : s < 1000000) (hl : P.length + 7 < 960) (hp : p < n) (hc : cc < 360) (h : gm_tk K n p = 0)
    (H : xQ post U (s + 1) (p + 1) P lj ol (cc + 1) lc fc (gm_up A cc fc (p + 1) [(51, V p, p)] none none none)) : xQ post U s p ((108, v, q) :: P) lj ol cc lc fc A := by
  intro pk pv pp oa hP hO
  refine xi_step hs rfl (by omega) hP rfl fun Q hQ => ?_
  have hn := hU.2.1
  have hp' : p ≤ 120 := by omega
  rw [← hU.2.2.1 p] at h
  rw [← hU.2.2.2.1 p hp] at H
  exact br_t (by decide) (br_t (by decide) (br_f (by decide) (br_f (by decide) (br_f (by decide) (br_f (by decide) (br_f (by decide) (br_f (by decide) (br_f (by decide) (br_f (by decide) (br_f (by decide) (br_f (by decide) (br_t (by decide) (xm_un0 rfl hU.1 hU.2.1 hp' rfl hP.2.2.2 rfl hc (by omega) h (hQ _ (H _ _ _ _ hP.2.2.2 hO)))))))))))))))
theorem xq_un1 {v : Int32} {q : Nat} (hU : xh U K V n) (hs : s < 1000000) (hl : P.length + 7 < 960) (hp : p < n) (hc : cc < 360) (h : gm_tk K n p = 1)
    (H : xQ post U (s + 1) (p + 1) P lj ol (cc + 1) lc fc (gm_up A cc fc (p + 1) [(52, V p, p)] none none none)) : xQ post U s p ((108, v, q) :: P) lj ol cc lc fc A := by
  intro pk pv pp oa hP hO
  refine xi_step hs rfl (by omega) hP rfl fun Q hQ => ?_
  have hn := hU.2.1
  have hp' : p ≤ 120 := by omega
  rw [← hU.2.2.1 p] at h
  rw [← hU.2.2.2.1 p hp] at H
  exact br_t (by decide) (br_t (by decide) (br_f (by decide) (br_f (by decide) (br_f (by decide) (br_f (by decide) (br_f (by decide) (br_f (by decide) (br_f (by decide) (br_f (by decide) (br_f (by decide) (br_f (by decide) (br_t (by decide) (xm_un1 rfl hU.1 hU.2.1 hp' rfl hP.2.2.2 rfl hc (by omega) h (hQ _ (H _ _ _ _ hP.2.2.2 hO)))))))))))))))
theorem xq_un2 {v : Int32} {q : Nat} (hU : xh U K V n) (hs : s < 1000000) (hl : P.length + 7 < 960) (hp : p < n) (h : gm_tk K n p = 2)
    (H : xQ post U (s + 1) (p + 1) ((4, 0, 0) :: (109, 0, p) :: (262, 0, p) :: (263, 0, p) :: (264, V p, 0) :: P) lj ol cc lc fc A) : xQ post U s p ((108, v, q) :: P) lj ol cc lc fc A := by
  intro pk pv pp oa hP hO
  refine xi_step hs rfl (by omega) hP rfl fun Q hQ => ?_
  have hn := hU.2.1
  have hp' : p ≤ 120 := by omega
  rw [← hU.2.2.1 p] at h
  rw [← hU.2.2.2.1 p hp] at H
  exact br_t (by decide) (br_t (by decide) (br_f (by decide) (br_f (by decide) (br_f (by decide) (br_f (by decide) (br_f (by decide) (br_f (by decide) (br_f (by decide) (br_f (by decide) (br_f (by decide) (br_f (by decide) (br_t (by decide) (xm_un2 rfl hU.1 hU.2.1 hp' rfl hP.2.2.2 (by omega) (by omega) h (fun pk pv pp hP => hQ _ (H _ _ _ _ hP hO)))))))))))))))
theorem xq_un3 {v : Int32} {q : Nat} (hU : xh U K V n) (hs : s < 1000000) (hl : P.length + 7 < 960) (hp : p < n) (h : gm_tk K n p = 3)
    (H : xQ post U (s + 1) (p + 1) ((6, 0, 0) :: (106, 1, 0) :: (7, 0, 0) :: (254, 0, p) :: P) lj ol cc lc fc A) : xQ post U s p ((108, v, q) :: P) lj ol cc lc fc A := by
  intro pk pv pp oa hP hO
  refine xi_step hs rfl (by omega) hP rfl fun Q hQ => ?_
  have hn := hU.2.1
  have hp' : p ≤ 120 := by omega
  rw [← hU.2.2.1 p] at h
  exact br_t (by decide) (br_t (by decide) (br_f (by decide) (br_f (by decide) (br_f (by decide) (br_f (by decide) (br_f (by decide) (br_f (by decide) (br_f (by decide) (br_f (by decide) (br_f (by decide) (br_f (by decide) (br_t (by decide) (xm_un3 rfl hU.1 hU.2.1 hp' rfl hP.2.2.2 (by omega) (by omega) h (fun pk pv pp hP => hQ _ (H _ _ _ _ hP hO)))))))))))))))
theorem xq_un4 {v : Int32} {q : Nat} (hU : xh U K V n) (hs : s < 1000000) (hl : P.length + 7 < 960) (hp : p < n) (h : gm_tk K n p = 4)
    (H : xQ post U (s + 1) (p + 1) ((106, 1, 0) :: (5, 0, 0) :: P) lj ol cc lc fc A) : xQ post U s p ((108, v, q) :: P) lj ol cc lc fc A := by
  intro pk pv pp oa hP hO
  refine xi_step hs rfl (by omega) hP rfl fun Q hQ => ?_
  have hn := hU.2.1
  have hp' : p ≤ 120 := by omega
  rw [← hU.2.2.1 p] at h
  exact br_t (by decide) (br_t (by decide) (br_f (by decide) (br_f (by decide) (br_f (by decide) (br_f (by decide) (br_f (by decide) (br_f (by decide) (br_f (by decide) (br_f (by decide) (br_f (by decide) (br_f (by decide) (br_t (by decide) (xm_un4 rfl hU.1 hU.2.1 hp' rfl hP.2.2.2 (by omega) (by omega) h (fun pk pv pp hP => hQ _ (H _ _ _ _ hP hO)))))))))))))))
theorem xq_unE {v : Int32} {q : Nat} (hU : xh U K V n) (hs : s < 1000000) (hl : P.length + 7 < 960) (hp : p ≤ 120) (h28 : ¬ gm_tk K n p = 28) (h32 : ¬ gm_tk K n p = 32) (h33 : ¬ gm_tk K n p = 33) (h0 : ¬ gm_tk K n p = 0)
    (h1 : ¬ gm_tk K n p = 1) (h2 : ¬ gm_tk K n p = 2) (h3 : ¬ gm_tk K n p = 3) (h4 : ¬ gm_tk K n p = 4)
    (H : xE post U (s + 1) p A.2.2.2.2.1 A.2.2.2.2.2.2.1) : xQ post U s p ((108, v, q) :: P) lj ol cc lc fc A := by
  intro pk pv pp oa hP hO
  refine xi_step hs rfl (by omega) hP rfl fun Q hQ => ?_
  rw [← hU.2.2.1 p] at h28 h32 h33 h0 h1 h2 h3 h4
  exact br_t (by decide) (br_t (by decide) (br_f (by decide) (br_f (by decide) (br_f (by decide) (br_f (by decide) (br_f (by decide) (br_f (by decide) (br_f (by decide) (br_f (by decide) (br_f (by decide) (br_f (by decide) (br_t (by decide) (xm_unE rfl hU.1 hU.2.1 hp h28 h32 h33 h0 h1 h2 h3 h4 (hQ _ (H _ _ _ _ _ _ _ _ _ _ _ _ _ _ _ _)))))))))))))))
theorem xq_op0 {q w : Nat} (hU : xh U K V n) (hs : s < 1000000) (hl : P.length + 7 < 960) (hp : p ≤ 120) (hw : w ≤ 11) (h : gm_str (gm_tk K n p) < w)
    (H : xQ post U (s + 1) p P lj ol cc lc fc A) : xQ post U s p ((107, nI w, q) :: P) lj ol cc lc fc A := by
  intro pk pv pp oa hP hO
  refine xi_step hs rfl (by omega) hP rfl fun Q hQ => ?_
  rw [← hU.2.2.1 p] at h
  exact br_t (by decide) (br_t (by decide) (br_f (by decide) (br_f (by decide) (br_f (by decide) (br_f (by decide) (br_f (by decide) (br_f (by decide) (br_f (by decide) (br_f (by decide) (br_f (by decide) (br_t (by decide) (xm_op0 rfl hU.1 hU.2.1 hp rfl hw hU.2.2.2.2 h (hQ _ (H _ _ _ _ hP.2.2.2 hO))))))))))))))
theorem xq_op1 {q w : Nat} (hU : xh U K V n) (hs : s < 1000000) (hl : P.length + 7 < 960) (hp : p ≤ 120) (hw : w ≤ 11) (h : ¬ gm_str (gm_tk K n p) < w) (hw1 : 1 ≤ w) (h13 : ¬ gm_tk K n p = 13) (h14 : ¬ gm_tk K n p = 14)
    (H : xQ post U (s + 1) (p + 1) ((106, nI (gm_str (gm_tk K n p) + 1), 0) :: (200 + (gm_tk K n p).toNatClampNeg, 0, p) :: (107, nI w, 0) :: P) lj ol cc lc fc A) : xQ post U s p ((107, nI w, q) :: P) lj ol cc lc fc A := by
  intro pk pv pp oa hP hO
  refine xi_step hs rfl (by omega) hP rfl fun Q hQ => ?_
  rw [← hU.2.2.1 p] at h h13 h14 H
  exact br_t (by decide) (br_t (by decide) (br_f (by decide) (br_f (by decide) (br_f (by decide) (br_f (by decide) (br_f (by decide) (br_f (by decide) (br_f (by decide) (br_f (by decide) (br_f (by decide) (br_t (by decide) (xm_op1 rfl hU.1 hU.2.1 hp rfl hP.2.2.2 rfl hw hU.2.2.2.2 h hw1 h13 h14 (by omega) (fun pk pv pp hP => hQ _ (H _ _ _ _ hP hO))))))))))))))
theorem xq_op2 {q w d e : Nat} (hU : xh U K V n) (hs : s < 1000000) (hl : P.length + 7 < 960) (hp : p ≤ 120) (hw : w ≤ e) (h : gm_tk K n p = nI d) (hd : d = 13 ∧ e = 1 ∨ d = 14 ∧ e = 2) (hc : cc + 1 < 360)
    (H : xQ post U (s + 1) (p + 1) ((106, nI (e + 1), 0) :: (257, 0, p) :: (111, nI lc, 0) :: (107, nI w, 0) :: P) lj ol (cc + 2) (lc + 2) fc (gm_up A cc fc (p + 1) [(57, 0, p), (62 - e, nI lc, p)] none none none)) : xQ post U s p ((107, nI w, q) :: P) lj ol cc lc fc A := by
  intro pk pv pp oa hP hO
  refine xi_step hs rfl (by omega) hP rfl fun Q hQ => ?_
  rw [← hU.2.2.1 p] at h
  exact br_t (by decide) (br_t (by decide) (br_f (by decide) (br_f (by decide) (br_f (by decide) (br_f (by decide) (br_f (by decide) (br_f (by decide) (br_f (by decide) (br_f (by decide) (br_f (by decide) (br_t (by decide) (xm_op2 rfl hU.1 hU.2.1 hp rfl hP.2.2.2 rfl hw h hd rfl hc rfl (by omega) (fun pk pv pp hP => hQ _ (H _ _ _ _ hP hO))))))))))))))
end
