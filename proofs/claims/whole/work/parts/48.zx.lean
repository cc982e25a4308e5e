/-! X, run: the instructions over lists -/
def zX (PX : Int32 → SX → Prop) (U : SX) (r s b : Nat) (vs : List Int32) (pc t pr : Nat) (vr rt mem out : Nat → Int32) : Prop :=
  ∀ reg fr st, zp_R r b reg fr vr → zp_V st vs → zL PX s (U.1, U.2.1, U.2.2.1, U.2.2.2.1, U.2.2.2.2.1, U.2.2.2.2.2.1, U.2.2.2.2.2.2.1, U.2.2.2.2.2.2.2.1, U.2.2.2.2.2.2.2.2.1, U.2.2.2.2.2.2.2.2.2.1, U.2.2.2.2.2.2.2.2.2.2.1, nI (b + 1), nI vs.length, nI pc, 1, 0, -1, 0, nI (120 - t), nI pr, U.2.2.2.2.2.2.2.2.2.2.2.2.2.2.2.2.2.2.2.2.1, U.2.2.2.2.2.2.2.2.2.2.2.2.2.2.2.2.2.2.2.2.2.1, U.2.2.2.2.2.2.2.2.2.2.2.2.2.2.2.2.2.2.2.2.2.2.1, U.2.2.2.2.2.2.2.2.2.2.2.2.2.2.2.2.2.2.2.2.2.2.2.1, U.2.2.2.2.2.2.2.2.2.2.2.2.2.2.2.2.2.2.2.2.2.2.2.2.1, U.2.2.2.2.2.2.2.2.2.2.2.2.2.2.2.2.2.2.2.2.2.2.2.2.2.1, U.2.2.2.2.2.2.2.2.2.2.2.2.2.2.2.2.2.2.2.2.2.2.2.2.2.2.1, U.2.2.2.2.2.2.2.2.2.2.2.2.2.2.2.2.2.2.2.2.2.2.2.2.2.2.2.1, U.2.2.2.2.2.2.2.2.2.2.2.2.2.2.2.2.2.2.2.2.2.2.2.2.2.2.2.2.1, U.2.2.2.2.2.2.2.2.2.2.2.2.2.2.2.2.2.2.2.2.2.2.2.2.2.2.2.2.2.1, U.2.2.2.2.2.2.2.2.2.2.2.2.2.2.2.2.2.2.2.2.2.2.2.2.2.2.2.2.2.2.1, U.2.2.2.2.2.2.2.2.2.2.2.2.2.2.2.2.2.2.2.2.2.2.2.2.2.2.2.2.2.2.2.1, U.2.2.2.2.2.2.2.2.2.2.2.2.2.2.2.2.2.2.2.2.2.2.2.2.2.2.2.2.2.2.2.2.1, reg, fr, rt, st, mem, out)
def zF (PX : Int32 → SX → Prop) (U : SX) (how pl v : Int32) (t pr : Nat) (mem out : Nat → Int32) : Prop :=
  ∀ (ac sc nc : Int32) (reg fr rt st : Nat → Int32), PX how (U.1, U.2.1, U.2.2.1, U.2.2.2.1, U.2.2.2.2.1, U.2.2.2.2.2.1, U.2.2.2.2.2.2.1, U.2.2.2.2.2.2.2.1, U.2.2.2.2.2.2.2.2.1, U.2.2.2.2.2.2.2.2.2.1, U.2.2.2.2.2.2.2.2.2.2.1, ac, sc, nc, 0, how, pl, v, nI (120 - t), nI pr, U.2.2.2.2.2.2.2.2.2.2.2.2.2.2.2.2.2.2.2.2.1, U.2.2.2.2.2.2.2.2.2.2.2.2.2.2.2.2.2.2.2.2.2.1, U.2.2.2.2.2.2.2.2.2.2.2.2.2.2.2.2.2.2.2.2.2.2.1, U.2.2.2.2.2.2.2.2.2.2.2.2.2.2.2.2.2.2.2.2.2.2.2.1, U.2.2.2.2.2.2.2.2.2.2.2.2.2.2.2.2.2.2.2.2.2.2.2.2.1, U.2.2.2.2.2.2.2.2.2.2.2.2.2.2.2.2.2.2.2.2.2.2.2.2.2.1, U.2.2.2.2.2.2.2.2.2.2.2.2.2.2.2.2.2.2.2.2.2.2.2.2.2.2.1, U.2.2.2.2.2.2.2.2.2.2.2.2.2.2.2.2.2.2.2.2.2.2.2.2.2.2.2.1, U.2.2.2.2.2.2.2.2.2.2.2.2.2.2.2.2.2.2.2.2.2.2.2.2.2.2.2.2.1, U.2.2.2.2.2.2.2.2.2.2.2.2.2.2.2.2.2.2.2.2.2.2.2.2.2.2.2.2.2.1, U.2.2.2.2.2.2.2.2.2.2.2.2.2.2.2.2.2.2.2.2.2.2.2.2.2.2.2.2.2.2.1, U.2.2.2.2.2.2.2.2.2.2.2.2.2.2.2.2.2.2.2.2.2.2.2.2.2.2.2.2.2.2.2.1, U.2.2.2.2.2.2.2.2.2.2.2.2.2.2.2.2.2.2.2.2.2.2.2.2.2.2.2.2.2.2.2.2.1, reg, fr, rt, st, mem, out)
def zh (U : SX) (F : gm_A) (r : Nat) : Prop := U.2.2.2.2.2.2.2.2.2.2.2.2.2.2.2.2.2.2.2.2.2.2.2.2.2.2.2.1 = F.1 ∧ U.2.2.2.2.2.2.2.2.2.2.2.2.2.2.2.2.2.2.2.2.2.2.2.2.2.2.2.2.1 = F.2.1 ∧ U.2.2.2.2.2.2.2.2.2.2.2.2.2.2.2.2.2.2.2.2.2.2.2.2.2.2.2.2.2.1 = F.2.2.1 ∧ U.2.2.2.2.2.2.2.2.2.2.2.2.2.2.2.2.2.2.2.2.2.2.2.2.2.2.2.2.2.2.1 = F.2.2.2.1 ∧ U.2.2.2.2.2.2.2.2.2.2.2.2.2.2.2.2.2.2.2.2.2.2.2.2.2.2.2.2.2.2.2.1 = F.2.2.2.2.2.1 ∧ U.2.2.2.2.2.2.2.2.2.2.2.2.2.2.2.2.2.2.2.2.2.2.2.2.2.2.2.2.2.2.2.2.1 = F.2.2.2.2.2.2.1 ∧ U.2.2.2.2.2.2.2.2.2.2.1 = nI r ∧ 1 ≤ r ∧ r ≤ 6
theorem zx_push {PX : Int32 → SX → Prop} {U : SX} {F : gm_A} {r s b pc t pr : Nat} {vs : List Int32} {vr rt mem out : Nat → Int32} (hU : zh U F r) (hs : s < 1000000) (hp : pc < 360) (hl : vs.length < 900) {v : Int32} (hk : F.1 pc = nI 51) (hx : F.2.1 pc = v) (H : zX PX U r (s + 1) b (v :: vs) (pc + 1) t pr vr rt mem out) : zX PX U r s b vs pc t pr vr rt mem out := by
  intro reg fr st hR hV
  refine zi hs rfl fun Q hQ => ?_
  have hx : U.2.2.2.2.2.2.2.2.2.2.2.2.2.2.2.2.2.2.2.2.2.2.2.2.2.2.2.2.1 pc = v := (congrFun hU.2.1 pc).trans hx
  subst hx
  exact zz_push rfl hp ((congrFun hU.1 pc).trans hk) rfl (by omega) hV fun st hs => hQ _ (H _ _ _ hR hs)
theorem zx_load {PX : Int32 → SX → Prop} {U : SX} {F : gm_A} {r s b pc t pr : Nat} {vs : List Int32} {vr rt mem out : Nat → Int32} (hU : zh U F r) (hs : s < 1000000) (hp : pc < 360) (hl : vs.length < 900) {u : Nat} (hk : F.1 pc = nI 52) (hx : F.2.1 pc = nI u) (hu : u ≤ 5) (hb : b ≤ 7) (H : zX PX U r (s + 1) b (vr (6 * b + u) :: vs) (pc + 1) t pr vr rt mem out) : zX PX U r s b vs pc t pr vr rt mem out := by
  intro reg fr st hR hV
  refine zi hs rfl fun Q hQ => ?_
  have hx : U.2.2.2.2.2.2.2.2.2.2.2.2.2.2.2.2.2.2.2.2.2.2.2.2.2.2.2.2.1 pc = nI u := (congrFun hU.2.1 pc).trans hx
  exact zz_load rfl hp hU.2.2.2.2.2.2.1 hU.2.2.2.2.2.2.2.1 hU.2.2.2.2.2.2.2.2 ((congrFun hU.1 pc).trans hk) hx hu rfl hb hR rfl (by omega) hV fun st hs => hQ _ (H _ _ _ hR hs)
theorem zx_set {PX : Int32 → SX → Prop} {U : SX} {F : gm_A} {r s b pc t pr : Nat} {vs : List Int32} {vr rt mem out : Nat → Int32} (hU : zh U F r) (hs : s < 1000000) (hp : pc < 360) (hl : vs.length < 900) {u : Nat} {v : Int32} (hk : F.1 pc = nI 53) (hx : F.2.1 pc = nI u) (hu : u ≤ 5) (hb : b ≤ 7) (H : zX PX U r (s + 1) b vs (pc + 1) t pr (upd vr (6 * b + u) v) rt mem out) : zX PX U r s b (v :: vs) pc t pr vr rt mem out := by
  intro reg fr st hR hV
  refine zi hs rfl fun Q hQ => ?_
  have hx : U.2.2.2.2.2.2.2.2.2.2.2.2.2.2.2.2.2.2.2.2.2.2.2.2.2.2.2.2.1 pc = nI u := (congrFun hU.2.1 pc).trans hx
  exact zz_set rfl hp hU.2.2.2.2.2.2.1 hU.2.2.2.2.2.2.2.1 hU.2.2.2.2.2.2.2.2 ((congrFun hU.1 pc).trans hk) hx hu rfl hb hR rfl (by omega) hV fun reg fr hR => hQ _ (H _ _ _ hR hV.2)
theorem zx_lde {PX : Int32 → SX → Prop} {U : SX} {F : gm_A} {r s b pc t pr : Nat} {vs : List Int32} {vr rt mem out : Nat → Int32} (hU : zh U F r) (hs : s < 1000000) (hp : pc < 360) (hl : vs.length < 900) {i q : Int32} (hk : F.1 pc = nI 54) (hx : F.2.2.1 pc = q) (H1 : ¬ i < 0 → i ≤ 15 → zX PX U r (s + 1) b (mem i.toNatClampNeg :: vs) (pc + 1) t pr vr rt mem out) (H2 : (i < 0 ∨ ¬ i ≤ 15) → zF PX U 2 q 0 t pr mem out) : zX PX U r s b (i :: vs) pc t pr vr rt mem out := by
  intro reg fr st hR hV
  refine zi hs rfl fun Q hQ => ?_
  have hx : U.2.2.2.2.2.2.2.2.2.2.2.2.2.2.2.2.2.2.2.2.2.2.2.2.2.2.2.2.2.1 pc = q := (congrFun hU.2.2.1 pc).trans hx
  subst hx
  exact zz_lde rfl hp ((congrFun hU.1 pc).trans hk) rfl (by omega) hV (fun z y st hs => hQ _ (H1 z y _ _ _ hR hs)) (fun z => hQ _ (ze_end (by omega) rfl (H2 z _ _ _ _ _ _ _)))
theorem zx_ste {PX : Int32 → SX → Prop} {U : SX} {F : gm_A} {r s b pc t pr : Nat} {vs : List Int32} {vr rt mem out : Nat → Int32} (hU : zh U F r) (hs : s < 1000000) (hp : pc < 360) (hl : vs.length < 900) {v i q : Int32} (hk : F.1 pc = nI 55) (hx : F.2.2.1 pc = q) (H1 : ¬ i < 0 → i ≤ 15 → zX PX U r (s + 1) b vs (pc + 1) t pr vr rt (upd mem i.toNatClampNeg v) out) (H2 : (i < 0 ∨ ¬ i ≤ 15) → zF PX U 2 q 0 t pr mem out) : zX PX U r s b (v :: i :: vs) pc t pr vr rt mem out := by
  intro reg fr st hR hV
  refine zi hs rfl fun Q hQ => ?_
  have hx : U.2.2.2.2.2.2.2.2.2.2.2.2.2.2.2.2.2.2.2.2.2.2.2.2.2.2.2.2.2.1 pc = q := (congrFun hU.2.2.1 pc).trans hx
  subst hx
  exact zz_ste rfl hp ((congrFun hU.1 pc).trans hk) rfl (by omega) hV (fun z y => hQ _ (H1 z y _ _ _ hR hV.2.2)) (fun z => hQ _ (ze_end (by omega) rfl (H2 z _ _ _ _ _ _ _)))
theorem zx_drop {PX : Int32 → SX → Prop} {U : SX} {F : gm_A} {r s b pc t pr : Nat} {vs : List Int32} {vr rt mem out : Nat → Int32} (hU : zh U F r) (hs : s < 1000000) (hp : pc < 360) (hl : vs.length < 900) {v : Int32} (hk : F.1 pc = nI 56) (H : zX PX U r (s + 1) b vs (pc + 1) t pr vr rt mem out) : zX PX U r s b (v :: vs) pc t pr vr rt mem out := by
  intro reg fr st hR hV
  refine zi hs rfl fun Q hQ => ?_
  exact zz_drop rfl hp ((congrFun hU.1 pc).trans hk) rfl (by omega) hV (hQ _ (H _ _ _ hR hV.2))
theorem zx_print {PX : Int32 → SX → Prop} {U : SX} {F : gm_A} {r s b pc t pr : Nat} {vs : List Int32} {vr rt mem out : Nat → Int32} (hU : zh U F r) (hs : s < 1000000) (hp : pc < 360) (hl : vs.length < 900) {v : Int32} (hk : F.1 pc = nI 40) (hpr : pr < 2 ^ 30) (H : zX PX U r (s + 1) b vs (pc + 1) t (pr + 1) vr rt mem (if pr < 24 then upd out pr v else out)) : zX PX U r s b (v :: vs) pc t pr vr rt mem out := by
  intro reg fr st hR hV
  refine zi hs rfl fun Q hQ => ?_
  exact zz_print rfl hp ((congrFun hU.1 pc).trans hk) rfl (by omega) hV rfl hpr (hQ _ (H _ _ _ hR hV.2))
theorem zx_room {PX : Int32 → SX → Prop} {U : SX} {F : gm_A} {r s b pc t pr : Nat} {vs : List Int32} {vr rt mem out : Nat → Int32} (hU : zh U F r) (hs : s < 1000000) (hp : pc < 360) (hl : vs.length < 900) {q : Int32} (hk : F.1 pc = nI 62) (hx : F.2.2.1 pc = q) (hb : b ≤ 7) (H1 : b < 7 → zX PX U r (s + 1) b vs (pc + 1) t pr vr rt mem out) (H2 : b = 7 → zF PX U 3 q 0 t pr mem out) : zX PX U r s b vs pc t pr vr rt mem out := by
  intro reg fr st hR hV
  refine zi hs rfl fun Q hQ => ?_
  have hx : U.2.2.2.2.2.2.2.2.2.2.2.2.2.2.2.2.2.2.2.2.2.2.2.2.2.2.2.2.2.1 pc = q := (congrFun hU.2.2.1 pc).trans hx
  subst hx
  exact zz_room rfl hp ((congrFun hU.1 pc).trans hk) rfl (by omega) (fun z => hQ _ (H1 (by omega) _ _ _ hR hV)) (fun z => hQ _ (ze_end (by omega) rfl (H2 (by omega) _ _ _ _ _ _ _)))
theorem zx_tick {PX : Int32 → SX → Prop} {U : SX} {F : gm_A} {r s b pc t pr : Nat} {vs : List Int32} {vr rt mem out : Nat → Int32} (hU : zh U F r) (hs : s < 1000000) (hp : pc < 360) (hl : vs.length < 900) {q : Int32} (hk : F.1 pc = nI 63) (hx : F.2.2.1 pc = q) (ht : t ≤ 120) (H1 : 0 < t → zX PX U r (s + 1) b vs (pc + 1) (t - 1) pr vr rt mem out) (H2 : t = 0 → zF PX U 4 q 0 t pr mem out) : zX PX U r s b vs pc t pr vr rt mem out := by
  intro reg fr st hR hV
  refine zi hs rfl fun Q hQ => ?_
  have hx : U.2.2.2.2.2.2.2.2.2.2.2.2.2.2.2.2.2.2.2.2.2.2.2.2.2.2.2.2.2.1 pc = q := (congrFun hU.2.2.1 pc).trans hx
  subst hx
  exact zz_tick rfl hp ((congrFun hU.1 pc).trans hk) rfl ht (fun z => hQ _ (H1 z _ _ _ hR hV)) (fun z => hQ _ (ze_end (by omega) rfl (H2 z _ _ _ _ _ _ _)))
theorem zx_un {PX : Int32 → SX → Prop} {U : SX} {F : gm_A} {r s b pc t pr : Nat} {vs : List Int32} {vr rt mem out : Nat → Int32} (hU : zh U F r) (hs : s < 1000000) (hp : pc < 360) (hl : vs.length < 900) {k : Nat} {v : Int32} (hk : F.1 pc = nI k) (hk' : k = 50 ∨ k = 32 ∨ k = 33 ∨ k = 57) (H : zX PX U r (s + 1) b (zv_u k v :: vs) (pc + 1) t pr vr rt mem out) : zX PX U r s b (v :: vs) pc t pr vr rt mem out := by
  intro reg fr st hR hV
  refine zi hs rfl fun Q hQ => ?_
  exact zz_un rfl hp ((congrFun hU.1 pc).trans hk) hk' rfl (by omega) hV fun st hs => hQ _ (H _ _ _ hR hs)
theorem zx_bin {PX : Int32 → SX → Prop} {U : SX} {F : gm_A} {r s b pc t pr : Nat} {vs : List Int32} {vr rt mem out : Nat → Int32} (hU : zh U F r) (hs : s < 1000000) (hp : pc < 360) (hl : vs.length < 900) {k : Nat} {x y q : Int32} (hk : F.1 pc = nI k) (hk1 : 15 ≤ k) (hk2 : k ≤ 31) (hx : F.2.2.1 pc = q) (H1 : y = 0 ∧ 30 ≤ k → zF PX U 1 q 0 t pr mem out) (H2 : ¬ (y = 0 ∧ 30 ≤ k) → zX PX U r (s + 1) b (zv_b k x y :: vs) (pc + 1) t pr vr rt mem out) : zX PX U r s b (y :: x :: vs) pc t pr vr rt mem out := by
  intro reg fr st hR hV
  refine zi hs rfl fun Q hQ => ?_
  have hx : U.2.2.2.2.2.2.2.2.2.2.2.2.2.2.2.2.2.2.2.2.2.2.2.2.2.2.2.2.2.1 pc = q := (congrFun hU.2.2.1 pc).trans hx
  subst hx
  exact zz_bin rfl hp ((congrFun hU.1 pc).trans hk) hk1 hk2 rfl (by omega) hV (fun z => hQ _ (ze_end (by omega) rfl (H1 z _ _ _ _ _ _ _))) (fun z st hs => hQ _ (H2 z _ _ _ hR hs))
theorem zx_j58 {PX : Int32 → SX → Prop} {U : SX} {F : gm_A} {r s b pc t pr : Nat} {vs : List Int32} {vr rt mem out : Nat → Int32} (hU : zh U F r) (hs : s < 1000000) (hp : pc < 360) (hl : vs.length < 900) {l pc' : Nat} (hk : F.1 pc = nI 58) (hx : F.2.1 pc = nI l) (hl' : l < 240) (hlt : F.2.2.2.1 l = nI pc') (H : zX PX U r (s + 1) b vs pc' t pr vr rt mem out) : zX PX U r s b vs pc t pr vr rt mem out := by
  intro reg fr st hR hV
  refine zi hs rfl fun Q hQ => ?_
  have hx : U.2.2.2.2.2.2.2.2.2.2.2.2.2.2.2.2.2.2.2.2.2.2.2.2.2.2.2.2.1 pc = nI l := (congrFun hU.2.1 pc).trans hx
  have hlt : U.2.2.2.2.2.2.2.2.2.2.2.2.2.2.2.2.2.2.2.2.2.2.2.2.2.2.2.2.2.2.1 l = nI pc' := (congrFun hU.2.2.2.1 l).trans hlt
  refine zz_j58 rfl hp ((congrFun hU.1 pc).trans hk) hx hl' ?_
  rw [hlt]
  exact hQ _ (H _ _ _ hR hV)
theorem zx_j59 {PX : Int32 → SX → Prop} {U : SX} {F : gm_A} {r s b pc t pr : Nat} {vs : List Int32} {vr rt mem out : Nat → Int32} (hU : zh U F r) (hs : s < 1000000) (hp : pc < 360) (hl : vs.length < 900) {l pc' : Nat} {v : Int32} (hk : F.1 pc = nI 59) (hx : F.2.1 pc = nI l) (hl' : l < 240) (hlt : v = 0 → F.2.2.2.1 l = nI pc') (H1 : v = 0 → zX PX U r (s + 1) b vs pc' t pr vr rt mem out) (H2 : ¬ v = 0 → zX PX U r (s + 1) b vs (pc + 1) t pr vr rt mem out) : zX PX U r s b (v :: vs) pc t pr vr rt mem out := by
  intro reg fr st hR hV
  refine zi hs rfl fun Q hQ => ?_
  have hx : U.2.2.2.2.2.2.2.2.2.2.2.2.2.2.2.2.2.2.2.2.2.2.2.2.2.2.2.2.1 pc = nI l := (congrFun hU.2.1 pc).trans hx
  refine zz_j59 rfl hp ((congrFun hU.1 pc).trans hk) hx hl' rfl (by omega) hV (fun z => ?_) (fun z => hQ _ (H2 z _ _ _ hR hV.2))
  rw [(congrFun hU.2.2.2.1 l).trans (hlt z)]
  exact hQ _ (H1 z _ _ _ hR hV.2)
theorem zx_j60 {PX : Int32 → SX → Prop} {U : SX} {F : gm_A} {r s b pc t pr : Nat} {vs : List Int32} {vr rt mem out : Nat → Int32} (hU : zh U F r) (hs : s < 1000000) (hp : pc < 360) (hl : vs.length < 900) {l pc' : Nat} {v : Int32} (hk : F.1 pc = nI 60) (hx : F.2.1 pc = nI l) (hl' : l < 240) (hlt : v = 0 → F.2.2.2.1 l = nI pc') (H1 : v = 0 → zX PX U r (s + 1) b (v :: vs) pc' t pr vr rt mem out) (H2 : ¬ v = 0 → zX PX U r (s + 1) b vs (pc + 1) t pr vr rt mem out) : zX PX U r s b (v :: vs) pc t pr vr rt mem out := by
  intro reg fr st hR hV
  refine zi hs rfl fun Q hQ => ?_
  have hx : U.2.2.2.2.2.2.2.2.2.2.2.2.2.2.2.2.2.2.2.2.2.2.2.2.2.2.2.2.1 pc = nI l := (congrFun hU.2.1 pc).trans hx
  refine zz_j60 rfl hp ((congrFun hU.1 pc).trans hk) hx hl' rfl (by omega) hV (fun z st hs => ?_) (fun z => hQ _ (H2 z _ _ _ hR hV.2))
  rw [(congrFun hU.2.2.2.1 l).trans (hlt z)]
  exact hQ _ (H1 z _ _ _ hR hs)
theorem zx_j61 {PX : Int32 → SX → Prop} {U : SX} {F : gm_A} {r s b pc t pr : Nat} {vs : List Int32} {vr rt mem out : Nat → Int32} (hU : zh U F r) (hs : s < 1000000) (hp : pc < 360) (hl : vs.length < 900) {l pc' : Nat} {v : Int32} (hk : F.1 pc = nI 61) (hx : F.2.1 pc = nI l) (hl' : l < 240) (hlt : ¬ v = 0 → F.2.2.2.1 l = nI pc') (H1 : ¬ v = 0 → zX PX U r (s + 1) b (v :: vs) pc' t pr vr rt mem out) (H2 : v = 0 → zX PX U r (s + 1) b vs (pc + 1) t pr vr rt mem out) : zX PX U r s b (v :: vs) pc t pr vr rt mem out := by
  intro reg fr st hR hV
  refine zi hs rfl fun Q hQ => ?_
  have hx : U.2.2.2.2.2.2.2.2.2.2.2.2.2.2.2.2.2.2.2.2.2.2.2.2.2.2.2.2.1 pc = nI l := (congrFun hU.2.1 pc).trans hx
  refine zz_j61 rfl hp ((congrFun hU.1 pc).trans hk) hx hl' rfl (by omega) hV (fun z st hs => ?_) (fun z => hQ _ (H2 z _ _ _ hR hV.2))
  rw [(congrFun hU.2.2.2.1 l).trans (hlt z)]
  exact hQ _ (H1 z _ _ _ hR hs)
theorem zx_enter {PX : Int32 → SX → Prop} {U : SX} {F : gm_A} {r s b pc t pr : Nat} {vs : List Int32} {vr rt mem out : Nat → Int32} (hU : zh U F r) (hs : s < 1000000) (hp : pc < 360) (hl : vs.length < 900) {f c pc' : Nat} (hk : F.1 pc = nI 64) (hx : F.2.1 pc = nI f) (hf : f < 4) (hc : F.2.2.2.2.2.2.1 f = nI c) (hc3 : c ≤ 3) (hle : c ≤ vs.length) (hst : F.2.2.2.2.2.1 f = nI pc') (hb : b < 7) (H : zX PX U r (s + 1) (b + 1) (vs.drop c) pc' t pr (zp_ent (b + 1) c 6 vr vs) (upd rt (b + 1) (nI (pc + 1))) mem out) : zX PX U r s b vs pc t pr vr rt mem out := by
  intro reg fr st hR hV
  refine zi hs rfl fun Q hQ => ?_
  have hx : U.2.2.2.2.2.2.2.2.2.2.2.2.2.2.2.2.2.2.2.2.2.2.2.2.2.2.2.2.1 pc = nI f := (congrFun hU.2.1 pc).trans hx
  refine ze_move rfl hp ((congrFun hU.1 pc).trans hk) (by omega) (br_f (by decide) (br_f (by decide) (br_f (by decide) (br_f (by decide) (br_f (by decide) (br_f (by decide) (br_f (by decide) (br_f (by decide) (br_f (by decide) (br_f (by decide) (br_f (by decide) (br_f (by decide) (br_f (by decide) (br_f (by decide) (br_f (by decide) (br_f (by decide) (br_f (by decide) (br_f (by decide) (br_f (by decide) (br_f (by decide) (br_f (by decide) (br_f (by decide) (br_f (by decide) (br_f (by decide) (br_f (by decide) (br_f (by decide) (br_f (by decide) (br_t (by decide) (?_)))))))))))))))))))))))))))))
  refine zm_enter (vr := vr) hU.2.2.2.2.2.2.1 hU.2.2.2.2.2.2.2.1 hU.2.2.2.2.2.2.2.2 hx hf ((congrFun hU.2.2.2.2.2.1 f).trans hc) hc3 rfl (by omega) (fun b' hb' => ?_) rfl (by omega) hV hle fun reg fr hR' hV' => ?_
  · have : b = b' := by omega
    subst this
    exact hR
  · rw [(congrFun hU.2.2.2.2.1 f).trans hst]
    exact hQ _ (H _ _ _ hR' hV')
theorem zx_ret0 {PX : Int32 → SX → Prop} {U : SX} {F : gm_A} {r s b pc t pr : Nat} {vs : List Int32} {vr rt mem out : Nat → Int32} (hU : zh U F r) (hs : s < 1000000) (hp : pc < 360) (hl : vs.length < 900) {v : Int32} (hk : F.1 pc = nI 39) (H : zF PX U 0 (-1) v t pr mem out) : zX PX U r s 0 (v :: vs) pc t pr vr rt mem out := by
  intro reg fr st hR hV
  refine zi hs rfl fun Q hQ => ?_
  exact zz_ret0 rfl hp ((congrFun hU.1 pc).trans hk) rfl rfl (by omega) hV (hQ _ (ze_end (by omega) rfl (H _ _ _ _ _ _ _)))
theorem zx_ret {PX : Int32 → SX → Prop} {U : SX} {F : gm_A} {r s b pc t pr : Nat} {vs : List Int32} {vr rt mem out : Nat → Int32} (hU : zh U F r) (hs : s < 1000000) (hp : pc < 360) (hl : vs.length < 900) {v : Int32} {pc' : Nat} (hk : F.1 pc = nI 39) (hb : b ≤ 6) (hrt : rt (b + 1) = nI pc') (H : zX PX U r (s + 1) b (v :: vs) pc' t pr vr rt mem out) : zX PX U r s (b + 1) (v :: vs) pc t pr vr rt mem out := by
  intro reg fr st hR hV
  refine zi hs rfl fun Q hQ => ?_
  refine zz_ret rfl hp hU.2.2.2.2.2.2.1 hU.2.2.2.2.2.2.2.1 hU.2.2.2.2.2.2.2.2 ((congrFun hU.1 pc).trans hk) rfl hb (fun w hw => hR.2 w hw) rfl (by omega) hV fun reg st hR' hs => ?_
  rw [hrt]
  exact hQ _ (H _ _ _ hR' hs)
