def xg_ok (u0 : SX) (k : Int32) (u2 : SX) : Prop :=
  ((∀ post : Int32 → Prop, post 0 → wpX_faultBefore post u0 k) ∧ ((∀ post : Int32 → SX → Prop, post 0 u2 → wpX_execute post u0 k) ∨ ∃ (f : Int32) (u1 : SX), f ≠ 0 ∧ (∀ post : Int32 → SX → Prop, post f u1 → wpX_execute post u0 k) ∧ (∀ post : SX → Prop, post u2 → wpX_unwind post u1 k f))) ∨
  (∃ f : Int32, f ≠ 0 ∧ (∀ post : Int32 → Prop, post f → wpX_faultBefore post u0 k) ∧ (∀ post : SX → Prop, post u2 → wpX_unwind post u0 k f))
def xr_J (J : Int32 → Int32 → Int32 → Int32 → Int32 → Int32 → (Nat → Int32) → (Nat → Int32) → (Nat → Int32) → (Nat → Int32) → (Nat → Int32) → (Nat → Int32) → (Nat → Int32) → (Nat → Int32) → (Nat → Int32) → (Nat → Int32) → (Nat → Int32) → (Nat → Int32) → (Nat → Int32) → (Nat → Int32) → (Nat → Int32) → (Nat → Int32) → (Nat → Int32) → (Nat → Int32) → (Nat → Int32) → (Nat → Int32) → (Nat → Int32) → (Nat → Int32) → (Nat → Int32) → (Nat → Int32) → (Nat → Int32) → (Nat → Int32) → (Nat → Int32) → (Nat → Int32) → (Nat → Int32) → (Nat → Int32) → (Nat → Int32) → Prop) (x : Int32) (u : SX) : Prop := match u with | (q, tn, sl, pc, wp, he, co, ca, cb, fs, fc, ts, tu, ux, tl, ul, tm, gc, ga, gp, ss, st, sf, tc, tr, ow, ti, fd, ft, fk, fn, fh, fl, fv, rs, nt) => J x q tn sl pc wp he co ca cb fs fc ts tu ux tl ul tm gc ga gp ss st sf tc tr ow ti fd ft fk fn fh fl fv rs nt
def xr_74 (post : Int32 → SX → Prop) (J : Int32 → Int32 → Int32 → Int32 → Int32 → Int32 → (Nat → Int32) → (Nat → Int32) → (Nat → Int32) → (Nat → Int32) → (Nat → Int32) → (Nat → Int32) → (Nat → Int32) → (Nat → Int32) → (Nat → Int32) → (Nat → Int32) → (Nat → Int32) → (Nat → Int32) → (Nat → Int32) → (Nat → Int32) → (Nat → Int32) → (Nat → Int32) → (Nat → Int32) → (Nat → Int32) → (Nat → Int32) → (Nat → Int32) → (Nat → Int32) → (Nat → Int32) → (Nat → Int32) → (Nat → Int32) → (Nat → Int32) → (Nat → Int32) → (Nat → Int32) → (Nat → Int32) → (Nat → Int32) → (Nat → Int32) → (Nat → Int32) → Prop) (x1 x2 : Int32) (u : SX) : Prop := match u with | (q, tn, sl, pc, wp, he, co, ca, cb, fs, fc, ts, tu, ux, tl, ul, tm, gc, ga, gp, ss, st, sf, tc, tr, ow, ti, fd, ft, fk, fn, fh, fl, fv, rs, nt) => wX_run_74 post J x1 x2 q tn sl pc wp he co ca cb fs fc ts tu ux tl ul tm gc ga gp ss st sf tc tr ow ti fd ft fk fn fh fl fv rs nt
def xr_15 (post : Int32 → SX → Prop) (x1 : Int32) (n : Nat) (x2 : Int32) (u : SX) : Prop := match u with | (q, tn, sl, pc, wp, he, co, ca, cb, fs, fc, ts, tu, ux, tl, ul, tm, gc, ga, gp, ss, st, sf, tc, tr, ow, ti, fd, ft, fk, fn, fh, fl, fv, rs, nt) => wX_run_15 post x1 n x2 q tn sl pc wp he co ca cb fs fc ts tu ux tl ul tm gc ga gp ss st sf tc tr ow ti fd ft fk fn fh fl fv rs nt
def yr_15 (post : Int32 → SY → Prop) (x1 : Int32) (n : Nat) (x2 : Int32) (v : SY) : Prop := match v with | (q, wp, tn, sl, yd, nd, co, ca, cb, le, he, kl, tu, uy, tl, ul, tm, gc, ga, gp, ss, st, sf, fd, tc, tr, ow, ti, ft, fn, fh, fp, fz, fl, fv, rs, au) => wY_run_15 post x1 n x2 q wp tn sl yd nd co ca cb le he kl tu uy tl ul tm gc ga gp ss st sf fd tc tr ow ti ft fn fh fp fz fl fv rs au
def yr_c (post : Int32 → SY → Prop) (x1 : Int32) (n : Nat) (x2 k : Int32) (v : SY) : Prop := match v with
  | (q, wp, tn, sl, yd, nd, co, ca, cb, le, he, kl, tu, uy, tl, ul, tm, gc, ga, gp, ss, st, sf, fd, tc, tr, ow, ti, ft, fn, fh, fp, fz, fl, fv, rs, au) => (vp_in k 6 ∧ ((((tc k.toNatClampNeg) = (-1) → (((yd = 0 → (((sl = 0 → (wY_run_79 post (wY_run_15 post x1 n) x1 x2 q wp tn sl yd nd co ca cb le he kl tu uy tl ul tm gc ga gp ss st sf fd tc tr ow ti ft fn fh fp fz fl fv rs au)) ∧ (¬ sl = 0 → (wY_run_15 post x1 n x2 q wp tn sl yd nd co ca cb le he kl tu uy tl ul tm gc ga gp ss st sf fd tc tr ow ti ft fn fh fp fz fl fv rs au))))) ∧ (¬ yd = 0 → (wY_run_79 post (wY_run_15 post x1 n) x1 x2 q wp tn sl yd nd co ca cb le he kl tu uy tl ul tm gc ga gp ss st sf fd tc tr ow ti ft fn fh fp fz fl fv rs au))))) ∧ (¬ (tc k.toNatClampNeg) = (-1) → (wY_run_79 post (wY_run_15 post x1 n) x1 x2 q wp tn sl yd nd co ca cb le he kl tu uy tl ul tm gc ga gp ss st sf fd tc tr ow ti ft fn fh fp fz fl fv rs au)))))
def rr_S (M : Nat) (u : SX) (v : SY) : Prop :=
  ∃ (H : Nat → Nat → Nat → Prop) (q tn sl pc wp yd nd : Int32) (he co ca cb fs fc ts tu ux tl ul tm gc ga gp ss st sf tc tr ow ti fd ft fk fn fh fl fv rs nt le kl uy fp fz au : Nat → Int32), u = (q, tn, sl, pc, wp, he, co, ca, cb, fs, fc, ts, tu, ux, tl, ul, tm, gc, ga, gp, ss, st, sf, tc, tr, ow, ti, fd, ft, fk, fn, fh, fl, fv, rs, nt) ∧ v = (q, wp, tn, sl, yd, nd, co, ca, cb, le, he, kl, tu, uy, tl, ul, tm, gc, ga, gp, ss, st, sf, fd, tc, tr, ow, ti, ft, fn, fh, fp, fz, fl, fv, rs, au) ∧ rl_R M H q tn sl pc wp yd nd he co ca cb fs fc ts tu ux tl ul tm gc ga gp ss st sf tc tr ow ti fd ft fk fn fh fl fv rs nt le kl uy fp fz au
section
variable {q tn sl pc wp yd nd : Int32} {he co ca cb fs fc ts tu ux tl ul tm gc ga gp ss st sf tc tr ow ti fd ft fk fn fh fl fv rs nt le kl uy fp fz au : Nat → Int32}
theorem mk_rr {M : Nat} {H : Nat → Nat → Nat → Prop} (h : rl_R M H q tn sl pc wp yd nd he co ca cb fs fc ts tu ux tl ul tm gc ga gp ss st sf tc tr ow ti fd ft fk fn fh fl fv rs nt le kl uy fp fz au) : rr_S M (q, tn, sl, pc, wp, he, co, ca, cb, fs, fc, ts, tu, ux, tl, ul, tm, gc, ga, gp, ss, st, sf, tc, tr, ow, ti, fd, ft, fk, fn, fh, fl, fv, rs, nt) (q, wp, tn, sl, yd, nd, co, ca, cb, le, he, kl, tu, uy, tl, ul, tm, gc, ga, gp, ss, st, sf, fd, tc, tr, ow, ti, ft, fn, fh, fp, fz, fl, fv, rs, au) :=
  ⟨H, q, tn, sl, pc, wp, yd, nd, he, co, ca, cb, fs, fc, ts, tu, ux, tl, ul, tm, gc, ga, gp, ss, st, sf, tc, tr, ow, ti, fd, ft, fk, fn, fh, fl, fv, rs, nt, le, kl, uy, fp, fz, au, rfl, rfl, h⟩
theorem sx_all {M : Nat} {H : Nat → Nat → Nat → Prop} {k s d t i h o n c : Nat} (hM : M < 2 ^ 30) (ho : o < 24) (G : sg_R M H k s d t i h o n c q tn sl pc wp yd nd he co ca cb fs fc ts tu ux tl ul tm gc ga gp ss st sf tc tr ow ti fd ft fk fn fh fl fv rs nt le kl uy fp fz au) : sr_R M k s (q, tn, sl, pc, wp, he, co, ca, cb, fs, fc, ts, tu, ux, tl, ul, tm, gc, ga, gp, ss, st, sf, tc, tr, ow, ti, fd, ft, fk, fn, fh, fl, fv, rs, nt) (q, wp, tn, sl, yd, nd, co, ca, cb, le, he, kl, tu, uy, tl, ul, tm, gc, ga, gp, ss, st, sf, fd, tc, tr, ow, ti, ft, fn, fh, fp, fz, fl, fv, rs, au) := by
  have ho24 : o = 0 ∨ o = 1 ∨ o = 2 ∨ o = 3 ∨ o = 4 ∨ o = 5 ∨ o = 6 ∨ o = 7 ∨ o = 8 ∨ o = 9 ∨ o = 10 ∨ o = 11 ∨ o = 12 ∨ o = 13 ∨ o = 14 ∨ o = 15 ∨ o = 16 ∨ o = 17 ∨ o = 18 ∨ o = 19 ∨ o = 20 ∨ o = 21 ∨ o = 22 ∨ o = 23 := by omega
  rcases ho24 with rfl | rfl | rfl | rfl | rfl | rfl | rfl | rfl | rfl | rfl | rfl | rfl | rfl | rfl | rfl | rfl | rfl | rfl | rfl | rfl | rfl | rfl | rfl | rfl
  · exact sx_0 G
  · exact sx_1 G
  · exact sx_2 G
  · exact sx_3 G
  · exact sx_4 G
  · exact sx_5 G
  · exact sx_6 G
  · exact sx_7 G
  · exact sx_8 G
  · exact sx_9 G
  · exact sx_10 G
  · exact sx_11 G
  · exact sx_12 G
  · exact sx_13 G
  · exact sx_14 G
  · exact sx_15 G
  · exact sx_16 G
  · exact sx_17 G
  · exact sx_18 hM G
  · exact sx_19 G
  · exact sx_20 G
  · exact sx_21 G
  · exact sx_22 G
  · exact sx_23 G
theorem sp_all {M k s : Nat} {H : Nat → Nat → Nat → Prop} (hM : M < 2 ^ 30) (hk : k < 6) (htn : tn = nI k) (hsl : sl = nI s) (hyd : yd = 0) (htc : tc k = -1) (a1 : rl_q q) (a3 : rl_pc pc le) (a4 : rl_b H le fc ts kl fs co ca cb) (a5 : rl_g gc gp) (a6 : rl_s st sf) (a7 : rl_t H ft fn fh fz tc fd) (a8 : rl_k fk fp fz) (a9 : rl_u ux uy kl fd ft) (a10 : rl_n M nd au nt) :
    ∃ (u2 : SX) (v2 : SY), md_R (M + 1) k s u2 v2 ∧ xg_ok (q, tn, sl, pc, wp, he, co, ca, cb, fs, fc, ts, tu, ux, tl, ul, tm, gc, ga, gp, ss, st, sf, tc, tr, ow, ti, fd, ft, fk, fn, fh, fl, fv, rs, nt) (nI k) u2 ∧ (∀ post : SY → Prop, post v2 → wpY_step post (q, wp, tn, sl, yd, nd, co, ca, cb, le, he, kl, tu, uy, tl, ul, tm, gc, ga, gp, ss, st, sf, fd, tc, tr, ow, ti, ft, fn, fh, fp, fz, fl, fv, rs, au) (nI k)) := by
  have C : rl_C M H q pc nd le fc ts kl fs co ca cb gc gp st sf au nt := ⟨a1, a3, a4, a5, a6, a10⟩
  obtain ⟨d, d1, d2, d3, d4⟩ := a7 k hk
  have hd0 : 0 < d := d3.mp htc
  obtain ⟨hlo, t, i, h, ht, eft, efn, efh, hH⟩ := d4 hd0
  rw [Nat.add_zero] at hH
  have Bt := a4 t ht
  have t2 := ts_2 Bt
  obtain ⟨n, c, b1, b2, b3, b4, b5, b6, b7, b8, b9, b10, b11⟩ := Bt
  obtain ⟨hin, h8, o, ho, eo, hat⟩ := bu_get (b11 i h hH)
  have B : bs_R k d t i h o fd ft fn fh co := ⟨hk, hd0, d1, d2, ht, eft, efn, efh, by omega, ho, eo⟩
  have hO : ∀ k', k' < 6 → k' ≠ k → th_ok H ft fn fh fz tc fd k' := fun k' hk' _ => a7 k' hk'
  have hV := rl_uv a9
  by_cases c3 : kl t ≠ 0 ∧ pl_P o i (ca (64 * t + i))
  · obtain ⟨u2, v2, r1, r2, r3⟩ := rs_all (q := q) (tn := tn) (sl := sl) (pc := pc) (wp := wp) (yd := yd) (nd := nd) (he := he) (co := co) (ca := ca) (cb := cb) (fs := fs) (fc := fc) (ts := ts) (tu := tu) (ux := ux) (tl := tl) (ul := ul) (tm := tm) (gc := gc) (ga := ga) (gp := gp) (ss := ss) (st := st) (sf := sf) (tc := tc) (tr := tr) (ow := ow) (ti := ti) (fd := fd) (ft := ft) (fk := fk) (fn := fn) (fh := fh) (fl := fl) (fv := fv) (rs := rs) (nt := nt) (le := le) (kl := kl) (uy := uy) (fp := fp) (fz := fz) (au := au) (f := 3) (rc_up C) htn hsl hyd (by decide) hk htc a8 hd0 d1 d2 hlo hO hV
    refine ⟨u2, v2, r1, Or.inr ⟨3, by decide, fun post hp => ?_, r2⟩, fun post hp => yl_s3 _ B c3.1 c3.2 r3 hp⟩
    exact xl_fb B (fun _ _ => hp) (fun z => absurd z (fun y => y.elim (fun e => e (t2.mpr c3.1)) (fun e => e c3.2))) (fun z => absurd z (fun y => y.elim (fun e => e (t2.mpr c3.1)) (fun e => e c3.2)))
  have hn : kl t = 0 ∨ ¬ pl_P o i (ca (64 * t + i)) := by
    by_cases z : kl t = 0
    · exact Or.inl z
    · exact Or.inr (fun y => c3 ⟨z, y⟩)
  have h3n : ts t = 2 → ¬ pl_P o i (ca (64 * t + i)) := fun z y => c3 ⟨t2.mp z, y⟩
  by_cases hl : tu t < tl t
  · obtain ⟨u2, v2, r1, r2, r3⟩ := sx_all hM ho (G := ⟨C, htn, hsl, hyd, htc, B, hlo, hO, a8, hV, hn, hl, h8, b2, b1, b4, b3, hat⟩)
    exact ⟨u2, v2, r1, Or.inl ⟨fun post hp => xl_fb B (fun z y => absurd y (h3n z)) (fun _ z => absurd hl z) (fun _ _ => hp), r2⟩, r3⟩
  · obtain ⟨u2, v2, r1, r2, r3⟩ := rs_all (q := q) (tn := tn) (sl := sl) (pc := pc) (wp := wp) (yd := yd) (nd := nd) (he := he) (co := co) (ca := ca) (cb := cb) (fs := fs) (fc := fc) (ts := ts) (tu := tu) (ux := ux) (tl := tl) (ul := ul) (tm := tm) (gc := gc) (ga := ga) (gp := gp) (ss := ss) (st := st) (sf := sf) (tc := tc) (tr := tr) (ow := ow) (ti := ti) (fd := fd) (ft := ft) (fk := fk) (fn := fn) (fh := fh) (fl := fl) (fv := fv) (rs := rs) (nt := nt) (le := le) (kl := kl) (uy := uy) (fp := fp) (fz := fz) (au := au) (f := 2) (rc_up C) htn hsl hyd (by decide) hk htc a8 hd0 d1 d2 hlo hO hV
    exact ⟨u2, v2, r1, Or.inr ⟨2, by decide, fun post hp => xl_fb B (fun z y => absurd y (h3n z)) (fun _ _ => hp) (fun _ z => absurd z hl), r2⟩, fun post hp => yl_s2 _ B hn hl r3 hp⟩
theorem pt_loop {k : Nat} (hk : k < 6) (htn : tn = nI k) : ∀ d i : Nat, i + d = 7 → 1 ≤ i → ∃ tn' : Int32, (tn' = -1 ∨ ∃ k' : Nat, k' < 6 ∧ tn' = nI k' ∧ tc k' = -1) ∧
    (∀ post : SX → Prop, post (q, tn', q, pc, wp, he, co, ca, cb, fs, fc, ts, tu, ux, tl, ul, tm, gc, ga, gp, ss, st, sf, tc, tr, ow, ti, fd, ft, fk, fn, fh, fl, fv, rs, nt) → wX_passTurn_36 post (nI k) q (-1) q pc wp he co ca cb fs fc ts tu ux tl ul tm gc ga gp ss st sf tc tr ow ti fd ft fk fn fh fl fv rs nt (d + 1) (nI i)) ∧ (∀ post : SY → Prop, post (q, wp, tn', q, yd, nd, co, ca, cb, le, he, kl, tu, uy, tl, ul, tm, gc, ga, gp, ss, st, sf, fd, tc, tr, ow, ti, ft, fn, fh, fp, fz, fl, fv, rs, au) → wY_pass_10 post q wp tn q yd nd co ca cb le he kl tu uy tl ul tm gc ga gp ss st sf fd tc tr ow ti ft fn fh fp fz fl fv rs au (d + 1) (nI i)) := by
  have n6 : ¬ (6 : Int32) = 0 := by decide
  intro d
  induction d with
  | zero =>
    intro i hi _
    have : i = 7 := by omega
    subst this
    exact ⟨-1, Or.inl rfl, fun _ h => br_t (by decide) h, fun _ h => br_t (by decide) h⟩
  | succ d ih =>
    intro i hi h1
    have e1 : nI k + nI i = nI (k + i) := nI_add k i
    have e2 : nI (k + i) - nI (k + i) / 6 * 6 = nI ((k + i) % 6) := pk_rem (d := 6) (by omega) (by decide) (by decide)
    have e3 : (nI ((k + i) % 6)).toNatClampNeg = (k + i) % 6 := nI_clamp (by omega)
    have v3 : vp_in (nI ((k + i) % 6)) 6 := vp_in_nI (by omega) (by decide)
    have nX : ¬ (6 : Int32) < nI i := nI_nlt (a := 6) (b := i) (by omega) (by decide)
    have nY : ¬ (7 : Int32) ≤ nI i := ix_ge 7 rfl (by omega) (by decide)
    by_cases c : tc ((k + i) % 6) = -1
    · exact ⟨nI ((k + i) % 6), Or.inr ⟨_, by omega, rfl, c⟩, fun post h => br_f nX ⟨n6, nm_r (e' := nI ((k + i) % 6)) (by rw [e1, e2]) ⟨v3, br_t (by rw [e3]; exact c) h⟩⟩, fun post h => br_f nY ⟨n6, nm_r (e' := nI ((k + i) % 6)) (by rw [htn, e1, e2]) ⟨v3, br_t (by rw [e3]; exact c) h⟩⟩⟩
    · obtain ⟨tn', g0, g1, g2⟩ := ih (i + 1) (by omega) (by omega)
      exact ⟨tn', g0, fun post h => br_f nX ⟨n6, nm_r (e' := nI ((k + i) % 6)) (by rw [e1, e2]) ⟨v3, br_f (by rw [e3]; exact c) (nm_r (nI_1 i) (g1 post h))⟩⟩, fun post h => br_f nY ⟨n6, nm_r (e' := nI ((k + i) % 6)) (by rw [htn, e1, e2]) ⟨v3, br_f (by rw [e3]; exact c) (nm_r (nI_1 i) (g2 post h))⟩⟩⟩
theorem ps_all {M k s : Nat} {u : SX} {v : SY} (hk : k < 6) (hs : s ≤ 15) (h : md_R M k s u v) : ∃ (u3 : SX) (v3 : SY), rr_S M u3 v3 ∧
    (∀ (post : Int32 → SX → Prop) (J : Int32 → Int32 → Int32 → Int32 → Int32 → Int32 → (Nat → Int32) → (Nat → Int32) → (Nat → Int32) → (Nat → Int32) → (Nat → Int32) → (Nat → Int32) → (Nat → Int32) → (Nat → Int32) → (Nat → Int32) → (Nat → Int32) → (Nat → Int32) → (Nat → Int32) → (Nat → Int32) → (Nat → Int32) → (Nat → Int32) → (Nat → Int32) → (Nat → Int32) → (Nat → Int32) → (Nat → Int32) → (Nat → Int32) → (Nat → Int32) → (Nat → Int32) → (Nat → Int32) → (Nat → Int32) → (Nat → Int32) → (Nat → Int32) → (Nat → Int32) → (Nat → Int32) → (Nat → Int32) → (Nat → Int32) → (Nat → Int32) → Prop) (x1 x2 : Int32), xr_J J (x2 + 1) u3 → xr_74 post J x1 x2 u) ∧ (∀ (post : Int32 → SY → Prop) (x1 : Int32) (n : Nat) (x2 : Int32), yr_15 post x1 n x2 v3 → yr_c post x1 n x2 (nI k) v) := by
  obtain ⟨H, q, tn, sl, pc, wp, yd, nd, slx, he, co, ca, cb, fs, fc, ts, tu, ux, tl, ul, tm, gc, ga, gp, ss, st, sf, tc, tr, ow, ti, fd, ft, fk, fn, fh, fl, fv, rs, nt, le, kl, uy, fp, fz, au, rfl, rfl, ⟨a1, a3, a4, a5, a6, a10⟩, htn, hsl, hsx, a7, a8, hV⟩ := h
  have hd := rl_td a7
  have ek : (nI k).toNatClampNeg = k := nI_clamp (by omega)
  have vk : vp_in (nI k) 6 := vp_in_nI hk (by decide)
  obtain ⟨ux', w1, w2⟩ := ru_all (q := q) (tn := tn) (pc := pc) (wp := wp) (he := he) (co := co) (ca := ca) (cb := cb) (fs := fs) (fc := fc) (ts := ts) (tu := tu) (ux := ux) (tl := tl) (ul := ul) (tm := tm) (gc := gc) (ga := ga) (gp := gp) (ss := ss) (st := st) (sf := sf) (tc := tc) (tr := tr) (ow := ow) (ti := ti) (fd := fd) (ft := ft) (fk := fk) (fn := fn) (fh := fh) (fl := fl) (fv := fv) (rs := rs) (nt := nt) (sl := slx) hd
  have a9 : rl_u ux' uy kl fd ft := by
    intro t ht
    have t2 := ts_2 (a4 t ht)
    obtain ⟨y1, y2⟩ := w1 t ht
    refine ⟨fun z1 z2 => y1 (t2.mpr z1) z2, fun z => ?_⟩
    rw [y2 (fun y => z ⟨t2.mp y.1, y.2⟩)]
    exact hV t ht z
  have hpass : (¬ 0 < slx) → ((tc k ≠ -1) ∨ yd ≠ 0 ∨ sl = 0) → ∃ (u3 : SX) (v3 : SY), rr_S M u3 v3 ∧
    (∀ (post : Int32 → SX → Prop) (J : Int32 → Int32 → Int32 → Int32 → Int32 → Int32 → (Nat → Int32) → (Nat → Int32) → (Nat → Int32) → (Nat → Int32) → (Nat → Int32) → (Nat → Int32) → (Nat → Int32) → (Nat → Int32) → (Nat → Int32) → (Nat → Int32) → (Nat → Int32) → (Nat → Int32) → (Nat → Int32) → (Nat → Int32) → (Nat → Int32) → (Nat → Int32) → (Nat → Int32) → (Nat → Int32) → (Nat → Int32) → (Nat → Int32) → (Nat → Int32) → (Nat → Int32) → (Nat → Int32) → (Nat → Int32) → (Nat → Int32) → (Nat → Int32) → (Nat → Int32) → (Nat → Int32) → (Nat → Int32) → (Nat → Int32) → (Nat → Int32) → Prop) (x1 x2 : Int32), xr_J J (x2 + 1) u3 → xr_74 post J x1 x2 (q, tn, slx, pc, wp, he, co, ca, cb, fs, fc, ts, tu, ux, tl, ul, tm, gc, ga, gp, ss, st, sf, tc, tr, ow, ti, fd, ft, fk, fn, fh, fl, fv, rs, nt)) ∧ (∀ (post : Int32 → SY → Prop) (x1 : Int32) (n : Nat) (x2 : Int32), yr_15 post x1 n x2 v3 → yr_c post x1 n x2 (nI k) (q, wp, tn, sl, yd, nd, co, ca, cb, le, he, kl, tu, uy, tl, ul, tm, gc, ga, gp, ss, st, sf, fd, tc, tr, ow, ti, ft, fn, fh, fp, fz, fl, fv, rs, au)) := by
    intro hx hy
    obtain ⟨tn', g0, g1, g2⟩ := pt_loop (q := q) (tn := tn) (pc := pc) (wp := wp) (yd := yd) (nd := nd) (he := he) (co := co) (ca := ca) (cb := cb) (fs := fs) (fc := fc) (ts := ts) (tu := tu) (tl := tl) (ul := ul) (tm := tm) (gc := gc) (ga := ga) (gp := gp) (ss := ss) (st := st) (sf := sf) (tc := tc) (tr := tr) (ow := ow) (ti := ti) (fd := fd) (ft := ft) (fk := fk) (fn := fn) (fh := fh) (fl := fl) (fv := fv) (rs := rs) (nt := nt) (le := le) (kl := kl) (uy := uy) (fp := fp) (fz := fz) (au := au) (ux := ux') hk htn 6 1 rfl (Nat.le_refl _)
    refine ⟨(q, tn', q, pc, wp, he, co, ca, cb, fs, fc, ts, tu, ux', tl, ul, tm, gc, ga, gp, ss, st, sf, tc, tr, ow, ti, fd, ft, fk, fn, fh, fl, fv, rs, nt), (q, wp, tn', q, yd, nd, co, ca, cb, le, he, kl, tu, uy, tl, ul, tm, gc, ga, gp, ss, st, sf, fd, tc, tr, ow, ti, ft, fn, fh, fp, fz, fl, fv, rs, au), mk_rr ⟨a1, ?_, a3, a4, a5, a6, a7, a8, a9, a10⟩, fun post J x1 x2 hJ => ?_, fun post x1 n x2 hJ => ?_⟩
    · rcases g0 with z | ⟨k', z1, z2, z3⟩
      · exact Or.inl z
      · obtain ⟨n, n1, n2, n3⟩ := a1
        exact Or.inr ⟨k', z1, z2, z3, n, n1, n2, n3⟩
    · unfold xr_74; dsimp only
      unfold wX_run_74
      refine w2 _ ?_
      refine br_f hx (br_f (by rw [htn]; exact ix_neg k (by omega)) ⟨7, ?_⟩)
      rw [htn]
      exact g1 _ (nm_e hJ)
    · have key : wY_run_79 post (wY_run_15 post x1 n) x1 x2 q wp tn sl yd nd co ca cb le he kl tu uy tl ul tm gc ga gp ss st sf fd tc tr ow ti ft fn fh fp fz fl fv rs au := by
        unfold wY_run_79
        exact ⟨7, g2 _ hJ⟩
      unfold yr_c; dsimp only
      refine ⟨vk, ?_⟩
      rw [ek]
      by_cases c1 : tc k = -1
      · refine br_t c1 ?_
        by_cases c2 : yd = 0
        · have c3 : sl = 0 := (hy.resolve_left (fun z => z c1)).resolve_left (fun z => z c2)
          exact br_t c2 (br_t c3 key)
        · exact br_f c2 key
      · exact br_f c1 key
  rcases hsx with ⟨z1, z2, z3⟩ | ⟨z1, z2⟩
  · by_cases cs : s = 0
    · refine hpass (by rw [z1, cs]; decide) (Or.inr (Or.inr (by rw [hsl, cs]; rfl)))
    · refine ⟨(q, tn, sl, pc, wp, he, co, ca, cb, fs, fc, ts, tu, ux', tl, ul, tm, gc, ga, gp, ss, st, sf, tc, tr, ow, ti, fd, ft, fk, fn, fh, fl, fv, rs, nt), (q, wp, tn, sl, yd, nd, co, ca, cb, le, he, kl, tu, uy, tl, ul, tm, gc, ga, gp, ss, st, sf, fd, tc, tr, ow, ti, ft, fn, fh, fp, fz, fl, fv, rs, au), mk_rr ⟨a1, Or.inr ⟨k, hk, htn, z2, s, by omega, by omega, hsl⟩, a3, a4, a5, a6, a7, a8, a9, a10⟩, fun post J x1 x2 hJ => ?_, fun post x1 n x2 hJ => ?_⟩
      · unfold xr_74; dsimp only
        unfold wX_run_74
        refine w2 _ ?_
        refine br_t (by rw [z1]; exact nI_lt (a := 0) (by omega) (by omega)) (nm_e ?_)
        rw [z1, ← hsl]
        exact hJ
      · unfold yr_c; dsimp only
        refine ⟨vk, ?_⟩
        rw [ek]
        exact br_t z2 (br_t z3 (br_f (by rw [hsl]; exact nI_ne0 (by omega) (by omega)) hJ))
  · exact hpass (by rw [z1]; decide) (z2.elim Or.inl (fun y => Or.inr (Or.inl y)))
theorem xr_st {post : Int32 → SX → Prop} {x1 x2 : Int32} {n k s : Nat} {u2 : SX} (hk : k < 6) (hc : ¬ x1 ≤ x2) (hx : xg_ok (q, nI k, nI s, pc, wp, he, co, ca, cb, fs, fc, ts, tu, ux, tl, ul, tm, gc, ga, gp, ss, st, sf, tc, tr, ow, ti, fd, ft, fk, fn, fh, fl, fv, rs, nt) (nI k) u2) (h : xr_74 post (wX_run_15 post x1 n) x1 x2 u2) : wX_run_15 post x1 (n + 1) x2 q (nI k) (nI (s + 1)) pc wp he co ca cb fs fc ts tu ux tl ul tm gc ga gp ss st sf tc tr ow ti fd ft fk fn fh fl fv rs nt := by
  refine br_f hc (br_f (ix_neg k (by omega)) (nm_r (nI_pred s) ?_))
  rcases hx with ⟨hF, hE | ⟨f, u1, hf, hE, hU⟩⟩ | ⟨f, hf, hF, hU⟩
  · refine hF _ (br_t rfl (hE _ ?_))
    obtain ⟨y0, y1, y2, y3, y4, y5, y6, y7, y8, y9, y10, y11, y12, y13, y14, y15, y16, y17, y18, y19, y20, y21, y22, y23, y24, y25, y26, y27, y28, y29, y30, y31, y32, y33, y34, y35⟩ := u2
    exact br_t rfl h
  · refine hF _ (br_t rfl (hE _ ?_))
    obtain ⟨z0, z1, z2, z3, z4, z5, z6, z7, z8, z9, z10, z11, z12, z13, z14, z15, z16, z17, z18, z19, z20, z21, z22, z23, z24, z25, z26, z27, z28, z29, z30, z31, z32, z33, z34, z35⟩ := u1
    refine br_f hf (hU _ ?_)
    obtain ⟨y0, y1, y2, y3, y4, y5, y6, y7, y8, y9, y10, y11, y12, y13, y14, y15, y16, y17, y18, y19, y20, y21, y22, y23, y24, y25, y26, y27, y28, y29, y30, y31, y32, y33, y34, y35⟩ := u2
    exact h
  · refine hF _ (br_f hf (br_f hf (hU _ ?_)))
    obtain ⟨y0, y1, y2, y3, y4, y5, y6, y7, y8, y9, y10, y11, y12, y13, y14, y15, y16, y17, y18, y19, y20, y21, y22, y23, y24, y25, y26, y27, y28, y29, y30, y31, y32, y33, y34, y35⟩ := u2
    exact h
theorem yr_st {post : Int32 → SY → Prop} {x1 : Int32} {n k s j : Nat} {v2 : SY} (hk : k < 6) (hc : ¬ x1 ≤ nI j) (hY : ∀ post' : SY → Prop, post' v2 → wpY_step post' (q, wp, nI k, nI s, 0, nd, co, ca, cb, le, he, kl, tu, uy, tl, ul, tm, gc, ga, gp, ss, st, sf, fd, tc, tr, ow, ti, ft, fn, fh, fp, fz, fl, fv, rs, au) (nI k)) (h : yr_c post x1 n (nI (j + 1)) (nI k) v2) : wY_run_15 post x1 (n + 1) (nI j) q wp (nI k) (nI (s + 1)) yd nd co ca cb le he kl tu uy tl ul tm gc ga gp ss st sf fd tc tr ow ti ft fn fh fp fz fl fv rs au := by
  refine br_f hc (br_f (nI_pos (by omega)) (nm_r (nI_1 j) (nm_r (nI_pred s) (hY _ ?_))))
  obtain ⟨y0, y1, y2, y3, y4, y5, y6, y7, y8, y9, y10, y11, y12, y13, y14, y15, y16, y17, y18, y19, y20, y21, y22, y23, y24, y25, y26, y27, y28, y29, y30, y31, y32, y33, y34, y35, y36⟩ := v2
  exact h
end
theorem rn_loop : ∀ (m j M : Nat) (u : SX) (v : SY), rr_S M u v → M + m < 2 ^ 30 → j + m < 2 ^ 30 → ∃ (r : Int32) (u' : SX) (v' : SY), rr_S (M + m) u' v' ∧
    (∀ post : Int32 → SX → Prop, post r u' → xr_15 post (nI (j + m)) (m + 1) (nI j) u) ∧ (∀ post : Int32 → SY → Prop, post r v' → yr_15 post (nI (j + m)) (m + 1) (nI j) v) := by
  intro m
  induction m with
  | zero =>
    intro j M u v R hM hj
    obtain ⟨H, q, tn, sl, pc, wp, yd, nd, he, co, ca, cb, fs, fc, ts, tu, ux, tl, ul, tm, gc, ga, gp, ss, st, sf, tc, tr, ow, ti, fd, ft, fk, fn, fh, fl, fv, rs, nt, le, kl, uy, fp, fz, au, rfl, rfl, R⟩ := R
    exact ⟨nI j, _, _, mk_rr R, fun _ h => br_t (nI_le (Nat.le_refl _) (by omega)) h, fun _ h => br_t (nI_le (Nat.le_refl _) (by omega)) h⟩
  | succ m ih =>
    intro j M u v R hM hj
    obtain ⟨H, q, tn, sl, pc, wp, yd, nd, he, co, ca, cb, fs, fc, ts, tu, ux, tl, ul, tm, gc, ga, gp, ss, st, sf, tc, tr, ow, ti, fd, ft, fk, fn, fh, fl, fv, rs, nt, le, kl, uy, fp, fz, au, rfl, rfl, R⟩ := R
    have hc : ¬ nI (j + (m + 1)) ≤ nI j := nI_ge (by omega) (by omega)
    obtain ⟨a1, a2, a3, a4, a5, a6, a7, a8, a9, a10⟩ := R
    rcases a2 with e | ⟨k, hk, e, htc, s, s1, s2, hsl⟩
    · have en : tn < 0 := by rw [e]; decide
      exact ⟨nI j, _, _, mk_rr ⟨a1, Or.inl e, a3, a4, a5, a6, a7, a8, a9, rl_nU a10 (by omega)⟩, fun _ h => br_f hc (br_t e h), fun _ h => br_f hc (br_t en h)⟩
    · obtain ⟨s', rfl⟩ : ∃ s', s = s' + 1 := ⟨s - 1, by omega⟩
      subst e hsl
      obtain ⟨u2, v2, r1, r2, r3⟩ := sp_all (q := q) (pc := pc) (wp := wp) (nd := nd) (he := he) (co := co) (ca := ca) (cb := cb) (fs := fs) (fc := fc) (ts := ts) (tu := tu) (ux := ux) (tl := tl) (ul := ul) (tm := tm) (gc := gc) (ga := ga) (gp := gp) (ss := ss) (st := st) (sf := sf) (tc := tc) (tr := tr) (ow := ow) (ti := ti) (fd := fd) (ft := ft) (fk := fk) (fn := fn) (fh := fh) (fl := fl) (fv := fv) (rs := rs) (nt := nt) (le := le) (kl := kl) (uy := uy) (fp := fp) (fz := fz) (au := au) (tn := nI k) (sl := nI s') (yd := 0) (M := M) (by omega) hk rfl rfl rfl htc a1 a3 a4 a5 a6 a7 a8 a9 a10
      obtain ⟨u3, v3, q1, q2, q3⟩ := ps_all hk (by omega) r1
      obtain ⟨r, u', v', g1, g2, g3⟩ := ih (j + 1) (M + 1) u3 v3 q1 (by omega) (by omega)
      rw [show M + 1 + m = M + (m + 1) by omega] at g1
      rw [show j + 1 + m = j + (m + 1) by omega] at g2 g3
      refine ⟨r, u', v', g1, fun post h => ?_, fun post h => ?_⟩
      · refine xr_st hk hc r2 (q2 _ _ _ _ ?_)
        have z := g2 post h
        rw [nI_1]
        obtain ⟨y0, y1, y2, y3, y4, y5, y6, y7, y8, y9, y10, y11, y12, y13, y14, y15, y16, y17, y18, y19, y20, y21, y22, y23, y24, y25, y26, y27, y28, y29, y30, y31, y32, y33, y34, y35⟩ := u3
        exact z
      · exact yr_st hk hc r3 (q3 _ _ _ _ (g3 post h))
theorem i_vc_run {k : Nat} {u : SX} {v : SY} (I : i_Rel k u v) (hk : k + 5 ≤ 2561) (v1 : Int32) : wpX_run (fun r u' => wpY_run (fun r' v' => r' = r ∧ i_Rel (k + 5) u' v') v v1) u v1 := by
  have I5 := i_up I
  by_cases c1 : v1 < 0
  · obtain ⟨H, q, tn, sl, pc, wp, yd, nd, he, co, ca, cb, fs, fc, ts, tu, ux, tl, ul, tm, gc, ga, gp, ss, st, sf, tc, tr, ow, ti, fd, ft, fk, fn, fh, fl, fv, rs, nt, le, kl, uy, fp, fz, au, rfl, rfl, a1, a2, a3, a4, a5, a6, a7, a8, a9, a10⟩ := I
    exact br_t c1 (br_t c1 ⟨rfl, I5⟩)
  obtain ⟨n, hn, rfl⟩ := nI_of c1
  by_cases c2 : n ≤ 200
  · have c2' : nI n ≤ 200 := nI_le (b := 200) c2 (by decide)
    obtain ⟨r, u', v', g1, g2, g3⟩ := rn_loop n 0 (40 * k) u v I (by omega) (by omega)
    rw [Nat.zero_add] at g2 g3
    have fin : i_Rel (k + 5) u' v' := by
      obtain ⟨H, q, tn, sl, pc, wp, yd, nd, he, co, ca, cb, fs, fc, ts, tu, ux, tl, ul, tm, gc, ga, gp, ss, st, sf, tc, tr, ow, ti, fd, ft, fk, fn, fh, fl, fv, rs, nt, le, kl, uy, fp, fz, au, rfl, rfl, a1, a2, a3, a4, a5, a6, a7, a8, a9, a10⟩ := g1
      exact mk_rel ⟨a1, a2, a3, a4, a5, a6, a7, a8, a9, rl_nU a10 (by omega)⟩
    obtain ⟨H, q, tn, sl, pc, wp, yd, nd, he, co, ca, cb, fs, fc, ts, tu, ux, tl, ul, tm, gc, ga, gp, ss, st, sf, tc, tr, ow, ti, fd, ft, fk, fn, fh, fl, fv, rs, nt, le, kl, uy, fp, fz, au, rfl, rfl, a1, a2, a3, a4, a5, a6, a7, a8, a9, a10⟩ := I
    exact br_f c1 (br_t c2' ⟨_, g2 _ (br_f c1 (br_t c2' ⟨_, g3 _ ⟨rfl, fin⟩⟩))⟩)
  · have c2' : ¬ nI n ≤ 200 := nI_ge (b := n) (a := 200) (by omega) hn
    obtain ⟨H, q, tn, sl, pc, wp, yd, nd, he, co, ca, cb, fs, fc, ts, tu, ux, tl, ul, tm, gc, ga, gp, ss, st, sf, tc, tr, ow, ti, fd, ft, fk, fn, fh, fl, fv, rs, nt, le, kl, uy, fp, fz, au, rfl, rfl, a1, a2, a3, a4, a5, a6, a7, a8, a9, a10⟩ := I
    exact br_f c1 (br_f c2' (br_f c1 (br_f c2' ⟨rfl, I5⟩)))
