theorem rn_up {M m : Nat} {nd w : Int32} {au nt nt' : Nat → Int32} (hm : m ≤ M) (en : nd = nI m) (h : ∀ i, i < 8 → nt i = if i < m then au ((m - 1 - i) % 8) else -1) (h0 : nt' 0 = w) (h1 : ∀ i, i < 7 → nt' (i + 1) = nt i) : rl_n (M + 1) (nI (m + 1)) (upd au (m % 8) w) nt' := by
  refine ⟨m + 1, by omega, rfl, fun i hi => ?_⟩
  by_cases c : i = 0
  · subst c
    rw [if_pos (by omega), show (m + 1 - 1 - 0) % 8 = m % 8 by omega, pk_us, h0]
  · obtain ⟨j, rfl⟩ : ∃ j, i = j + 1 := ⟨i - 1, by omega⟩
    rw [h1 j (by omega), h j (by omega)]
    by_cases cj : j < m
    · rw [if_pos cj, if_pos (by omega), pk_un (by omega)]
      exact congrArg au (by omega)
    · rw [if_neg cj, if_neg (by omega)]
section
variable {q tn sl pc wp yd nd : Int32} {he co ca cb fs fc ts tu ux tl ul tm gc ga gp ss st sf tc tr ow ti fd ft fk fn fh fl fv rs nt le kl uy fp fz au : Nat → Int32}
theorem ng_loop (w : Int32) : ∀ j : Nat, j ≤ 7 → ∀ cur : Nat → Int32, (∀ i, i ≤ j → cur i = nt i) → (∀ i, j ≤ i → i < 7 → cur (i + 1) = nt i) → ∃ nt' : Nat → Int32, nt' 0 = w ∧ (∀ i, i < 7 → nt' (i + 1) = nt i) ∧ (∀ post : SX → Prop, post (q, tn, sl, pc, wp, he, co, ca, cb, fs, fc, ts, tu, ux, tl, ul, tm, gc, ga, gp, ss, st, sf, tc, tr, ow, ti, fd, ft, fk, fn, fh, fl, fv, rs, nt') → wX_noteGuard_3 post w q tn sl pc wp (j + 1) (nI j) he co ca cb fs fc ts tu ux tl ul tm gc ga gp ss st sf tc tr ow ti fd ft fk fn fh fl fv rs cur) := by
  intro j
  induction j with
  | zero =>
    intro _ cur g1 g2
    refine ⟨upd cur 0 w, pk_us, fun i hi => ?_, fun post h => br_t (by decide) (nm_e h)⟩
    rw [pk_un (by omega)]
    exact g2 i (by omega) hi
  | succ j ih =>
    intro hj cur g1 g2
    have e1 : (nI (j + 1)).toNatClampNeg = j + 1 := nI_clamp (by omega)
    have e2 : nI (j + 1) - 1 = nI j := nI_pred j
    have e3 : (nI j).toNatClampNeg = j := nI_clamp (by omega)
    obtain ⟨nt', r1, r2, r3⟩ := ih (by omega) (upd cur (j + 1) (cur j)) (fun i hi => by rw [pk_un (by omega)]; exact g1 i (by omega)) (fun i h1 h2 => by
      by_cases c : i = j
      · subst c; rw [pk_us]; exact g1 i (by omega)
      · rw [pk_un (by omega)]; exact g2 i (by omega) h2)
    refine ⟨nt', r1, r2, fun post h => br_f (nI_nle (by omega) (by omega)) ⟨by rw [e2]; exact vp_in_nI (by omega) (by decide), vp_in_nI (by omega) (by decide), nm_r (by rw [e1, e2, e3]) (nm_r (pk_m1 j) (r3 post h))⟩⟩
theorem ng_all (w : Int32) : ∃ nt' : Nat → Int32, nt' 0 = w ∧ (∀ i, i < 7 → nt' (i + 1) = nt i) ∧ (∀ post : SX → Prop, post (q, tn, sl, pc, wp, he, co, ca, cb, fs, fc, ts, tu, ux, tl, ul, tm, gc, ga, gp, ss, st, sf, tc, tr, ow, ti, fd, ft, fk, fn, fh, fl, fv, rs, nt') → wpX_noteGuard post (q, tn, sl, pc, wp, he, co, ca, cb, fs, fc, ts, tu, ux, tl, ul, tm, gc, ga, gp, ss, st, sf, tc, tr, ow, ti, fd, ft, fk, fn, fh, fl, fv, rs, nt) w) := by
  obtain ⟨nt', r1, r2, r3⟩ := ng_loop (q := q) (tn := tn) (sl := sl) (pc := pc) (wp := wp) (he := he) (co := co) (ca := ca) (cb := cb) (fs := fs) (fc := fc) (ts := ts) (tu := tu) (ux := ux) (tl := tl) (ul := ul) (tm := tm) (gc := gc) (ga := ga) (gp := gp) (ss := ss) (st := st) (sf := sf) (tc := tc) (tr := tr) (ow := ow) (ti := ti) (fd := fd) (ft := ft) (fk := fk) (fn := fn) (fh := fh) (fl := fl) (fv := fv) (rs := rs) (nt := nt) w 7 (Nat.le_refl _) nt (fun _ _ => rfl) (fun i h1 h2 => absurd h2 (by omega))
  exact ⟨nt', r1, r2, fun post h => ⟨8, r3 post h⟩⟩
theorem gl_loop {k x a p : Nat} {set : Int32} (hG : rl_g gc gp) (hp : p < 84) : ∀ d i : Nat, i + d = 4 → ∀ al : Int32, (al = 0 ∨ al = 1) → ∃ al' : Int32, (al' = 0 ∨ al' = 1) ∧
    (∀ (post : Int32 → SX → Prop) (m : Nat), wX_guardPath_26 post (nI a) (nI p) (nI x) set (nI (pa_g p)) q tn sl pc wp he co ca cb fs fc ts tu ux tl ul tm gc ga gp ss st sf tc tr ow ti fd ft fk fn fh fl fv rs nt (m + 1) al' (nI 4) → wX_guardPath_26 post (nI a) (nI p) (nI x) set (nI (pa_g p)) q tn sl pc wp he co ca cb fs fc ts tu ux tl ul tm gc ga gp ss st sf tc tr ow ti fd ft fk fn fh fl fv rs nt (m + 1 + d) al (nI i)) ∧
    (∀ (post : SY → Prop) (m : Nat), wY_guard_13 post (nI k) (nI x) (nI a) (nI p) set q wp tn sl yd nd co ca cb le he kl tu uy tl ul tm gc ga gp ss st sf fd tc tr ow ti ft fn fh fp fz fl fv rs au (m + 1) al' (nI 4) → wY_guard_13 post (nI k) (nI x) (nI a) (nI p) set q wp tn sl yd nd co ca cb le he kl tu uy tl ul tm gc ga gp ss st sf fd tc tr ow ti ft fn fh fp fz fl fv rs au (m + 1 + d) al (nI i)) := by
  intro d
  induction d with
  | zero =>
    intro i hi al hal
    have : i = 4 := by omega
    subst this
    exact ⟨al, hal, fun _ _ h => h, fun _ _ h => h⟩
  | succ d ih =>
    intro i hi al hal
    have n : ¬ (4 : Int32) ≤ nI i := ix_ge 4 rfl (by omega) (by decide)
    by_cases cb1 : (set >>> (nI i &&& 31)) &&& 1 = 1
    · obtain ⟨r, x1, y1⟩ := ml_all (q := q) (tn := tn) (sl := sl) (pc := pc) (wp := wp) (yd := yd) (nd := nd) (he := he) (co := co) (ca := ca) (cb := cb) (fs := fs) (fc := fc) (ts := ts) (tu := tu) (ux := ux) (tl := tl) (ul := ul) (tm := tm) (gc := gc) (ga := ga) (gp := gp) (ss := ss) (st := st) (sf := sf) (tc := tc) (tr := tr) (ow := ow) (ti := ti) (fd := fd) (ft := ft) (fk := fk) (fn := fn) (fh := fh) (fl := fl) (fv := fv) (rs := rs) (nt := nt) (le := le) (kl := kl) (uy := uy) (fp := fp) (fz := fz) (au := au) (t := i) (a := a) (by omega) hG hp
      by_cases cr : r = 0
      · obtain ⟨al', h0, h1, h2⟩ := ih (i + 1) (by omega) 0 (Or.inl rfl)
        exact ⟨al', h0, fun post m h => br_f n (br_t cb1 (br_f (by decide) (x1 _ (br_t cr (nm_r (nI_1 i) (h1 post m h)))))), fun post m h => br_f n (br_t cb1 (y1 _ (br_t cr (nm_r (nI_1 i) (h2 post m h)))))⟩
      · obtain ⟨al', h0, h1, h2⟩ := ih (i + 1) (by omega) al hal
        exact ⟨al', h0, fun post m h => br_f n (br_t cb1 (br_f (by decide) (x1 _ (br_f cr (nm_r (nI_1 i) (h1 post m h)))))), fun post m h => br_f n (br_t cb1 (y1 _ (br_f cr (nm_r (nI_1 i) (h2 post m h)))))⟩
    · obtain ⟨al', h0, h1, h2⟩ := ih (i + 1) (by omega) al hal
      exact ⟨al', h0, fun post m h => br_f n (br_f cb1 (br_t rfl (nm_r (nI_1 i) (h1 post m h)))), fun post m h => br_f n (br_f cb1 (nm_r (nI_1 i) (h2 post m h)))⟩
theorem xl_a0 {post : SX → Prop} {x h p : Nat} (hx : x < 36) (hh : fh x = nI h) (h8 : h < 8) (hp : p < 84) (hq : post (q, tn, sl, pc, wp, he, co, ca, cb, fs, fc, ts, tu, ux, tl, ul, tm, gc, ga, gp, ss, st, sf, tc, tr, ow, ti, fd, ft, fk, fn, upd fh x (nI (h + 1)), fl, upd fv (8 * x + h) (rs p), rs, nt)) : wpX_actOnPath post (q, tn, sl, pc, wp, he, co, ca, cb, fs, fc, ts, tu, ux, tl, ul, tm, gc, ga, gp, ss, st, sf, tc, tr, ow, ti, fd, ft, fk, fn, fh, fl, fv, rs, nt) (nI x) (nI 0) (nI p) := by
  have ep : (nI p).toNatClampNeg = p := nI_clamp (by omega)
  have vp : vp_in (nI p) 84 := vp_in_nI hp (by decide)
  refine br_f (by decide) (br_f (by decide) (br_t (by decide) ⟨vp, ?_⟩))
  rw [ep]
  exact xl_push (h := h) hx hh h8 hq
theorem xl_a1 {post : SX → Prop} {x g p : Nat} (hx : x < 36) (hh : fh x = nI (g + 1)) (h8 : g < 8) (hp : p < 84) (hq : post (q, tn, sl, pc, wp, he, co, ca, cb, fs, fc, ts, tu, ux, tl, ul, tm, gc, ga, gp, ss, st, sf, tc, tr, ow, ti, fd, ft, fk, fn, upd fh x (nI g), fl, fv, upd rs p (fv (8 * x + g)), nt)) : wpX_actOnPath post (q, tn, sl, pc, wp, he, co, ca, cb, fs, fc, ts, tu, ux, tl, ul, tm, gc, ga, gp, ss, st, sf, tc, tr, ow, ti, fd, ft, fk, fn, fh, fl, fv, rs, nt) (nI x) (nI 1) (nI p) := by
  have ep : (nI p).toNatClampNeg = p := nI_clamp (by omega)
  have vp : vp_in (nI p) 84 := vp_in_nI hp (by decide)
  exact br_f (by decide) (br_f (by decide) (br_f (by decide) (br_t (by decide) (xl_pop (h := g) hx hh h8 ⟨vp, nm_r (by rw [ep]) hq⟩))))
theorem xl_a2 {post : SX → Prop} {x h p : Nat} (hx : x < 36) (hh : fh x = nI h) (h8 : h < 8) (hp : p < 84) (hq : post (q, tn, sl, pc, wp, he, co, ca, cb, fs, fc, ts, tu, ux, tl, ul, tm, gc, ga, gp, ss, st, sf, tc, tr, ow, ti, fd, ft, fk, fn, upd fh x (nI (h + 1)), fl, upd fv (8 * x + h) (rs p), upd rs p 0, nt)) : wpX_actOnPath post (q, tn, sl, pc, wp, he, co, ca, cb, fs, fc, ts, tu, ux, tl, ul, tm, gc, ga, gp, ss, st, sf, tc, tr, ow, ti, fd, ft, fk, fn, fh, fl, fv, rs, nt) (nI x) (nI 2) (nI p) := by
  have ep : (nI p).toNatClampNeg = p := nI_clamp (by omega)
  have vp : vp_in (nI p) 84 := vp_in_nI hp (by decide)
  refine br_f (by decide) (br_f (by decide) (br_f (by decide) (br_f (by decide) (br_t (by decide) ⟨vp, ?_⟩))))
  rw [ep]
  exact xl_push (h := h) hx hh h8 ⟨vp, nm_e hq⟩
theorem xl_a3 {post : SX → Prop} {x h p : Nat} {r : Int32} (hx : x < 36) (hh : fh x = nI h) (h8 : h < 8) (hr : ∀ post' : Int32 → Prop, post' r → wpX_countBehind post' (q, tn, sl, pc, wp, he, co, ca, cb, fs, fc, ts, tu, ux, tl, ul, tm, gc, ga, gp, ss, st, sf, tc, tr, ow, ti, fd, ft, fk, fn, fh, fl, fv, rs, nt) (nI p)) (hq : post (q, tn, sl, pc, wp, he, co, ca, cb, fs, fc, ts, tu, ux, tl, ul, tm, gc, ga, gp, ss, st, sf, tc, tr, ow, ti, fd, ft, fk, fn, upd fh x (nI (h + 1)), fl, upd fv (8 * x + h) r, rs, nt)) : wpX_actOnPath post (q, tn, sl, pc, wp, he, co, ca, cb, fs, fc, ts, tu, ux, tl, ul, tm, gc, ga, gp, ss, st, sf, tc, tr, ow, ti, fd, ft, fk, fn, fh, fl, fv, rs, nt) (nI x) (nI 3) (nI p) :=
  br_f (by decide) (br_t (by decide) (hr _ (xl_push (h := h) hx hh h8 hq)))
/-- the whole of X's guard, down to the note; al: whether it is allowed -/
theorem xl_gd {post : Int32 → SX → Prop} {k d t a p : Nat} {set al : Int32} {nt' : Nat → Int32} (u1 : SX) (r : Int32) (hk : k < 6) (hd0 : 0 < d) (hd6 : d ≤ 6) (ed : fd k = nI d) (eft : ft (6 * k + (d - 1)) = nI t) (hp : p < 84)
    (hdm : ∀ post' : Int32 → Prop, post' set → wpX_domainsOf post' (q, tn, sl, pc, wp, he, co, ca, cb, fs, fc, ts, tu, ux, tl, ul, tm, gc, ga, gp, ss, st, sf, tc, tr, ow, ti, fd, ft, fk, fn, fh, fl, fv, rs, nt) (nI k))
    (hlp : ∀ (post : Int32 → SX → Prop) (m : Nat), wX_guardPath_26 post (nI a) (nI p) (nI (6 * k + (d - 1))) set (nI (pa_g p)) q tn sl pc wp he co ca cb fs fc ts tu ux tl ul tm gc ga gp ss st sf tc tr ow ti fd ft fk fn fh fl fv rs nt (m + 1) al (nI 4) → wX_guardPath_26 post (nI a) (nI p) (nI (6 * k + (d - 1))) set (nI (pa_g p)) q tn sl pc wp he co ca cb fs fc ts tu ux tl ul tm gc ga gp ss st sf tc tr ow ti fd ft fk fn fh fl fv rs nt (m + 1 + 4) 1 (nI 0))
    (hng : ∀ post' : SX → Prop, post' (q, tn, sl, pc, wp, he, co, ca, cb, fs, fc, ts, tu, ux, tl, ul, tm, gc, ga, gp, ss, st, sf, tc, tr, ow, ti, fd, ft, fk, fn, fh, fl, fv, rs, nt') → wpX_noteGuard post' (q, tn, sl, pc, wp, he, co, ca, cb, fs, fc, ts, tu, ux, tl, ul, tm, gc, ga, gp, ss, st, sf, tc, tr, ow, ti, fd, ft, fk, fn, fh, fl, fv, rs, nt) ((nI p + 128 * nI a) + 512 * nI t + (if al = 0 then 0 else 2048)))
    (hr : (al = 0 ∧ r = 1 ∧ u1 = (q, tn, sl, pc, wp, he, co, ca, cb, fs, fc, ts, tu, ux, tl, ul, tm, gc, ga, gp, ss, st, sf, tc, tr, ow, ti, fd, ft, fk, fn, fh, fl, fv, rs, nt')) ∨ (al ≠ 0 ∧ r = 0 ∧ (∀ post' : SX → Prop, post' u1 → wpX_actOnPath post' (q, tn, sl, pc, wp, he, co, ca, cb, fs, fc, ts, tu, ux, tl, ul, tm, gc, ga, gp, ss, st, sf, tc, tr, ow, ti, fd, ft, fk, fn, fh, fl, fv, rs, nt') (nI (6 * k + (d - 1))) (nI a) (nI p)))) (hq : post r u1) : wpX_guardPath post (q, tn, sl, pc, wp, he, co, ca, cb, fs, fc, ts, tu, ux, tl, ul, tm, gc, ga, gp, ss, st, sf, tc, tr, ow, ti, fd, ft, fk, fn, fh, fl, fv, rs, nt) (nI k) (nI a) (nI p) := by
  have ex : (nI (6 * k + (d - 1))).toNatClampNeg = 6 * k + (d - 1) := nI_clamp (by omega)
  have vx : vp_in (nI (6 * k + (d - 1))) 36 := vp_in_nI (by omega) (by decide)
  unfold wpX_guardPath; dsimp only
  refine xl_top hk hd0 ed (hdm _ (xl_dg hp ⟨0 + 1 + 4, hlp _ 0 ?_⟩))
  refine br_t (by decide) ⟨vx, nm_r (e' := (nI p + 128 * nI a) + 512 * nI t) (by rw [ex, eft]) ?_⟩
  rcases hr with ⟨c, e1, e2⟩ | ⟨c, e1, h3⟩
  · rw [if_pos c, Int32.add_zero] at hng
    subst e1 e2
    refine br_t c ?_
    unfold wX_guardPath_114
    exact hng _ (br_t c hq)
  · rw [if_neg c] at hng
    subst e1
    refine br_f c ?_
    unfold wX_guardPath_114
    refine hng _ (br_f c (h3 _ ?_))
    obtain ⟨y0, y1, y2, y3, y4, y5, y6, y7, y8, y9, y10, y11, y12, y13, y14, y15, y16, y17, y18, y19, y20, y21, y22, y23, y24, y25, y26, y27, y28, y29, y30, y31, y32, y33, y34, y35⟩ := u1
    exact hq
theorem yl_gd {post : SY → Prop} {k x t a p m : Nat} {set al : Int32} (v1 : SY) (hx : x < 36) (eft : ft x = nI t) (hm : m < 2 ^ 31) (en : nd = nI m)
    (hdm : ∀ post' : Int32 → Prop, post' set → wpY_domains post' (q, wp, tn, sl, yd, nd, co, ca, cb, le, he, kl, tu, uy, tl, ul, tm, gc, ga, gp, ss, st, sf, fd, tc, tr, ow, ti, ft, fn, fh, fp, fz, fl, fv, rs, au) (nI k))
    (hlp : ∀ (post : SY → Prop) (m : Nat), wY_guard_13 post (nI k) (nI x) (nI a) (nI p) set q wp tn sl yd nd co ca cb le he kl tu uy tl ul tm gc ga gp ss st sf fd tc tr ow ti ft fn fh fp fz fl fv rs au (m + 1) al (nI 4) → wY_guard_13 post (nI k) (nI x) (nI a) (nI p) set q wp tn sl yd nd co ca cb le he kl tu uy tl ul tm gc ga gp ss st sf fd tc tr ow ti ft fn fh fp fz fl fv rs au (m + 1 + 4) 1 (nI 0))
    (hr : (al = 0 ∧ (∀ post' : SY → Prop, post' v1 → wpY_raise post' (q, wp, tn, sl, yd, nI (m + 1), co, ca, cb, le, he, kl, tu, uy, tl, ul, tm, gc, ga, gp, ss, st, sf, fd, tc, tr, ow, ti, ft, fn, fh, fp, fz, fl, fv, rs, upd au (m % 8) ((nI p + 128 * nI a) + 512 * nI t + (if al = 0 then 0 else 2048))) (nI k) 1)) ∨ (al ≠ 0 ∧ (∀ post' : SY → Prop, post' v1 → ((nI a = 1 → (wpY_pop (fun r_128 u => match u with | (q, wp, tn, sl, yd, nd, co, ca, cb, le, he, kl, tu, uy, tl, ul, tm, gc, ga, gp, ss, st, sf, fd, tc, tr, ow, ti, ft, fn, fh, fp, fz, fl, fv, rs, au) => (vp_in (nI p) 84 ∧ ∀ rs', rs' = upd rs (nI p).toNatClampNeg r_128 → (post' (q, wp, tn, sl, yd, nd, co, ca, cb, le, he, kl, tu, uy, tl, ul, tm, gc, ga, gp, ss, st, sf, fd, tc, tr, ow, ti, ft, fn, fh, fp, fz, fl, fv, rs', au)))) (q, wp, tn, sl, yd, nI (m + 1), co, ca, cb, le, he, kl, tu, uy, tl, ul, tm, gc, ga, gp, ss, st, sf, fd, tc, tr, ow, ti, ft, fn, fh, fp, fz, fl, fv, rs, upd au (m % 8) ((nI p + 128 * nI a) + 512 * nI t + (if al = 0 then 0 else 2048))) (nI x))) ∧ (¬ nI a = 1 → (((nI a = 3 → (wpY_behind (fun r_90 => (wY_guard_156 post' (nI x) (nI a) (nI p) r_90 q wp tn sl yd (nI (m + 1)) co ca cb le he kl tu uy tl ul tm gc ga gp ss st sf fd tc tr ow ti ft fn fh fp fz fl fv rs (upd au (m % 8) ((nI p + 128 * nI a) + 512 * nI t + (if al = 0 then 0 else 2048))))) (q, wp, tn, sl, yd, nI (m + 1), co, ca, cb, le, he, kl, tu, uy, tl, ul, tm, gc, ga, gp, ss, st, sf, fd, tc, tr, ow, ti, ft, fn, fh, fp, fz, fl, fv, rs, upd au (m % 8) ((nI p + 128 * nI a) + 512 * nI t + (if al = 0 then 0 else 2048))) (nI p))) ∧ (¬ nI a = 3 → (vp_in (nI p) 84 ∧ (wY_guard_156 post' (nI x) (nI a) (nI p) (rs (nI p).toNatClampNeg) q wp tn sl yd (nI (m + 1)) co ca cb le he kl tu uy tl ul tm gc ga gp ss st sf fd tc tr ow ti ft fn fh fp fz fl fv rs (upd au (m % 8) ((nI p + 128 * nI a) + 512 * nI t + (if al = 0 then 0 else 2048))))))))))))) (hq : post v1) : wpY_guard post (q, wp, tn, sl, yd, nd, co, ca, cb, le, he, kl, tu, uy, tl, ul, tm, gc, ga, gp, ss, st, sf, fd, tc, tr, ow, ti, ft, fn, fh, fp, fz, fl, fv, rs, au) (nI k) (nI x) (nI a) (nI p) := by
  have ex : (nI x).toNatClampNeg = x := nI_clamp (by omega)
  have vx : vp_in (nI x) 36 := vp_in_nI hx (by decide)
  have e8 : nI m &&& 7 = nI (m % 8) := pk_andN (by omega) 3 (by decide)
  have e9 : (nI (m % 8)).toNatClampNeg = m % 8 := nI_clamp (by omega)
  have v8 : vp_in (nI (m % 8)) 8 := vp_in_nI (by omega) (by decide)
  unfold wpY_guard; dsimp only
  refine hdm _ ⟨0 + 1 + 4, hlp _ 0 ?_⟩
  refine br_t (by decide) ⟨vx, ?_⟩
  rw [ex, eft, en, e8]
  rcases hr with ⟨c, h3⟩ | ⟨c, h3⟩
  · rw [if_pos c] at h3
    refine br_t c ⟨v8, nm_r (by rw [e9]) (nm_r (nI_1 m) (br_t c (h3 _ ?_)))⟩
    obtain ⟨y0, y1, y2, y3, y4, y5, y6, y7, y8, y9, y10, y11, y12, y13, y14, y15, y16, y17, y18, y19, y20, y21, y22, y23, y24, y25, y26, y27, y28, y29, y30, y31, y32, y33, y34, y35, y36⟩ := v1
    exact hq
  · rw [if_neg c] at h3
    exact br_f c ⟨v8, nm_r (by rw [e9]) (nm_r (nI_1 m) (br_f c (h3 _ hq)))⟩
theorem sx_18 {M : Nat} {H : Nat → Nat → Nat → Prop} {k s d t i h n c : Nat} (hM : M < 2 ^ 30) (G : sg_R M H k s d t i h 18 n c q tn sl pc wp yd nd he co ca cb fs fc ts tu ux tl ul tm gc ga gp ss st sf tc tr ow ti fd ft fk fn fh fl fv rs nt le kl uy fp fz au) : sr_R M k s (q, tn, sl, pc, wp, he, co, ca, cb, fs, fc, ts, tu, ux, tl, ul, tm, gc, ga, gp, ss, st, sf, tc, tr, ow, ti, fd, ft, fk, fn, fh, fl, fv, rs, nt) (q, wp, tn, sl, yd, nd, co, ca, cb, le, he, kl, tu, uy, tl, ul, tm, gc, ga, gp, ss, st, sf, fd, tc, tr, ow, ti, ft, fn, fh, fp, fz, fl, fv, rs, au) := by
  have G' := G
  obtain ⟨C, htn, hsl, hyd, htc, B, hlo, hO, hK, hV, hn, hl, hh8, hle, hn64, hfc, hc4, z1, z2, z3, z4, z5, z6, z7, z8⟩ := G'
  have hk := B.1
  have hd0 := B.2.1
  have hd6 := B.2.2.1
  have ed := B.2.2.2.1
  have ht := B.2.2.2.2.1
  have eft := B.2.2.2.2.2.1
  have efh := B.2.2.2.2.2.2.2.1
  have hx : 6 * k + (d - 1) < 36 := by omega
  have ex : (nI (6 * k + (d - 1))).toNatClampNeg = 6 * k + (d - 1) := nI_clamp (by omega)
  have vx : vp_in (nI (6 * k + (d - 1))) 36 := vp_in_nI hx (by decide)
  have et : (nI t).toNatClampNeg = t := nI_clamp (by omega)
  have vt : vp_in (nI t) 4 := vp_in_nI ht (by decide)
  have hH := (z7 (by decide) (by decide) (by decide)).2
  obtain ⟨⟨a, ha, ea⟩, ⟨p, hp, eb⟩⟩ := z4 rfl
  rw [po_18, pu_18, ea] at hH z6
  rw [po_18, ea] at z5
  obtain ⟨m, m1, m2, m3⟩ := C.2.2.2.2.2
  have ep : (nI p).toNatClampNeg = p := nI_clamp (by omega)
  have vp : vp_in (nI p) 84 := vp_in_nI hp (by decide)
  obtain ⟨set, dx, dy⟩ := dl_all (q := q) (tn := tn) (sl := sl) (pc := pc) (wp := wp) (yd := yd) (nd := nd) (he := he) (co := co) (ca := ca) (cb := cb) (fs := fs) (fc := fc) (ts := ts) (ux := ux) (tl := tl) (ul := ul) (tm := tm) (gc := gc) (ga := ga) (gp := gp) (ss := ss) (st := st) (sf := sf) (tc := tc) (tr := tr) (ow := ow) (ti := ti) (fd := fd) (ft := ft) (fk := fk) (fh := fh) (fl := fl) (fv := fv) (rs := rs) (nt := nt) (le := le) (kl := kl) (uy := uy) (fp := fp) (fz := fz) (au := au) (tu := upd tu t (tu t + 1)) (fn := upd fn (6 * k + (d - 1)) (nI (i + 1))) hk hd6 ed hK
  obtain ⟨al, al01, lx, ly⟩ := gl_loop (q := q) (tn := tn) (sl := sl) (pc := pc) (wp := wp) (yd := yd) (nd := nd) (he := he) (co := co) (ca := ca) (cb := cb) (fs := fs) (fc := fc) (ts := ts) (ux := ux) (tl := tl) (ul := ul) (tm := tm) (gc := gc) (ga := ga) (gp := gp) (ss := ss) (st := st) (sf := sf) (tc := tc) (tr := tr) (ow := ow) (ti := ti) (fd := fd) (ft := ft) (fk := fk) (fh := fh) (fl := fl) (fv := fv) (rs := rs) (nt := nt) (le := le) (kl := kl) (uy := uy) (fp := fp) (fz := fz) (au := au) (tu := upd tu t (tu t + 1)) (fn := upd fn (6 * k + (d - 1)) (nI (i + 1))) (k := k) (x := 6 * k + (d - 1)) (a := a) (p := p) (set := set) C.2.2.2.1 hp 4 0 rfl 1 (Or.inr rfl)
  obtain ⟨nt', n1, n2, n3⟩ := ng_all (q := q) (tn := tn) (sl := sl) (pc := pc) (wp := wp) (he := he) (co := co) (ca := ca) (cb := cb) (fs := fs) (fc := fc) (ts := ts) (ux := ux) (tl := tl) (ul := ul) (tm := tm) (gc := gc) (ga := ga) (gp := gp) (ss := ss) (st := st) (sf := sf) (tc := tc) (tr := tr) (ow := ow) (ti := ti) (fd := fd) (ft := ft) (fk := fk) (fh := fh) (fl := fl) (fv := fv) (rs := rs) (nt := nt) (tu := upd tu t (tu t + 1)) (fn := upd fn (6 * k + (d - 1)) (nI (i + 1))) ((nI p + 128 * nI a) + 512 * nI t + (if al = 0 then 0 else 2048))
  have C' : rl_C (M + 1) H q pc (nI (m + 1)) le fc ts kl fs co ca cb gc gp st sf (upd au (m % 8) ((nI p + 128 * nI a) + 512 * nI t + (if al = 0 then 0 else 2048))) nt' :=
    ⟨C.1, C.2.1, C.2.2.1, C.2.2.2.1, C.2.2.2.2.1, rn_up m1 m2 m3 n1 n2⟩
  by_cases c0 : al = 0
  · obtain ⟨u2, v2, r1, r2, r3⟩ := rs_all (q := q) (tn := tn) (sl := sl) (pc := pc) (wp := wp) (yd := yd) (he := he) (co := co) (ca := ca) (cb := cb) (fs := fs) (fc := fc) (ts := ts) (ux := ux) (tl := tl) (ul := ul) (tm := tm) (gc := gc) (ga := ga) (gp := gp) (ss := ss) (st := st) (sf := sf) (tc := tc) (tr := tr) (ow := ow) (ti := ti) (fd := fd) (ft := ft) (fk := fk) (fh := fh) (fl := fl) (fv := fv) (rs := rs) (le := le) (kl := kl) (uy := uy) (fp := fp) (fz := fz) (tu := upd tu t (tu t + 1)) (fn := upd fn (6 * k + (d - 1)) (nI (i + 1))) (nd := nI (m + 1)) (au := upd au (m % 8) ((nI p + 128 * nI a) + 512 * nI t + (if al = 0 then 0 else 2048))) (nt := nt') (f := 1) C' htn hsl hyd (by decide) hk htc hK hd0 hd6 ed (tl_cg hd0 hlo (fun _ _ => rfl) (fun y hy => pk_un (by omega)) (fun _ _ => rfl) (fun _ _ => rfl)) (fun k' hk' ck => th_cg (hO k' hk' ck) (fun _ _ => rfl) (fun y hy => pk_un (by omega)) (fun _ _ => rfl) (fun _ _ => rfl) rfl rfl) hV
    refine ⟨u2, v2, r1, Or.inr ⟨1, (q, tn, sl, pc, wp, he, co, ca, cb, fs, fc, ts, upd tu t (tu t + 1), ux, tl, ul, tm, gc, ga, gp, ss, st, sf, tc, tr, ow, ti, fd, ft, fk, upd fn (6 * k + (d - 1)) (nI (i + 1)), fh, fl, fv, rs, nt'), by decide, fun post hq => ?_, r2⟩, fun post hq => ?_⟩
    · exact xe_18 B _ 1 (fun post' h' => by rw [ea, eb]; exact xl_gd _ 1 hk hd0 hd6 ed eft hp dx lx n3 (Or.inl ⟨c0, rfl, rfl⟩) h') hq
    · exact yl_sg _ B hn hl rfl (fun post' h' => by rw [ea, eb]; exact yl_gd _ hx eft (by omega) m2 dy ly (Or.inl ⟨c0, r3⟩) h') hq
  obtain ⟨rc, cx, cy⟩ := cl_all (q := q) (tn := tn) (sl := sl) (pc := pc) (wp := wp) (yd := yd) (he := he) (co := co) (ca := ca) (cb := cb) (fs := fs) (fc := fc) (ts := ts) (ux := ux) (tl := tl) (ul := ul) (tm := tm) (gc := gc) (ga := ga) (gp := gp) (ss := ss) (st := st) (sf := sf) (tc := tc) (tr := tr) (ow := ow) (ti := ti) (fd := fd) (ft := ft) (fk := fk) (fh := fh) (fl := fl) (fv := fv) (rs := rs) (le := le) (kl := kl) (uy := uy) (fp := fp) (fz := fz) (tu := upd tu t (tu t + 1)) (fn := upd fn (6 * k + (d - 1)) (nI (i + 1))) (nd := nI (m + 1)) (au := upd au (m % 8) ((nI p + 128 * nI a) + 512 * nI t + (if al = 0 then 0 else 2048))) (nt := nt') hp
  have ha4 : a = 0 ∨ a = 1 ∨ a = 2 ∨ a = 3 := by omega
  rcases ha4 with rfl | rfl | rfl | rfl
  · rw [if_neg (by decide), if_neg (by decide)] at hH z6
    rw [show h - 0 + 1 = h + 1 by omega] at hH z6
    refine ⟨(q, tn, sl, pc, wp, he, co, ca, cb, fs, fc, ts, upd tu t (tu t + 1), ux, tl, ul, tm, gc, ga, gp, ss, st, sf, tc, tr, ow, ti, fd, ft, fk, upd fn (6 * k + (d - 1)) (nI (i + 1)), upd fh (6 * k + (d - 1)) (nI (h + 1)), fl, upd fv (8 * (6 * k + (d - 1)) + h) (rs p), rs, nt'), (q, wp, tn, sl, yd, nI (m + 1), co, ca, cb, le, he, kl, upd tu t (tu t + 1), uy, tl, ul, tm, gc, ga, gp, ss, st, sf, fd, tc, tr, ow, ti, ft, upd fn (6 * k + (d - 1)) (nI (i + 1)), upd fh (6 * k + (d - 1)) (nI (h + 1)), fp, fz, fl, upd fv (8 * (6 * k + (d - 1)) + h) (rs p), rs, upd au (m % 8) ((nI p + 128 * nI 0) + 512 * nI t + (if al = 0 then 0 else 2048))), pr_top (i' := i + 1) (h' := h + 1) G C' (fun y hy => pk_un hy) pk_us (fun y hy => pk_un hy) pk_us hH hV (Or.inl ⟨hsl, htc, hyd⟩), Or.inl (fun post hq => ?_), fun post hq => ?_⟩
    · exact xe_18 B _ 0 (fun post' h' => by rw [ea, eb]; exact xl_gd _ 0 hk hd0 hd6 ed eft hp dx lx n3 (Or.inr ⟨c0, rfl, fun post3 h3 => xl_a0 hx efh (by omega) hp h3⟩) h') hq
    · refine yl_sg _ B hn hl rfl (fun post' h' => ?_) hq
      rw [ea, eb]
      refine yl_gd _ hx eft (by omega) m2 dy ly (Or.inr ⟨c0, fun post3 h3 => ?_⟩) h'
      refine br_f (by decide) (br_f (by decide) ⟨vp, ?_⟩)
      rw [ep]
      unfold wY_guard_156
      exact yl_push (h := h) hx efh (by omega) (br_f (by decide) h3)
  · rw [if_pos (by decide)] at z5
    rw [if_pos (by decide), if_pos (by decide)] at hH z6
    obtain ⟨g, rfl⟩ : ∃ g, h = g + 1 := ⟨h - 1, by omega⟩
    rw [show g + 1 - 1 + 0 = g by omega] at hH
    refine ⟨(q, tn, sl, pc, wp, he, co, ca, cb, fs, fc, ts, upd tu t (tu t + 1), ux, tl, ul, tm, gc, ga, gp, ss, st, sf, tc, tr, ow, ti, fd, ft, fk, upd fn (6 * k + (d - 1)) (nI (i + 1)), upd fh (6 * k + (d - 1)) (nI g), fl, fv, upd rs p (fv (8 * (6 * k + (d - 1)) + g)), nt'), (q, wp, tn, sl, yd, nI (m + 1), co, ca, cb, le, he, kl, upd tu t (tu t + 1), uy, tl, ul, tm, gc, ga, gp, ss, st, sf, fd, tc, tr, ow, ti, ft, upd fn (6 * k + (d - 1)) (nI (i + 1)), upd fh (6 * k + (d - 1)) (nI g), fp, fz, fl, fv, upd rs p (fv (8 * (6 * k + (d - 1)) + g)), upd au (m % 8) ((nI p + 128 * nI 1) + 512 * nI t + (if al = 0 then 0 else 2048))), pr_top (i' := i + 1) (h' := g) G C' (fun y hy => pk_un hy) pk_us (fun y hy => pk_un hy) pk_us hH hV (Or.inl ⟨hsl, htc, hyd⟩), Or.inl (fun post hq => ?_), fun post hq => ?_⟩
    · exact xe_18 B _ 0 (fun post' h' => by rw [ea, eb]; exact xl_gd _ 0 hk hd0 hd6 ed eft hp dx lx n3 (Or.inr ⟨c0, rfl, fun post3 h3 => xl_a1 hx efh (by omega) hp h3⟩) h') hq
    · refine yl_sg _ B hn hl rfl (fun post' h' => ?_) hq
      rw [ea, eb]
      refine yl_gd _ hx eft (by omega) m2 dy ly (Or.inr ⟨c0, fun post3 h3 => ?_⟩) h'
      exact br_t (by decide) (yl_pop (h := g) hx efh (by omega) ⟨vp, nm_r (by rw [ep]) h3⟩)
  · rw [if_neg (by decide), if_neg (by decide)] at hH z6
    rw [show h - 0 + 1 = h + 1 by omega] at hH z6
    refine ⟨(q, tn, sl, pc, wp, he, co, ca, cb, fs, fc, ts, upd tu t (tu t + 1), ux, tl, ul, tm, gc, ga, gp, ss, st, sf, tc, tr, ow, ti, fd, ft, fk, upd fn (6 * k + (d - 1)) (nI (i + 1)), upd fh (6 * k + (d - 1)) (nI (h + 1)), fl, upd fv (8 * (6 * k + (d - 1)) + h) (rs p), upd rs p 0, nt'), (q, wp, tn, sl, yd, nI (m + 1), co, ca, cb, le, he, kl, upd tu t (tu t + 1), uy, tl, ul, tm, gc, ga, gp, ss, st, sf, fd, tc, tr, ow, ti, ft, upd fn (6 * k + (d - 1)) (nI (i + 1)), upd fh (6 * k + (d - 1)) (nI (h + 1)), fp, fz, fl, upd fv (8 * (6 * k + (d - 1)) + h) (rs p), upd rs p 0, upd au (m % 8) ((nI p + 128 * nI 2) + 512 * nI t + (if al = 0 then 0 else 2048))), pr_top (i' := i + 1) (h' := h + 1) G C' (fun y hy => pk_un hy) pk_us (fun y hy => pk_un hy) pk_us hH hV (Or.inl ⟨hsl, htc, hyd⟩), Or.inl (fun post hq => ?_), fun post hq => ?_⟩
    · exact xe_18 B _ 0 (fun post' h' => by rw [ea, eb]; exact xl_gd _ 0 hk hd0 hd6 ed eft hp dx lx n3 (Or.inr ⟨c0, rfl, fun post3 h3 => xl_a2 hx efh (by omega) hp h3⟩) h') hq
    · refine yl_sg _ B hn hl rfl (fun post' h' => ?_) hq
      rw [ea, eb]
      refine yl_gd _ hx eft (by omega) m2 dy ly (Or.inr ⟨c0, fun post3 h3 => ?_⟩) h'
      refine br_f (by decide) (br_f (by decide) ⟨vp, ?_⟩)
      rw [ep]
      unfold wY_guard_156
      exact yl_push (h := h) hx efh (by omega) (br_t (by decide) ⟨vp, nm_r (by rw [ep]) h3⟩)
  · rw [if_neg (by decide), if_neg (by decide)] at hH z6
    rw [show h - 0 + 1 = h + 1 by omega] at hH z6
    refine ⟨(q, tn, sl, pc, wp, he, co, ca, cb, fs, fc, ts, upd tu t (tu t + 1), ux, tl, ul, tm, gc, ga, gp, ss, st, sf, tc, tr, ow, ti, fd, ft, fk, upd fn (6 * k + (d - 1)) (nI (i + 1)), upd fh (6 * k + (d - 1)) (nI (h + 1)), fl, upd fv (8 * (6 * k + (d - 1)) + h) rc, rs, nt'), (q, wp, tn, sl, yd, nI (m + 1), co, ca, cb, le, he, kl, upd tu t (tu t + 1), uy, tl, ul, tm, gc, ga, gp, ss, st, sf, fd, tc, tr, ow, ti, ft, upd fn (6 * k + (d - 1)) (nI (i + 1)), upd fh (6 * k + (d - 1)) (nI (h + 1)), fp, fz, fl, upd fv (8 * (6 * k + (d - 1)) + h) rc, rs, upd au (m % 8) ((nI p + 128 * nI 3) + 512 * nI t + (if al = 0 then 0 else 2048))), pr_top (i' := i + 1) (h' := h + 1) G C' (fun y hy => pk_un hy) pk_us (fun y hy => pk_un hy) pk_us hH hV (Or.inl ⟨hsl, htc, hyd⟩), Or.inl (fun post hq => ?_), fun post hq => ?_⟩
    · exact xe_18 B _ 0 (fun post' h' => by rw [ea, eb]; exact xl_gd _ 0 hk hd0 hd6 ed eft hp dx lx n3 (Or.inr ⟨c0, rfl, fun post3 h3 => xl_a3 hx efh (by omega) cx h3⟩) h') hq
    · refine yl_sg _ B hn hl rfl (fun post' h' => ?_) hq
      rw [ea, eb]
      refine yl_gd _ hx eft (by omega) m2 dy ly (Or.inr ⟨c0, fun post3 h3 => ?_⟩) h'
      refine br_f (by decide) (br_t (by decide) (cy _ ?_))
      unfold wY_guard_156
      exact yl_push (h := h) hx efh (by omega) (br_f (by decide) h3)

end
