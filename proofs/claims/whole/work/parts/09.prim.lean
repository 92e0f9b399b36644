def lo_4 (fl : Nat → Int32) (x : Nat) (w : Int32) : Nat → Int32 := upd (upd (upd (upd fl (4 * x + 0) w) (4 * x + 1) 0) (4 * x + 2) 0) (4 * x + 3) 0
section
variable {q tn sl pc wp yd nd : Int32} {he co ca cb fs fc ts tu ux tl ul tm gc ga gp ss st sf tc tr ow ti fd ft fk fn fh fl fv rs nt le kl uy fp fz au : Nat → Int32}
theorem xl_push {post : SX → Prop} {x h : Nat} {w : Int32} (hx : x < 36) (hh : fh x = nI h) (h8 : h < 8) (hp : post (q, tn, sl, pc, wp, he, co, ca, cb, fs, fc, ts, tu, ux, tl, ul, tm, gc, ga, gp, ss, st, sf, tc, tr, ow, ti, fd, ft, fk, fn, upd fh x (nI (h + 1)), fl, upd fv (8 * x + h) w, rs, nt)) : wpX_push post (q, tn, sl, pc, wp, he, co, ca, cb, fs, fc, ts, tu, ux, tl, ul, tm, gc, ga, gp, ss, st, sf, tc, tr, ow, ti, fd, ft, fk, fn, fh, fl, fv, rs, nt) (nI x) w := by
  have ex : (nI x).toNatClampNeg = x := nI_clamp (by omega)
  have vx : vp_in (nI x) 36 := vp_in_nI hx (by decide)
  have e1 : nI x * 8 + nI h = nI (8 * x + h) := ix_r 8 rfl x h
  have e2 : (nI (8 * x + h)).toNatClampNeg = 8 * x + h := nI_clamp (by omega)
  have v2 : vp_in (nI (8 * x + h)) 288 := vp_in_nI (by omega) (by decide)
  exact ⟨vx, nm_r (e' := nI h) (by rw [ex, hh]) (br_f (ix_ge 8 rfl h8 (by decide)) ⟨by rw [e1]; exact v2, nm_r (by rw [e1, e2]) ⟨vx, nm_r (by rw [ex, nI_1]) hp⟩⟩)⟩
theorem yl_push {post : SY → Prop} {x h : Nat} {w : Int32} (hx : x < 36) (hh : fh x = nI h) (h8 : h < 8) (hp : post (q, wp, tn, sl, yd, nd, co, ca, cb, le, he, kl, tu, uy, tl, ul, tm, gc, ga, gp, ss, st, sf, fd, tc, tr, ow, ti, ft, fn, upd fh x (nI (h + 1)), fp, fz, fl, upd fv (8 * x + h) w, rs, au)) : wpY_push post (q, wp, tn, sl, yd, nd, co, ca, cb, le, he, kl, tu, uy, tl, ul, tm, gc, ga, gp, ss, st, sf, fd, tc, tr, ow, ti, ft, fn, fh, fp, fz, fl, fv, rs, au) (nI x) w := by
  have ex : (nI x).toNatClampNeg = x := nI_clamp (by omega)
  have vx : vp_in (nI x) 36 := vp_in_nI hx (by decide)
  have e1 : 8 * nI x + nI h = nI (8 * x + h) := ix_l 8 rfl x h
  have e2 : (nI (8 * x + h)).toNatClampNeg = 8 * x + h := nI_clamp (by omega)
  have v2 : vp_in (nI (8 * x + h)) 288 := vp_in_nI (by omega) (by decide)
  exact ⟨vx, vx, nm_r (by rw [ex, hh, nI_1]) ⟨by rw [ex, hh, e1]; exact v2, nm_r (by rw [ex, hh, e1, e2]) hp⟩⟩
theorem xl_pop {post : Int32 → SX → Prop} {x h : Nat} (hx : x < 36) (hh : fh x = nI (h + 1)) (h8 : h < 8) (hp : post (fv (8 * x + h)) (q, tn, sl, pc, wp, he, co, ca, cb, fs, fc, ts, tu, ux, tl, ul, tm, gc, ga, gp, ss, st, sf, tc, tr, ow, ti, fd, ft, fk, fn, upd fh x (nI h), fl, fv, rs, nt)) : wpX_pop post (q, tn, sl, pc, wp, he, co, ca, cb, fs, fc, ts, tu, ux, tl, ul, tm, gc, ga, gp, ss, st, sf, tc, tr, ow, ti, fd, ft, fk, fn, fh, fl, fv, rs, nt) (nI x) := by
  have ex : (nI x).toNatClampNeg = x := nI_clamp (by omega)
  have vx : vp_in (nI x) 36 := vp_in_nI hx (by decide)
  have e1 : nI x * 8 + nI h = nI (8 * x + h) := ix_r 8 rfl x h
  have e2 : (nI (8 * x + h)).toNatClampNeg = 8 * x + h := nI_clamp (by omega)
  have v2 : vp_in (nI (8 * x + h)) 288 := vp_in_nI (by omega) (by decide)
  exact ⟨vx, nm_r (e' := nI h) (by rw [ex, hh, nI_pred]) (br_t (nI_pos' (by omega)) ⟨vx, nm_r (e' := upd fh x (nI h)) (by rw [ex]) ⟨by rw [e1]; exact v2, by rw [e1, e2]; exact hp⟩⟩)⟩
theorem yl_pop {post : Int32 → SY → Prop} {x h : Nat} (hx : x < 36) (hh : fh x = nI (h + 1)) (h8 : h < 8) (hp : post (fv (8 * x + h)) (q, wp, tn, sl, yd, nd, co, ca, cb, le, he, kl, tu, uy, tl, ul, tm, gc, ga, gp, ss, st, sf, fd, tc, tr, ow, ti, ft, fn, upd fh x (nI h), fp, fz, fl, fv, rs, au)) : wpY_pop post (q, wp, tn, sl, yd, nd, co, ca, cb, le, he, kl, tu, uy, tl, ul, tm, gc, ga, gp, ss, st, sf, fd, tc, tr, ow, ti, ft, fn, fh, fp, fz, fl, fv, rs, au) (nI x) := by
  have ex : (nI x).toNatClampNeg = x := nI_clamp (by omega)
  have vx : vp_in (nI x) 36 := vp_in_nI hx (by decide)
  have e1 : 8 * nI x + nI h = nI (8 * x + h) := ix_l 8 rfl x h
  have e2 : (nI (8 * x + h)).toNatClampNeg = 8 * x + h := nI_clamp (by omega)
  have v2 : vp_in (nI (8 * x + h)) 288 := vp_in_nI (by omega) (by decide)
  exact ⟨vx, vx, nm_r (e' := upd fh x (nI h)) (by rw [ex, hh, nI_pred]) ⟨by rw [ex, hh, nI_pred, e1]; exact v2, by rw [ex, hh, nI_pred, e1, e2]; exact hp⟩⟩
theorem xl_top {post : Int32 → Prop} {k d : Nat} (hk : k < 6) (h0 : 0 < d) (ed : fd k = nI d) (hp : post (nI (6 * k + (d - 1)))) : wpX_topFrame post (q, tn, sl, pc, wp, he, co, ca, cb, fs, fc, ts, tu, ux, tl, ul, tm, gc, ga, gp, ss, st, sf, tc, tr, ow, ti, fd, ft, fk, fn, fh, fl, fv, rs, nt) (nI k) := by
  have ek : (nI k).toNatClampNeg = k := nI_clamp (by omega)
  have e : nI k * 6 + fd (nI k).toNatClampNeg - 1 = nI (6 * k + (d - 1)) := by
    rw [ek, ed, ix_r (M := 6) 6 rfl, ix_p (by omega)]
    exact congrArg nI (by omega)
  exact ⟨vp_in_nI hk (by decide), by rw [e]; exact hp⟩
theorem xl_end {post : SX → Prop} {k : Nat} {c r : Int32} (hk : k < 6) (hp : post (q, tn, 0, pc, wp, he, co, ca, cb, fs, fc, ts, tu, ux, tl, ul, tm, gc, ga, gp, ss, st, sf, upd tc k c, upd tr k r, ow, ti, upd fd k 0, ft, fk, fn, fh, fl, fv, rs, nt)) : wpX_endThread post (q, tn, sl, pc, wp, he, co, ca, cb, fs, fc, ts, tu, ux, tl, ul, tm, gc, ga, gp, ss, st, sf, tc, tr, ow, ti, fd, ft, fk, fn, fh, fl, fv, rs, nt) (nI k) c r := by
  have ek : (nI k).toNatClampNeg = k := nI_clamp (by omega)
  have vk : vp_in (nI k) 6 := vp_in_nI hk (by decide)
  exact ⟨vk, nm_r (by rw [ek]) ⟨vk, nm_r (by rw [ek]) ⟨vk, nm_r (by rw [ek]) hp⟩⟩⟩
theorem yl_end {post : SY → Prop} {k : Nat} {c r : Int32} (hk : k < 6) (hp : post (q, wp, tn, sl, yd, nd, co, ca, cb, le, he, kl, tu, uy, tl, ul, tm, gc, ga, gp, ss, st, sf, upd fd k 0, upd tc k c, upd tr k r, ow, ti, ft, fn, fh, fp, fz, fl, fv, rs, au)) : wpY_finish post (q, wp, tn, sl, yd, nd, co, ca, cb, le, he, kl, tu, uy, tl, ul, tm, gc, ga, gp, ss, st, sf, fd, tc, tr, ow, ti, ft, fn, fh, fp, fz, fl, fv, rs, au) (nI k) c r := by
  have ek : (nI k).toNatClampNeg = k := nI_clamp (by omega)
  have vk : vp_in (nI k) 6 := vp_in_nI hk (by decide)
  exact ⟨vk, nm_r (by rw [ek]) ⟨vk, nm_r (by rw [ek]) ⟨vk, nm_r (by rw [ek]) hp⟩⟩⟩
theorem xb_it {post : Int32 → SX → Prop} {x i n : Nat} (hx : x < 36) (hi : i < 4) (h : wX_beginFrame_93 post (nI x) q tn sl pc wp n (nI (i + 1)) he co ca cb fs fc ts tu ux tl ul tm gc ga gp ss st sf tc tr ow ti fd ft fk fn fh (upd fl (4 * x + i) 0) fv rs nt) : wX_beginFrame_93 post (nI x) q tn sl pc wp (n + 1) (nI i) he co ca cb fs fc ts tu ux tl ul tm gc ga gp ss st sf tc tr ow ti fd ft fk fn fh fl fv rs nt := by
  have e1 : nI x * 4 + nI i = nI (4 * x + i) := ix_r 4 rfl x i
  have e2 : (nI (4 * x + i)).toNatClampNeg = 4 * x + i := nI_clamp (by omega)
  exact br_f (ix_ge 4 rfl hi (by decide)) ⟨by rw [e1]; exact vp_in_nI (by omega) (by decide), nm_r (by rw [e1, e2]) (nm_r (nI_1 i) h)⟩
theorem yb_it {post : SY → Prop} {x i n : Nat} {w : Int32} (hx : x < 36) (hi : i < 4) (h0 : 0 < i) (h : wY_enter_66 post w (nI x) q wp tn sl yd nd n (nI (i + 1)) co ca cb le he kl tu uy tl ul tm gc ga gp ss st sf fd tc tr ow ti ft fn fh fp fz (upd fl (4 * x + i) 0) fv rs au) : wY_enter_66 post w (nI x) q wp tn sl yd nd (n + 1) (nI i) co ca cb le he kl tu uy tl ul tm gc ga gp ss st sf fd tc tr ow ti ft fn fh fp fz fl fv rs au := by
  have e1 : 4 * nI x + nI i = nI (4 * x + i) := ix_l 4 rfl x i
  have e2 : (nI (4 * x + i)).toNatClampNeg = 4 * x + i := nI_clamp (by omega)
  exact br_f (ix_ge 4 rfl hi (by decide)) (br_f (nI_ne0 h0 (by omega)) ⟨by rw [e1]; exact vp_in_nI (by omega) (by decide), nm_r (by rw [e1, e2]) (nm_r (nI_1 i) h)⟩)
theorem yb_i0 {post : SY → Prop} {x n : Nat} {w : Int32} (hx : x < 36) (h : wY_enter_66 post w (nI x) q wp tn sl yd nd n (nI 1) co ca cb le he kl tu uy tl ul tm gc ga gp ss st sf fd tc tr ow ti ft fn fh fp fz (upd fl (4 * x + 0) w) fv rs au) : wY_enter_66 post w (nI x) q wp tn sl yd nd (n + 1) (nI 0) co ca cb le he kl tu uy tl ul tm gc ga gp ss st sf fd tc tr ow ti ft fn fh fp fz fl fv rs au := by
  have e1 : 4 * nI x + nI 0 = nI (4 * x + 0) := ix_l 4 rfl x 0
  have e2 : (nI (4 * x + 0)).toNatClampNeg = 4 * x + 0 := nI_clamp (by omega)
  exact br_f (by decide) (br_t rfl ⟨by rw [e1]; exact vp_in_nI (by omega) (by decide), nm_r (by rw [e1, e2]) (nm_r (nI_1 0) h)⟩)
theorem xl_bf {post : Int32 → SX → Prop} {k d t f i : Nat} {w kd : Int32} (hk : k < 6) (hd : d < 6) (ed : fd k = nI d) (ht : t < 4) (hf : f < 4) (hs : fs (4 * t + f) = nI i)
    (hp : post 0 (q, tn, sl, pc, wp, he, co, ca, cb, fs, fc, ts, tu, ux, tl, ul, tm, gc, ga, gp, ss, st, sf, tc, tr, ow, ti, upd fd k (nI (d + 1)), upd ft (6 * k + d) (nI t), upd fk (6 * k + d) kd, upd fn (6 * k + d) (nI i), upd fh (6 * k + d) 0, lo_4 fl (6 * k + d) w, fv, rs, nt)) : wpX_beginFrame post (q, tn, sl, pc, wp, he, co, ca, cb, fs, fc, ts, tu, ux, tl, ul, tm, gc, ga, gp, ss, st, sf, tc, tr, ow, ti, fd, ft, fk, fn, fh, fl, fv, rs, nt) (nI k) (nI t) (nI f) w kd := by
  have ek : (nI k).toNatClampNeg = k := nI_clamp (by omega)
  have vk : vp_in (nI k) 6 := vp_in_nI hk (by decide)
  have e1 : nI k * 6 + fd (nI k).toNatClampNeg = nI (6 * k + d) := by rw [ek, ed]; exact ix_r 6 rfl k d
  have ex : (nI (6 * k + d)).toNatClampNeg = 6 * k + d := nI_clamp (by omega)
  have vx : vp_in (nI (6 * k + d)) 36 := vp_in_nI (by omega) (by decide)
  have e4 : nI t * 4 + nI f = nI (4 * t + f) := ix_r 4 rfl t f
  have e5 : (nI (4 * t + f)).toNatClampNeg = 4 * t + f := nI_clamp (by omega)
  have v4 : vp_in (nI t * 4 + nI f) 16 := by rw [e4]; exact vp_in_nI (by omega) (by decide)
  have e6 : nI (6 * k + d) * 4 = nI (4 * (6 * k + d)) := ix_m 4 rfl _
  have e7 : (nI (4 * (6 * k + d))).toNatClampNeg = 4 * (6 * k + d) := nI_clamp (by omega)
  have v6 : vp_in (nI (6 * k + d) * 4) 144 := by rw [e6]; exact vp_in_nI (by omega) (by decide)
  refine ⟨vk, br_t (by rw [ek, ed]; exact nI_lt (b := 6) hd (by decide)) ⟨vk, nm_r e1 ⟨vk, vk, nm_r (e' := upd fd k (nI (d + 1))) (by rw [ek, ed, nI_1]) ⟨vx, nm_r (e' := upd ft (6 * k + d) (nI t)) (by rw [ex]) ⟨vx, nm_r (e' := upd fk (6 * k + d) kd) (by rw [ex]) ⟨v4, vx, nm_r (e' := upd fn (6 * k + d) (nI i)) (by rw [ex, e4, e5, hs]) ⟨vx, nm_r (e' := upd fh (6 * k + d) 0) (by rw [ex]) ⟨v6, nm_r (e' := upd fl (4 * (6 * k + d) + 0) w) (by rw [e6, e7]; rfl) ⟨4, ?_⟩⟩⟩⟩⟩⟩⟩⟩⟩
  refine xb_it (i := 1) (by omega) (by decide) ?_
  refine xb_it (i := 2) (by omega) (by decide) ?_
  refine xb_it (i := 3) (by omega) (by decide) ?_
  exact br_t (by decide) hp
theorem xl_b6 {post : Int32 → SX → Prop} {k : Nat} {t f w kd : Int32} (hk : k < 6) (ed : fd k = nI 6) (hp : post 6 (q, tn, sl, pc, wp, he, co, ca, cb, fs, fc, ts, tu, ux, tl, ul, tm, gc, ga, gp, ss, st, sf, tc, tr, ow, ti, fd, ft, fk, fn, fh, fl, fv, rs, nt)) : wpX_beginFrame post (q, tn, sl, pc, wp, he, co, ca, cb, fs, fc, ts, tu, ux, tl, ul, tm, gc, ga, gp, ss, st, sf, tc, tr, ow, ti, fd, ft, fk, fn, fh, fl, fv, rs, nt) (nI k) t f w kd := by
  have ek : (nI k).toNatClampNeg = k := nI_clamp (by omega)
  exact ⟨vp_in_nI hk (by decide), br_f (by rw [ek, ed]; decide) hp⟩
theorem yl_bf {post : SY → Prop} {k d t f i n : Nat} {w : Int32} (hk : k < 6) (hd : d < 6) (ed : fd k = nI d) (ht : t < 4) (hl : le t = nI n) (hn : n ≤ 64) (hi : i < n) (h0 : co (64 * t + i) = 0) (hf : cf_n co (64 * t) i = f)
    (hp : post (q, wp, tn, sl, yd, nd, co, ca, cb, le, he, kl, tu, uy, tl, ul, tm, gc, ga, gp, ss, st, sf, upd fd k (nI (d + 1)), tc, tr, ow, ti, upd ft (6 * k + d) (nI t), upd fn (6 * k + d) (nI i), upd fh (6 * k + d) 0, upd fp (6 * k + d) 0, upd fz (6 * k + d) 0, lo_4 fl (6 * k + d) w, fv, rs, au)) : wpY_enter post (q, wp, tn, sl, yd, nd, co, ca, cb, le, he, kl, tu, uy, tl, ul, tm, gc, ga, gp, ss, st, sf, fd, tc, tr, ow, ti, ft, fn, fh, fp, fz, fl, fv, rs, au) (nI k) (nI t) (nI f) w := by
  have ek : (nI k).toNatClampNeg = k := nI_clamp (by omega)
  have vk : vp_in (nI k) 6 := vp_in_nI hk (by decide)
  have e1 : 6 * nI k + fd (nI k).toNatClampNeg = nI (6 * k + d) := by rw [ek, ed]; exact ix_l 6 rfl k d
  have ex : (nI (6 * k + d)).toNatClampNeg = 6 * k + d := nI_clamp (by omega)
  have vx : vp_in (nI (6 * k + d)) 36 := vp_in_nI (by omega) (by decide)
  refine ⟨vk, vk, nm_r (e' := upd fd k (nI (d + 1))) (by rw [ek, ed, nI_1]) (nm_r e1 ⟨vx, nm_r (e' := upd ft (6 * k + d) (nI t)) (by rw [ex]) ?_⟩)⟩
  refine yl_fun (by omega) hl hn hi h0 hf ?_
  refine ⟨vx, nm_r (e' := upd fn (6 * k + d) (nI i)) (by rw [ex]) ⟨vx, nm_r (e' := upd fh (6 * k + d) 0) (by rw [ex]) ⟨vx, nm_r (e' := upd fp (6 * k + d) 0) (by rw [ex, ix_bn0]) ⟨vx, nm_r (e' := upd fz (6 * k + d) 0) (by rw [ex, ix_bn0]) ⟨5, ?_⟩⟩⟩⟩⟩
  refine yb_i0 (by omega) ?_
  refine yb_it (i := 1) (by omega) (by decide) (by decide) ?_
  refine yb_it (i := 2) (by omega) (by decide) (by decide) ?_
  refine yb_it (i := 3) (by omega) (by decide) (by decide) ?_
  exact br_t (by decide) hp
/-- the least thread that does not run -/
theorem fl_loop : ∀ d i : Nat, i + d = 6 →
    (∃ k : Nat, i ≤ k ∧ k < 6 ∧ tc k ≠ -1 ∧ (∀ post : Int32 → Prop, post (nI k) → wX_freeThread_2 post q tn sl pc wp he co ca cb fs fc ts tu ux tl ul tm gc ga gp ss st sf tc tr ow ti fd ft fk fn fh fl fv rs nt (d + 1) (nI i)) ∧ (∀ (post : Int32 → SY → Prop) (y1 y2 y3 y4 y6 : Int32), wY_begin_57 post y1 y2 y3 y4 (nI k) y6 q wp tn sl yd nd co ca cb le he kl tu uy tl ul tm gc ga gp ss st sf fd tc tr ow ti ft fn fh fp fz fl fv rs au → wY_begin_33 post y1 y2 y3 y4 y6 q wp tn sl yd nd co ca cb le he kl tu uy tl ul tm gc ga gp ss st sf fd tc tr ow ti ft fn fh fp fz fl fv rs au (d + 1) (nI i))) ∨
    ((∀ post : Int32 → Prop, post (-1) → wX_freeThread_2 post q tn sl pc wp he co ca cb fs fc ts tu ux tl ul tm gc ga gp ss st sf tc tr ow ti fd ft fk fn fh fl fv rs nt (d + 1) (nI i)) ∧ (∀ (post : Int32 → SY → Prop) (y1 y2 y3 y4 y6 : Int32), post (-1) (q, wp, tn, sl, yd, nd, co, ca, cb, le, he, kl, tu, uy, tl, ul, tm, gc, ga, gp, ss, st, sf, fd, tc, tr, ow, ti, ft, fn, fh, fp, fz, fl, fv, rs, au) → wY_begin_33 post y1 y2 y3 y4 y6 q wp tn sl yd nd co ca cb le he kl tu uy tl ul tm gc ga gp ss st sf fd tc tr ow ti ft fn fh fp fz fl fv rs au (d + 1) (nI i))) := by
  intro d
  induction d with
  | zero =>
    intro i hi
    have : i = 6 := by omega
    subst this
    exact Or.inr ⟨fun _ h => br_t (by decide) h, fun _ _ _ _ _ _ h => br_t (by decide) (br_t rfl h)⟩
  | succ d ih =>
    intro i hi
    have ei : (nI i).toNatClampNeg = i := nI_clamp (by omega)
    have vi : vp_in (nI i) 6 := vp_in_nI (by omega) (by decide)
    have n : ¬ (6 : Int32) ≤ nI i := ix_ge 6 rfl (by omega) (by decide)
    by_cases c : tc i = -1
    · have c' : tc (nI i).toNatClampNeg = -1 := by rw [ei]; exact c
      rcases ih (i + 1) (by omega) with ⟨k, h1, h2, h3, h4, h5⟩ | ⟨h4, h5⟩
      · exact Or.inl ⟨k, by omega, h2, h3, fun post h => br_f n ⟨vi, br_t c' (nm_r (nI_1 i) (h4 post h))⟩, fun post y1 y2 y3 y4 y6 h => br_f n ⟨vi, br_t c' (nm_r (nI_1 i) (h5 post y1 y2 y3 y4 y6 h))⟩⟩
      · exact Or.inr ⟨fun post h => br_f n ⟨vi, br_t c' (nm_r (nI_1 i) (h4 post h))⟩, fun post y1 y2 y3 y4 y6 h => br_f n ⟨vi, br_t c' (nm_r (nI_1 i) (h5 post y1 y2 y3 y4 y6 h))⟩⟩
    · have c' : ¬ tc (nI i).toNatClampNeg = -1 := by rw [ei]; exact c
      exact Or.inl ⟨i, Nat.le_refl _, by omega, c, fun post h => br_f n ⟨vi, br_f c' h⟩, fun post y1 y2 y3 y4 y6 h => br_f n ⟨vi, br_f c' h⟩⟩
/-- a new thread: refused on both sides, or begun on both with the same number -/
theorem bl_all {t f i n : Nat} {w s : Int32} (hT : tn = -1 ∨ ∃ k : Nat, k < 6 ∧ tn = nI k) (ht : t < 4) (hf4 : f < 4) (hs : fs (4 * t + f) = nI i) (hl : le t = nI n) (hn : n ≤ 64) (hi : i < n) (h0 : co (64 * t + i) = 0) (hf : cf_n co (64 * t) i = f) :
    ((∀ post : Int32 → SX → Prop, post (-1) (q, tn, sl, pc, wp, he, co, ca, cb, fs, fc, ts, tu, ux, tl, ul, tm, gc, ga, gp, ss, st, sf, tc, tr, ow, ti, fd, ft, fk, fn, fh, fl, fv, rs, nt) → wpX_beginThread post (q, tn, sl, pc, wp, he, co, ca, cb, fs, fc, ts, tu, ux, tl, ul, tm, gc, ga, gp, ss, st, sf, tc, tr, ow, ti, fd, ft, fk, fn, fh, fl, fv, rs, nt) (nI t) (nI f) w s) ∧ (∀ post : Int32 → SY → Prop, post (-1) (q, wp, tn, sl, yd, nd, co, ca, cb, le, he, kl, tu, uy, tl, ul, tm, gc, ga, gp, ss, st, sf, fd, tc, tr, ow, ti, ft, fn, fh, fp, fz, fl, fv, rs, au) → wpY_begin post (q, wp, tn, sl, yd, nd, co, ca, cb, le, he, kl, tu, uy, tl, ul, tm, gc, ga, gp, ss, st, sf, fd, tc, tr, ow, ti, ft, fn, fh, fp, fz, fl, fv, rs, au) (nI t) (nI f) w s)) ∨
    ∃ (k : Nat) (tn' sl' : Int32), k < 6 ∧ tc k ≠ -1 ∧ ((tn = -1 ∧ tn' = nI k ∧ sl' = q) ∨ (tn ≠ -1 ∧ tn' = tn ∧ sl' = sl)) ∧
    (∀ post : Int32 → SX → Prop, post (nI k) (q, tn', sl', pc, wp, he, co, ca, cb, fs, fc, ts, tu, ux, tl, ul, tm, gc, ga, gp, ss, st, sf, upd tc k (-1), upd tr k 0, upd ow k (nI t), upd ti k s, upd (upd fd k 0) k (nI (0 + 1)), upd ft (6 * k + 0) (nI t), upd fk (6 * k + 0) 0, upd fn (6 * k + 0) (nI i), upd fh (6 * k + 0) 0, lo_4 fl (6 * k + 0) w, fv, rs, nt) → wpX_beginThread post (q, tn, sl, pc, wp, he, co, ca, cb, fs, fc, ts, tu, ux, tl, ul, tm, gc, ga, gp, ss, st, sf, tc, tr, ow, ti, fd, ft, fk, fn, fh, fl, fv, rs, nt) (nI t) (nI f) w s) ∧
    (∀ post : Int32 → SY → Prop, post (nI k) (q, wp, tn', sl', yd, nd, co, ca, cb, le, he, kl, tu, uy, tl, ul, tm, gc, ga, gp, ss, st, sf, upd (upd fd k 0) k (nI (0 + 1)), upd tc k (-1), upd tr k 0, upd ow k (nI t), upd ti k s, upd ft (6 * k + 0) (nI t), upd fn (6 * k + 0) (nI i), upd fh (6 * k + 0) 0, upd fp (6 * k + 0) 0, upd fz (6 * k + 0) 0, lo_4 fl (6 * k + 0) w, fv, rs, au) → wpY_begin post (q, wp, tn, sl, yd, nd, co, ca, cb, le, he, kl, tu, uy, tl, ul, tm, gc, ga, gp, ss, st, sf, fd, tc, tr, ow, ti, ft, fn, fh, fp, fz, fl, fv, rs, au) (nI t) (nI f) w s) := by
  have et : (nI t).toNatClampNeg = t := nI_clamp (by omega)
  have vt : vp_in (nI t) 4 := vp_in_nI ht (by decide)
  have n0 : ¬ (1 : Int32) = 0 := by decide
  obtain ⟨r, x1, y1⟩ := tl_all (q := q) (tn := tn) (sl := sl) (pc := pc) (wp := wp) (yd := yd) (nd := nd) (he := he) (co := co) (ca := ca) (cb := cb) (fs := fs) (fc := fc) (ts := ts) (tu := tu) (ux := ux) (tl := tl) (ul := ul) (tm := tm) (gc := gc) (ga := ga) (gp := gp) (ss := ss) (st := st) (sf := sf) (tc := tc) (tr := tr) (ow := ow) (ti := ti) (fd := fd) (ft := ft) (fk := fk) (fn := fn) (fh := fh) (fl := fl) (fv := fv) (rs := rs) (nt := nt) (le := le) (kl := kl) (uy := uy) (fp := fp) (fz := fz) (au := au) (nI t)
  have ytn : ∀ post : Int32 → SY → Prop, (∀ y6 : Int32, (y6 = 0 ∧ tn ≠ -1 ∨ y6 = 1 ∧ tn = -1) → wY_begin_33 post (nI t) (nI f) w s y6 q wp tn sl yd nd co ca cb le he kl tu uy tl ul tm gc ga gp ss st sf fd tc tr ow ti ft fn fh fp fz fl fv rs au 7 0) → r < tm (nI t).toNatClampNeg → wpY_begin post (q, wp, tn, sl, yd, nd, co, ca, cb, le, he, kl, tu, uy, tl, ul, tm, gc, ga, gp, ss, st, sf, fd, tc, tr, ow, ti, ft, fn, fh, fp, fz, fl, fv, rs, au) (nI t) (nI f) w s := by
    intro post h c
    unfold wpY_begin; dsimp only
    refine y1 _ ⟨vt, br_t c ?_⟩
    rcases hT with e | ⟨k, hk, e⟩
    · exact br_f (by rw [e]; decide) ⟨7, h 1 (Or.inr ⟨rfl, e⟩)⟩
    · exact br_t (by rw [e]; exact nI_pos' (by omega)) ⟨7, h 0 (Or.inl ⟨rfl, by rw [e]; exact ix_neg k (by omega)⟩)⟩
  by_cases c : r < tm (nI t).toNatClampNeg
  · rcases fl_loop (q := q) (tn := tn) (sl := sl) (pc := pc) (wp := wp) (yd := yd) (nd := nd) (he := he) (co := co) (ca := ca) (cb := cb) (fs := fs) (fc := fc) (ts := ts) (tu := tu) (ux := ux) (tl := tl) (ul := ul) (tm := tm) (gc := gc) (ga := ga) (gp := gp) (ss := ss) (st := st) (sf := sf) (tc := tc) (tr := tr) (ow := ow) (ti := ti) (fd := fd) (ft := ft) (fk := fk) (fn := fn) (fh := fh) (fl := fl) (fv := fv) (rs := rs) (nt := nt) (le := le) (kl := kl) (uy := uy) (fp := fp) (fz := fz) (au := au) 6 0 rfl with ⟨k, h1, h2, h3, h4, h5⟩ | ⟨h4, h5⟩
    · refine Or.inr ⟨k, if tn = -1 then nI k else tn, if tn = -1 then q else sl, h2, h3, ?_, fun post h => ?_, fun post h => ?_⟩
      · by_cases e : tn = -1
        · rw [if_pos e, if_pos e]; exact Or.inl ⟨e, rfl, rfl⟩
        · rw [if_neg e, if_neg e]; exact Or.inr ⟨e, rfl, rfl⟩
      · have ek : (nI k).toNatClampNeg = k := nI_clamp (by omega)
        have vk : vp_in (nI k) 6 := vp_in_nI h2 (by decide)
        unfold wpX_beginThread; dsimp only
        refine (show wpX_freeThread _ _ from ⟨7, h4 _ ?_⟩)
        refine br_f (ix_neg k (by omega)) (x1 _ ⟨vt, br_t c ⟨vk, nm_r (e' := upd tc k (-1)) (by rw [ek]) ⟨vk, nm_r (e' := upd tr k 0) (by rw [ek]) ⟨vk, nm_r (e' := upd ow k (nI t)) (by rw [ek]) ⟨vk, nm_r (e' := upd ti k s) (by rw [ek]) ⟨vk, nm_r (e' := upd fd k 0) (by rw [ek]) ?_⟩⟩⟩⟩⟩⟩)
        refine xl_bf (d := 0) h2 (by decide) pk_us ht hf4 hs ?_
        by_cases e : tn = -1
        · rw [if_pos e, if_pos e] at h
          exact br_t e h
        · rw [if_neg e, if_neg e] at h
          exact br_f e h
      · have ek : (nI k).toNatClampNeg = k := nI_clamp (by omega)
        have vk : vp_in (nI k) 6 := vp_in_nI h2 (by decide)
        refine ytn post (fun y6 hy => h5 post _ _ _ _ _ ?_) c
        refine br_f (ix_ne 6 rfl (by omega) (by omega) (by decide)) ⟨vk, nm_r (e' := upd tc k (-1)) (by rw [ek]) ⟨vk, nm_r (e' := upd tr k 0) (by rw [ek]) ⟨vk, nm_r (e' := upd ow k (nI t)) (by rw [ek]) ⟨vk, nm_r (e' := upd ti k s) (by rw [ek]) ⟨vk, nm_r (e' := upd fd k 0) (by rw [ek]) ?_⟩⟩⟩⟩⟩
        refine yl_bf (d := 0) h2 (by decide) pk_us ht hl hn hi h0 hf ?_
        rcases hy with ⟨z, e⟩ | ⟨z, e⟩
        · rw [if_neg e, if_neg e] at h
          exact br_t z h
        · rw [if_pos e, if_pos e] at h
          exact br_f (by rw [z]; exact n0) h
    · refine Or.inl ⟨fun post h => ?_, fun post h => ?_⟩
      · unfold wpX_beginThread; dsimp only
        exact (show wpX_freeThread _ _ from ⟨7, h4 _ (br_t rfl h)⟩)
      · exact ytn post (fun y6 hy => h5 post _ _ _ _ _ h) c
  · refine Or.inl ⟨fun post h => ?_, fun post h => ?_⟩
    · unfold wpX_beginThread; dsimp only
      rcases fl_loop (q := q) (tn := tn) (sl := sl) (pc := pc) (wp := wp) (yd := yd) (nd := nd) (he := he) (co := co) (ca := ca) (cb := cb) (fs := fs) (fc := fc) (ts := ts) (tu := tu) (ux := ux) (tl := tl) (ul := ul) (tm := tm) (gc := gc) (ga := ga) (gp := gp) (ss := ss) (st := st) (sf := sf) (tc := tc) (tr := tr) (ow := ow) (ti := ti) (fd := fd) (ft := ft) (fk := fk) (fn := fn) (fh := fh) (fl := fl) (fv := fv) (rs := rs) (nt := nt) (le := le) (kl := kl) (uy := uy) (fp := fp) (fz := fz) (au := au) 6 0 rfl with ⟨k, h1, h2, h3, h4, h5⟩ | ⟨h4, h5⟩
      · exact (show wpX_freeThread _ _ from ⟨7, h4 _ (br_f (ix_neg k (by omega)) (x1 _ ⟨vt, br_f c h⟩))⟩)
      · exact (show wpX_freeThread _ _ from ⟨7, h4 _ (br_t rfl h)⟩)
    · unfold wpY_begin; dsimp only
      exact y1 _ ⟨vt, br_f c h⟩
end
