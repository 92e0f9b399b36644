section
variable {q tn sl pc wp yd nd : Int32} {he co ca cb fs fc ts tu ux tl ul tm gc ga gp ss st sf tc tr ow ti fd ft fk fn fh fl fv rs nt le kl uy fp fz au : Nat → Int32}
theorem i_vc_thread {k : Nat} {u : SX} {v : SY} (I : i_Rel k u v) (hk : k + 5 ≤ 2561) (v1 : Int32) (v2 : Int32) : wpX_thread (fun r => wpY_thread (fun r' => r' = r ∧ i_Rel (k + 5) u v) v v1 v2) u v1 v2 := by
  have I5 := i_up I
  obtain ⟨H, q, tn, sl, pc, wp, yd, nd, he, co, ca, cb, fs, fc, ts, tu, ux, tl, ul, tm, gc, ga, gp, ss, st, sf, tc, tr, ow, ti, fd, ft, fk, fn, fh, fl, fv, rs, nt, le, kl, uy, fp, fz, au, rfl, rfl, a1, a2, a3, a4, a5, a6, a7, a8, a9, a10⟩ := I
  rcases ix_c v1 (n := 6) (N := 6) (N1 := 5) rfl rfl (by decide) (by decide) with c | ⟨d1, d2, d3, d4, d5⟩ | ⟨t, ht, rfl⟩
  · exact br_t c (br_t c ⟨rfl, I5⟩)
  · exact br_f d1 (br_t d2 (br_f d1 (br_t d3 ⟨rfl, I5⟩)))
  obtain ⟨f1, f2, f3, f4, f5⟩ := ix_f (N := 6) (N1 := 5) rfl rfl ht (by decide)
  have vt : vp_in (nI t) 6 := vp_in_nI ht (by decide)
  have et : (nI t).toNatClampNeg = t := nI_clamp (by omega)
  by_cases c : tc (nI t).toNatClampNeg = -2
  · exact br_f f1 (br_f f2 ⟨vt, br_t c (br_f f1 (br_f f3 ⟨vt, br_t c ⟨rfl, I5⟩⟩))⟩)
  refine br_f f1 (br_f f2 ⟨vt, br_f c ?_⟩)
  by_cases e0 : v2 < 0
  · exact br_t e0 (br_f f1 (br_f f3 ⟨vt, br_f c (br_t e0 ⟨rfl, I5⟩)⟩))
  by_cases e4 : (4 : Int32) < v2
  · exact br_f e0 (br_t e4 (br_f f1 (br_f f3 ⟨vt, br_f c (br_f e0 (br_t e4 ⟨rfl, I5⟩))⟩)))
  refine br_f e0 (br_f e4 ?_)
  by_cases c0 : v2 = 0
  · exact br_t c0 ⟨vt, br_f f1 (br_f f3 ⟨vt, br_f c (br_f e0 (br_f e4 (br_t c0 ⟨vt, rfl, I5⟩)))⟩)⟩
  by_cases c1 : v2 = 1
  · exact br_f c0 (br_t c1 ⟨vt, br_f f1 (br_f f3 ⟨vt, br_f c (br_f e0 (br_f e4 (br_f c0 (br_t c1 ⟨vt, rfl, I5⟩))))⟩)⟩)
  by_cases c2 : v2 = 2
  · exact br_f c0 (br_f c1 (br_t c2 ⟨vt, br_f f1 (br_f f3 ⟨vt, br_f c (br_f e0 (br_f e4 (br_f c0 (br_f c1 (br_t c2 ⟨vt, rfl, I5⟩)))))⟩)⟩))
  by_cases c3 : v2 = 3
  · refine br_f c0 (br_f c1 (br_f c2 (br_t c3 ⟨vt, ?_⟩)))
    by_cases cr : tc (nI t).toNatClampNeg = -1
    · obtain ⟨d, h1, h2, h3⟩ := rl_td a7 t ht
      obtain ⟨r, x1, y1⟩ := dl_all (q := q) (tn := tn) (sl := sl) (pc := pc) (wp := wp) (yd := yd) (nd := nd) (he := he) (co := co) (ca := ca) (cb := cb) (fs := fs) (fc := fc) (ts := ts) (tu := tu) (ux := ux) (tl := tl) (ul := ul) (tm := tm) (gc := gc) (ga := ga) (gp := gp) (ss := ss) (st := st) (sf := sf) (tc := tc) (tr := tr) (ow := ow) (ti := ti) (fd := fd) (ft := ft) (fk := fk) (fn := fn) (fh := fh) (fl := fl) (fv := fv) (rs := rs) (nt := nt) (le := le) (kl := kl) (uy := uy) (fp := fp) (fz := fz) (au := au) ht h1 h2 a8
      refine br_t cr (x1 _ ?_)
      exact br_f f1 (br_f f3 ⟨vt, br_f c (br_f e0 (br_f e4 (br_f c0 (br_f c1 (br_f c2 (br_t c3 ⟨vt, br_t cr (y1 _ ⟨rfl, I5⟩)⟩))))))⟩)
    · exact br_f cr (br_f f1 (br_f f3 ⟨vt, br_f c (br_f e0 (br_f e4 (br_f c0 (br_f c1 (br_f c2 (br_t c3 ⟨vt, br_f cr ⟨rfl, I5⟩⟩))))))⟩))
  by_cases c4 : v2 = 4
  · refine br_f c0 (br_f c1 (br_f c2 (br_f c3 (br_t c4 ?_))))
    by_cases cr : tn = nI t
    · exact br_t cr (br_f f1 (br_f f3 ⟨vt, br_f c (br_f e0 (br_f e4 (br_f c0 (br_f c1 (br_f c2 (br_f c3 (br_t c4 (br_t cr ⟨rfl, I5⟩))))))))⟩))
    · exact br_f cr (br_f f1 (br_f f3 ⟨vt, br_f c (br_f e0 (br_f e4 (br_f c0 (br_f c1 (br_f c2 (br_f c3 (br_t c4 (br_f cr ⟨rfl, I5⟩))))))))⟩))
  exact br_f c0 (br_f c1 (br_f c2 (br_f c3 (br_f c4 trivial))))
theorem i_vc_tenant {k : Nat} {u : SX} {v : SY} (I : i_Rel k u v) (hk : k + 5 ≤ 2561) (v1 : Int32) (v2 : Int32) : wpX_tenant (fun r => wpY_tenant (fun r' => r' = r ∧ i_Rel (k + 5) u v) v v1 v2) u v1 v2 := by
  have I5 := i_up I
  obtain ⟨H, q, tn, sl, pc, wp, yd, nd, he, co, ca, cb, fs, fc, ts, tu, ux, tl, ul, tm, gc, ga, gp, ss, st, sf, tc, tr, ow, ti, fd, ft, fk, fn, fh, fl, fv, rs, nt, le, kl, uy, fp, fz, au, rfl, rfl, a1, a2, a3, a4, a5, a6, a7, a8, a9, a10⟩ := I
  have n0 : ¬ (1 : Int32) = 0 := by decide
  have fin : ∀ (r : Int32), (∀ post : Int32 → Prop, post r → wpX_tenant post (q, tn, sl, pc, wp, he, co, ca, cb, fs, fc, ts, tu, ux, tl, ul, tm, gc, ga, gp, ss, st, sf, tc, tr, ow, ti, fd, ft, fk, fn, fh, fl, fv, rs, nt) v1 v2) → (∀ post : Int32 → Prop, post r → wpY_tenant post (q, wp, tn, sl, yd, nd, co, ca, cb, le, he, kl, tu, uy, tl, ul, tm, gc, ga, gp, ss, st, sf, fd, tc, tr, ow, ti, ft, fn, fh, fp, fz, fl, fv, rs, au) v1 v2) →
      wpX_tenant (fun r => wpY_tenant (fun r' => r' = r ∧ i_Rel (k + 5) (q, tn, sl, pc, wp, he, co, ca, cb, fs, fc, ts, tu, ux, tl, ul, tm, gc, ga, gp, ss, st, sf, tc, tr, ow, ti, fd, ft, fk, fn, fh, fl, fv, rs, nt) (q, wp, tn, sl, yd, nd, co, ca, cb, le, he, kl, tu, uy, tl, ul, tm, gc, ga, gp, ss, st, sf, fd, tc, tr, ow, ti, ft, fn, fh, fp, fz, fl, fv, rs, au)) (q, wp, tn, sl, yd, nd, co, ca, cb, le, he, kl, tu, uy, tl, ul, tm, gc, ga, gp, ss, st, sf, fd, tc, tr, ow, ti, ft, fn, fh, fp, fz, fl, fv, rs, au) v1 v2) (q, tn, sl, pc, wp, he, co, ca, cb, fs, fc, ts, tu, ux, tl, ul, tm, gc, ga, gp, ss, st, sf, tc, tr, ow, ti, fd, ft, fk, fn, fh, fl, fv, rs, nt) v1 v2 := fun r h2 h3 => h2 _ (h3 _ ⟨rfl, I5⟩)
  rcases ten_c v1 with c | ⟨t, ht, rfl⟩
  · refine fin (-1) (fun post h => ?_) (fun post h => ?_)
    · unfold wpX_tenant; dsimp only
      exact xl_ten0 c (br_t rfl h)
    · unfold wpY_tenant; dsimp only
      exact yl_ten0 c (br_t rfl h)
  have vt : vp_in (nI t) 4 := vp_in_nI ht (by decide)
  have vt5 : vp_in (nI t) 5 := vp_in_nI (by omega) (by decide)
  have et : (nI t).toNatClampNeg = t := nI_clamp (by omega)
  by_cases e0 : v2 < 0
  · refine fin (-1) (fun post h => ?_) (fun post h => ?_)
    · unfold wpX_tenant; dsimp only
      exact xl_ten1 ht (br_f n0 (br_t e0 h))
    · unfold wpY_tenant; dsimp only
      exact yl_ten1 ht (br_f n0 (br_t e0 h))
  by_cases e6 : (6 : Int32) < v2
  · refine fin (-1) (fun post h => ?_) (fun post h => ?_)
    · unfold wpX_tenant; dsimp only
      exact xl_ten1 ht (br_f n0 (br_f e0 (br_t e6 h)))
    · unfold wpY_tenant; dsimp only
      exact yl_ten1 ht (br_f n0 (br_f e0 (br_t e6 h)))
  by_cases c0 : v2 = 0
  · refine fin (tu (nI t).toNatClampNeg) (fun post h => ?_) (fun post h => ?_)
    · unfold wpX_tenant; dsimp only
      exact xl_ten1 ht (br_f n0 (br_f e0 (br_f e6 (br_t c0 ⟨vt, h⟩))))
    · unfold wpY_tenant; dsimp only
      exact yl_ten1 ht (br_f n0 (br_f e0 (br_f e6 (br_t c0 ⟨vt, h⟩))))
  have hd := rl_td a7
  by_cases c1 : v2 = 1
  · refine fin (ux t) (fun post h => ?_) (fun post h => ?_)
    · unfold wpX_tenant; dsimp only
      exact xl_ten1 ht (br_f n0 (br_f e0 (br_f e6 (br_f c0 (br_t c1 ⟨vt, by rw [et]; exact h⟩)))))
    · unfold wpY_tenant; dsimp only
      refine yl_ten1 ht (br_f n0 (br_f e0 (br_f e6 (br_f c0 (br_t c1 ⟨vt, ?_⟩)))))
      rw [et]
      obtain ⟨u1, u2⟩ := a9 t ht
      by_cases ck : kl t = 0
      · refine br_t ck ⟨vt, ?_⟩
        rw [← u2 (fun z => z.1 ck)]
        exact h
      · refine br_f ck (yl_frames hd ?_)
        by_cases cf : fr_c fd ft (nI t) 36 = 0
        · rw [cf]
          rw [u1 ck ((fr_nf hd t).mp cf)] at h
          exact br_t rfl h
        · have := fr_cl fd ft (nI t) 36
          refine br_f (nI_ne0 (by omega) (by omega)) ⟨vt, ?_⟩
          rw [← u2 (fun z => cf ((fr_nf hd t).mpr z.2))]
          exact h
  by_cases c2 : v2 = 2
  · obtain ⟨r, x1, y1⟩ := tl_all (q := q) (tn := tn) (sl := sl) (pc := pc) (wp := wp) (yd := yd) (nd := nd) (he := he) (co := co) (ca := ca) (cb := cb) (fs := fs) (fc := fc) (ts := ts) (tu := tu) (ux := ux) (tl := tl) (ul := ul) (tm := tm) (gc := gc) (ga := ga) (gp := gp) (ss := ss) (st := st) (sf := sf) (tc := tc) (tr := tr) (ow := ow) (ti := ti) (fd := fd) (ft := ft) (fk := fk) (fn := fn) (fh := fh) (fl := fl) (fv := fv) (rs := rs) (nt := nt) (le := le) (kl := kl) (uy := uy) (fp := fp) (fz := fz) (au := au) (nI t)
    refine fin r (fun post h => ?_) (fun post h => ?_)
    · unfold wpX_tenant; dsimp only
      exact xl_ten1 ht (br_f n0 (br_f e0 (br_f e6 (br_f c0 (br_f c1 (br_t c2 (x1 _ h)))))))
    · unfold wpY_tenant; dsimp only
      exact yl_ten1 ht (br_f n0 (br_f e0 (br_f e6 (br_f c0 (br_f c1 (br_t c2 (y1 _ h)))))))
  by_cases c3 : v2 = 3
  · refine fin (nI (fr_c fd ft (nI t) 36)) (fun post h => ?_) (fun post h => ?_)
    · unfold wpX_tenant; dsimp only
      exact xl_ten1 ht (br_f n0 (br_f e0 (br_f e6 (br_f c0 (br_f c1 (br_f c2 (br_t c3 (xl_frames hd h))))))))
    · unfold wpY_tenant; dsimp only
      exact yl_ten1 ht (br_f n0 (br_f e0 (br_f e6 (br_f c0 (br_f c1 (br_f c2 (br_t c3 (yl_frames hd h))))))))
  obtain ⟨n, c, b1, b2, b3, b4, b5, b6, b7, b8, b9, b10, b11⟩ := a4 t ht
  by_cases c4 : v2 = 4
  · refine fin (ts t) (fun post h => ?_) (fun post h => ?_)
    · unfold wpX_tenant; dsimp only
      exact xl_ten1 ht (br_f n0 (br_f e0 (br_f e6 (br_f c0 (br_f c1 (br_f c2 (br_f c3 (br_t c4 ⟨vt, by rw [et]; exact h⟩))))))))
    · unfold wpY_tenant; dsimp only
      refine yl_ten1 ht (br_f n0 (br_f e0 (br_f e6 (br_f c0 (br_f c1 (br_f c2 (br_f c3 (br_t c4 ⟨vt5, ?_⟩))))))))
      rw [et, b2]
      rw [b8] at h
      by_cases cn : n = 0
      · rw [if_pos cn] at h
        subst cn
        exact br_t rfl h
      · rw [if_neg cn] at h
        refine br_f (nI_ne0 (by omega) (by omega)) ⟨vt, ?_⟩
        by_cases ck : kl t = 0
        · rw [if_pos ck] at h
          exact br_t ck h
        · rw [if_neg ck] at h
          exact br_f ck h
  by_cases c5 : v2 = 5
  · refine fin (fc t) (fun post h => ?_) (fun post h => ?_)
    · unfold wpX_tenant; dsimp only
      exact xl_ten1 ht (br_f n0 (br_f e0 (br_f e6 (br_f c0 (br_f c1 (br_f c2 (br_f c3 (br_f c4 (br_t c5 ⟨vt, by rw [et]; exact h⟩)))))))))
    · unfold wpY_tenant; dsimp only
      refine yl_ten1 ht (br_f n0 (br_f e0 (br_f e6 (br_f c0 (br_f c1 (br_f c2 (br_f c3 (br_f c4 (br_t c5 (yl_fns (by omega) b2 b1 ?_))))))))))
      rw [b4, b5] at h
      exact h
  by_cases c6 : v2 = 6
  · refine fin (gc (nI t).toNatClampNeg) (fun post h => ?_) (fun post h => ?_)
    · unfold wpX_tenant; dsimp only
      exact xl_ten1 ht (br_f n0 (br_f e0 (br_f e6 (br_f c0 (br_f c1 (br_f c2 (br_f c3 (br_f c4 (br_f c5 (br_t c6 ⟨vt, h⟩))))))))))
    · unfold wpY_tenant; dsimp only
      exact yl_ten1 ht (br_f n0 (br_f e0 (br_f e6 (br_f c0 (br_f c1 (br_f c2 (br_f c3 (br_f c4 (br_f c5 (br_t c6 ⟨vt, h⟩))))))))))
  · unfold wpX_tenant; dsimp only
    exact xl_ten1 ht (br_f n0 (br_f e0 (br_f e6 (br_f c0 (br_f c1 (br_f c2 (br_f c3 (br_f c4 (br_f c5 (br_f c6 trivial))))))))))
theorem ru_loop (hd : rl_d tc fd) : ∀ d i : Nat, i + d = 4 → ∀ ux : Nat → Int32, ∃ ux' : Nat → Int32,
    (∀ t, (t < i ∨ 4 ≤ t) → ux' t = ux t) ∧ (∀ t, i ≤ t → t < 4 → (ts t = 2 → nf_t fd ft t → ux' t = 0) ∧ (¬ (ts t = 2 ∧ nf_t fd ft t) → ux' t = ux t)) ∧
    (∀ post : SX → Prop, post (q, tn, sl, pc, wp, he, co, ca, cb, fs, fc, ts, tu, ux', tl, ul, tm, gc, ga, gp, ss, st, sf, tc, tr, ow, ti, fd, ft, fk, fn, fh, fl, fv, rs, nt) → wX_releaseUnitsOfKilled_2 post q tn sl pc wp (d + 1) (nI i) he co ca cb fs fc ts tu ux tl ul tm gc ga gp ss st sf tc tr ow ti fd ft fk fn fh fl fv rs nt) := by
  intro d
  induction d with
  | zero =>
    intro i hi ux
    have : i = 4 := by omega
    subst this
    exact ⟨ux, fun _ _ => rfl, fun t h1 h2 => absurd h2 (by omega), fun _ h => br_t (by decide) h⟩
  | succ d ih =>
    intro i hi ux
    have ei : (nI i).toNatClampNeg = i := nI_clamp (by omega)
    have vi : vp_in (nI i) 4 := vp_in_nI (by omega) (by decide)
    have n : ¬ (4 : Int32) ≤ nI i := ix_ge 4 rfl (by omega) (by decide)
    have fl1 := fr_cl fd ft (nI i) 36
    by_cases c1 : ts i = 2
    · by_cases c2 : fr_c fd ft (nI i) 36 = 0
      · obtain ⟨ux', h1, h2, h3⟩ := ih (i + 1) (by omega) (upd ux i 0)
        refine ⟨ux', fun t ht => ?_, fun t l1 l2 => ?_, fun post h => ?_⟩
        · rw [h1 t (by omega), pk_un (by omega)]
        · by_cases ct : t = i
          · subst ct
            have e : ux' t = 0 := by rw [h1 t (by omega), pk_us]
            exact ⟨fun _ _ => e, fun z => absurd ⟨c1, (fr_nf hd t).mp c2⟩ z⟩
          · have z := h2 t (by omega) l2
            rw [pk_un ct] at z
            exact z
        · refine br_f n ⟨vi, br_t (by rw [ei]; exact c1) (xl_frames hd ?_)⟩
          rw [c2]
          exact br_t rfl ⟨vi, nm_r (by rw [ei]) (nm_r (nI_1 i) (h3 post h))⟩
      · obtain ⟨ux', h1, h2, h3⟩ := ih (i + 1) (by omega) ux
        refine ⟨ux', fun t ht => h1 t (by omega), fun t l1 l2 => ?_, fun post h => ?_⟩
        · by_cases ct : t = i
          · subst ct
            exact ⟨fun _ z => absurd ((fr_nf hd t).mpr z) c2, fun _ => h1 t (by omega)⟩
          · exact h2 t (by omega) l2
        · refine br_f n ⟨vi, br_t (by rw [ei]; exact c1) (xl_frames hd ?_)⟩
          exact br_f (nI_ne0 (by omega) (by omega)) (nm_r (nI_1 i) (h3 post h))
    · obtain ⟨ux', h1, h2, h3⟩ := ih (i + 1) (by omega) ux
      refine ⟨ux', fun t ht => h1 t (by omega), fun t l1 l2 => ?_, fun post h => ?_⟩
      · by_cases ct : t = i
        · subst ct
          exact ⟨fun z => absurd z c1, fun _ => h1 t (by omega)⟩
        · exact h2 t (by omega) l2
      · exact br_f n ⟨vi, br_f (by rw [ei]; exact c1) (nm_r (nI_1 i) (h3 post h))⟩
theorem ru_all (hd : rl_d tc fd) : ∃ ux' : Nat → Int32, (∀ t, t < 4 → (ts t = 2 → nf_t fd ft t → ux' t = 0) ∧ (¬ (ts t = 2 ∧ nf_t fd ft t) → ux' t = ux t)) ∧
    (∀ post : SX → Prop, post (q, tn, sl, pc, wp, he, co, ca, cb, fs, fc, ts, tu, ux', tl, ul, tm, gc, ga, gp, ss, st, sf, tc, tr, ow, ti, fd, ft, fk, fn, fh, fl, fv, rs, nt) → wpX_releaseUnitsOfKilled post (q, tn, sl, pc, wp, he, co, ca, cb, fs, fc, ts, tu, ux, tl, ul, tm, gc, ga, gp, ss, st, sf, tc, tr, ow, ti, fd, ft, fk, fn, fh, fl, fv, rs, nt)) := by
  obtain ⟨ux', h1, h2, h3⟩ := ru_loop (q := q) (tn := tn) (sl := sl) (pc := pc) (wp := wp) (he := he) (co := co) (ca := ca) (cb := cb) (fs := fs) (fc := fc) (ts := ts) (tu := tu) (tl := tl) (ul := ul) (tm := tm) (gc := gc) (ga := ga) (gp := gp) (ss := ss) (st := st) (sf := sf) (tc := tc) (tr := tr) (ow := ow) (ti := ti) (fd := fd) (ft := ft) (fk := fk) (fn := fn) (fh := fh) (fl := fl) (fv := fv) (rs := rs) (nt := nt) hd 4 0 rfl ux
  exact ⟨ux', fun t ht => h2 t (by omega) ht, fun post h => ⟨5, h3 post h⟩⟩
/-- the state of a tenant's bundle says whether it is killed -/
theorem ts_2 {H : Nat → Nat → Nat → Prop} {t : Nat} (h : rl_bt H le fc ts kl fs co ca cb t) : ts t = 2 ↔ kl t ≠ 0 := by
  obtain ⟨n, c, b1, b2, b3, b4, b5, b6, b7, b8, b9, b10, b11⟩ := h
  rw [b8]
  by_cases cn : n = 0
  · rw [if_pos cn]
    exact ⟨fun z => absurd z (by decide), fun z => absurd (b7 cn) z⟩
  · rw [if_neg cn]
    by_cases ck : kl t = 0
    · rw [if_pos ck]
      exact ⟨fun z => absurd z (by decide), fun z => absurd ck z⟩
    · rw [if_neg ck]
      exact ⟨fun _ => ck, fun _ => rfl⟩
theorem i_vc_kill {k : Nat} {u : SX} {v : SY} (I : i_Rel k u v) (hk : k + 5 ≤ 2561) (v1 : Int32) : wpX_kill (fun r u' => wpY_kill (fun r' v' => r' = r ∧ i_Rel (k + 5) u' v') v v1) u v1 := by
  have I5 := i_up I
  obtain ⟨H, q, tn, sl, pc, wp, yd, nd, he, co, ca, cb, fs, fc, ts, tu, ux, tl, ul, tm, gc, ga, gp, ss, st, sf, tc, tr, ow, ti, fd, ft, fk, fn, fh, fl, fv, rs, nt, le, kl, uy, fp, fz, au, rfl, rfl, a1, a2, a3, a4, a5, a6, a7, a8, a9, a10⟩ := I
  have n0 : ¬ (1 : Int32) = 0 := by decide
  have fin : ∀ (r : Int32) (u' : SX) (v' : SY), i_Rel (k + 5) u' v' → (∀ post : Int32 → SX → Prop, post r u' → wpX_kill post (q, tn, sl, pc, wp, he, co, ca, cb, fs, fc, ts, tu, ux, tl, ul, tm, gc, ga, gp, ss, st, sf, tc, tr, ow, ti, fd, ft, fk, fn, fh, fl, fv, rs, nt) v1) → (∀ post : Int32 → SY → Prop, post r v' → wpY_kill post (q, wp, tn, sl, yd, nd, co, ca, cb, le, he, kl, tu, uy, tl, ul, tm, gc, ga, gp, ss, st, sf, fd, tc, tr, ow, ti, ft, fn, fh, fp, fz, fl, fv, rs, au) v1) →
      wpX_kill (fun r u' => wpY_kill (fun r' v' => r' = r ∧ i_Rel (k + 5) u' v') (q, wp, tn, sl, yd, nd, co, ca, cb, le, he, kl, tu, uy, tl, ul, tm, gc, ga, gp, ss, st, sf, fd, tc, tr, ow, ti, ft, fn, fh, fp, fz, fl, fv, rs, au) v1) (q, tn, sl, pc, wp, he, co, ca, cb, fs, fc, ts, tu, ux, tl, ul, tm, gc, ga, gp, ss, st, sf, tc, tr, ow, ti, fd, ft, fk, fn, fh, fl, fv, rs, nt) v1 := fun r u' v' h1 h2 h3 => h2 _ (h3 _ ⟨rfl, h1⟩)
  rcases ten_c v1 with c | ⟨t, ht, rfl⟩
  · refine fin 0 _ _ I5 (fun post h => ?_) (fun post h => ?_)
    · unfold wpX_kill; dsimp only
      exact xl_ten0 c (br_t rfl h)
    · unfold wpY_kill; dsimp only
      exact yl_ten0 c (br_t rfl h)
  have vt : vp_in (nI t) 4 := vp_in_nI ht (by decide)
  have vt5 : vp_in (nI t) 5 := vp_in_nI (by omega) (by decide)
  have et : (nI t).toNatClampNeg = t := nI_clamp (by omega)
  have hd := rl_td a7
  have B := a4 t ht
  obtain ⟨n, c, b1, b2, b3, b4, b5, b6, b7, b8, b9, b10, b11⟩ := B
  by_cases cn : n = 0
  · refine fin 0 _ _ I5 (fun post h => ?_) (fun post h => ?_)
    · unfold wpX_kill; dsimp only
      refine xl_ten1 ht (br_f n0 ⟨vt, br_f ?_ h⟩)
      rw [et, b8, if_pos cn]; decide
    · unfold wpY_kill; dsimp only
      refine yl_ten1 ht (br_f n0 ⟨vt5, br_t ?_ h⟩)
      rw [et, b2, cn]; rfl
  by_cases ck : kl t = 0
  · have b8' : ts t = 1 := by rw [b8, if_neg cn, if_pos ck]
    obtain ⟨ux', r1, r2⟩ := ru_all (q := q) (tn := tn) (sl := sl) (pc := pc) (wp := wp) (he := he) (co := co) (ca := ca) (cb := cb) (fs := fs) (fc := fc) (tu := tu) (ux := ux) (tl := tl) (ul := ul) (tm := tm) (gc := gc) (ga := ga) (gp := gp) (ss := ss) (st := st) (sf := sf) (tc := tc) (tr := tr) (ow := ow) (ti := ti) (fd := fd) (ft := ft) (fk := fk) (fn := fn) (fh := fh) (fl := fl) (fv := fv) (rs := rs) (nt := nt) (ts := upd ts t 2) hd
    refine fin 1 (q, tn, sl, pc, wp, he, co, ca, cb, fs, fc, upd ts t 2, tu, ux', tl, ul, tm, gc, ga, gp, ss, st, sf, tc, tr, ow, ti, fd, ft, fk, fn, fh, fl, fv, rs, nt) (q, wp, tn, sl, yd, nd, co, ca, cb, le, he, upd kl t 1, tu, uy, tl, ul, tm, gc, ga, gp, ss, st, sf, fd, tc, tr, ow, ti, ft, fn, fh, fp, fz, fl, fv, rs, au) (mk_rel ⟨a1, a2, a3, ?_, a5, a6, a7, a8, ?_, rl_nU a10 (by omega)⟩) (fun post h => ?_) (fun post h => ?_)
    · intro s hs
      by_cases cs : s = t
      · subst cs
        refine ⟨n, c, b1, b2, b3, b4, b5, Or.inr pk_us, fun z => absurd z cn, ?_, b9, b10, b11⟩
        rw [pk_us, pk_us, if_neg cn, if_neg n0]
      · obtain ⟨n', c', q1, q2, q3, q4, q5, q6, q7, q8, q9, q10, q11⟩ := a4 s hs
        exact ⟨n', c', q1, q2, q3, q4, q5, by rw [pk_un cs]; exact q6, by rw [pk_un cs]; exact q7, by rw [pk_un cs, pk_un cs]; exact q8, q9, q10, q11⟩
    · intro s hs
      obtain ⟨u1, u2⟩ := a9 s hs
      obtain ⟨w1, w2⟩ := r1 s hs
      by_cases cs : s = t
      · subst cs
        rw [pk_us] at w1 w2
        refine ⟨fun _ z => w1 rfl z, fun z => ?_⟩
        have zn : ¬ nf_t fd ft s := fun y => z ⟨by rw [pk_us]; exact n0, y⟩
        rw [w2 (fun y => zn y.2)]
        exact u2 (fun y => zn y.2)
      · have e2 := ts_2 (a4 s hs)
        rw [pk_un cs] at w1 w2
        refine ⟨fun z1 z2 => ?_, fun z => ?_⟩
        · rw [pk_un cs] at z1
          exact w1 (e2.mpr z1) z2
        · rw [pk_un cs] at z
          rw [w2 (fun y => z ⟨e2.mp y.1, y.2⟩)]
          exact u2 z
    · unfold wpX_kill; dsimp only
      refine xl_ten1 ht (br_f n0 ⟨vt, br_t (by rw [et]; exact b8') ⟨vt, nm_r (e' := upd ts t 2) (by rw [et]) (r2 _ h)⟩⟩)
    · unfold wpY_kill; dsimp only
      refine yl_ten1 ht (br_f n0 ⟨vt5, br_f ?_ ⟨vt, br_t (by rw [et]; exact ck) ⟨vt, nm_r (e' := upd kl t 1) (by rw [et, ix_bn1]) h⟩⟩⟩)
      rw [et, b2]
      exact nI_ne0 (by omega) (by omega)
  · refine fin 0 _ _ I5 (fun post h => ?_) (fun post h => ?_)
    · unfold wpX_kill; dsimp only
      refine xl_ten1 ht (br_f n0 ⟨vt, br_f ?_ h⟩)
      rw [et, b8, if_neg cn, if_neg ck]; decide
    · unfold wpY_kill; dsimp only
      refine yl_ten1 ht (br_f n0 ⟨vt5, br_f ?_ ⟨vt, br_f (by rw [et]; exact ck) h⟩⟩)
      rw [et, b2]
      exact nI_ne0 (by omega) (by omega)
end
