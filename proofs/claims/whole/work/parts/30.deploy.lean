section
variable {q tn sl pc wp yd nd : Int32} {he co ca cb fs fc ts tu ux tl ul tm gc ga gp ss st sf tc tr ow ti fd ft fk fn fh fl fv rs nt le kl uy fp fz au : Nat → Int32}
theorem dp_no {M N : Nat} {H : Nat → Nat → Nat → Prop} {wp' : Int32} {h' : Nat → Int32} (hMN : M ≤ N) (R : rl_R M H q tn sl pc wp yd nd he co ca cb fs fc ts tu ux tl ul tm gc ga gp ss st sf tc tr ow ti fd ft fk fn fh fl fv rs nt le kl uy fp fz au) : rl_R N H q tn sl 0 wp' yd nd h' co ca cb fs fc ts tu ux tl ul tm gc ga gp ss st sf tc tr ow ti fd ft fk fn fh fl fv rs nt (upd le 4 0) kl uy fp fz au := by
  obtain ⟨a1, a2, a3, a4, a5, a6, a7, a8, a9, a10⟩ := R
  refine ⟨a1, a2, ⟨0, by decide, rfl, pk_us⟩, fun t ht => ?_, a5, a6, a7, a8, a9, rl_nU a10 hMN⟩
  obtain ⟨n, c, b1, b2, b⟩ := a4 t ht
  exact ⟨n, c, b1, by rw [pk_un (by omega)]; exact b2, b⟩
theorem dp_ok {M N n t : Nat} {H : Nat → Nat → Nat → Prop} {wp' : Int32} {h' fs' : Nat → Int32} (hMN : M ≤ N) (R : rl_R M H q tn sl pc wp yd nd he co ca cb fs fc ts tu ux tl ul tm gc ga gp ss st sf tc tr ow ti fd ft fk fn fh fl fv rs nt le kl uy fp fz au) (hn : n ≤ 64) (n0 : n ≠ 0) (ht : t < 4) (hnf : nf_t fd ft t) (h0 : co 256 = 0) (hw : ∀ j, j < n → wf_P co ca cb n j) (hbit : ∀ j, j < n → co (256 + j) = 0 → bt (h' j) 0 = true)
    (hfix : ∀ j, j < n → fi_h co ca h' n j = h') (hso : ∀ j, j < n → so_P co ca h' n j (op_n co j)) (hfs : fn_P co fs' fs t n) :
    rl_R N (fun s i b => (s = t ∧ hn_P h' n i b) ∨ (s ≠ t ∧ H s i b)) q tn sl 0 wp' yd nd h' (cp_f co t n) (cp_f ca t n) (cp_f cb t n) fs' (upd fc t (nI (cf_n co 256 n))) (upd ts t 1) (upd tu t 0) (upd ux t 0) tl ul tm gc ga gp ss st sf tc tr ow ti fd ft fk fn fh fl fv rs nt (upd (upd le 4 0) t (nI n)) (upd kl t 0) (upd uy t 0) fp fz au := by
  obtain ⟨a1, a2, a3, a4, a5, a6, a7, a8, a9, a10⟩ := R
  refine ⟨a1, a2, ⟨0, by decide, rfl, by rw [pk_un (by omega), pk_us]; rfl⟩, fun s hs => ?_, a5, a6, fun k hk => ?_, a8, fun s hs => ?_, rl_nU a10 hMN⟩
  · by_cases cs : s = t
    · subst cs
      have mono : ∀ i b, hn_P h' n i b → ((s = s ∧ hn_P h' n i b) ∨ (s ≠ s ∧ H s i b)) := fun i b z => Or.inl ⟨rfl, z⟩
      refine ⟨n, cf_n co 256 n, hn, pk_us, cf_4 n hw, pk_us, (cp_cf n (Nat.le_refl _)).symm, Or.inl pk_us, fun z => absurd z n0, ?_, fun f hf => ?_, fun i hi e => ?_, fun i b hH => ?_⟩
      · rw [pk_us, pk_us, if_neg n0, if_pos rfl]
      · obtain ⟨j, j1, j2, j3, j4⟩ := hfs.1 f hf
        exact ⟨j, j1, j2, by rw [cp_in j1]; exact j3, by rw [cp_cf j (by omega)]; exact j4⟩
      · rw [cp_in hi] at e
        exact mono i 0 ⟨hi, by decide, hbit i hi e⟩
      · have z : hn_P h' n i b := hH.elim (fun x => x.2) (fun x => absurd rfl x.1)
        exact bu_mo (bu_new hn h0 hw hfix hso z) mono rfl rfl rfl
    · obtain ⟨m, c, b1, b2, b3, b4, b5, b6, b7, b8, b9, b10, b11⟩ := a4 s hs
      have g : ∀ (f : Nat → Int32) (i : Nat), i < m → cp_f f t n (64 * s + i) = f (64 * s + i) := fun f i hi => cp_un (by omega)
      have gcf : ∀ j, j ≤ m → cf_n (cp_f co t n) (64 * s) j = cf_n co (64 * s) j := by
        intro j
        induction j with
        | zero => intro _; rfl
        | succ j ih => intro hj; simp only [cf_n]; rw [ih (by omega), g _ _ (by omega)]
      refine ⟨m, c, b1, by rw [pk_un cs, pk_un (by omega)]; exact b2, b3, by rw [pk_un cs]; exact b4, by rw [gcf m (Nat.le_refl _)]; exact b5, by rw [pk_un cs]; exact b6, by rw [pk_un cs]; exact b7, by rw [pk_un cs, pk_un cs]; exact b8, fun f hf => ?_, fun i hi e => ?_, fun i b hH => ?_⟩
      · obtain ⟨i, h1, h2, h3, h4⟩ := b9 f hf
        exact ⟨i, h1, by rw [hfs.2 _ (by omega)]; exact h2, by rw [g _ _ h1]; exact h3, by rw [gcf i (by omega)]; exact h4⟩
      · rw [g _ _ hi] at e
        exact Or.inr ⟨cs, b10 i hi e⟩
      · have z : H s i b := hH.elim (fun x => absurd x.1 cs) (fun x => x.2)
        have z' := b11 i b z
        exact bu_mo z' (fun i b y => Or.inr ⟨cs, y⟩) (g _ _ z'.1) (g _ _ z'.1) (g _ _ z'.1)
  · exact th_H hk hnf (fun s i b hst z => Or.inr ⟨hst, z⟩) (a7 k hk)
  · obtain ⟨u1, u2⟩ := a9 s hs
    by_cases cs : s = t
    · subst cs
      exact ⟨fun z => absurd pk_us z, fun _ => by rw [pk_us, pk_us]⟩
    · refine ⟨fun z1 z2 => ?_, fun z => ?_⟩
      · rw [pk_un cs] at z1
        rw [pk_un cs]
        exact u1 z1 z2
      · rw [pk_un cs] at z
        rw [pk_un cs, pk_un cs]
        exact u2 z
theorem i_vc_deploy {k : Nat} {u : SX} {v : SY} (I : i_Rel k u v) (hk : k + 5 ≤ 2561) (v1 : Int32) : wpX_deploy (fun r u' => wpY_deploy (fun r' v' => r' = r ∧ i_Rel (k + 5) u' v') v v1) u v1 := by
  obtain ⟨H, q, tn, sl, pc, wp, yd, nd, he, co, ca, cb, fs, fc, ts, tu, ux, tl, ul, tm, gc, ga, gp, ss, st, sf, tc, tr, ow, ti, fd, ft, fk, fn, fh, fl, fv, rs, nt, le, kl, uy, fp, fz, au, rfl, rfl, a1, a2, a3, a4, a5, a6, a7, a8, a9, a10⟩ := I
  have n0 : ¬ (1 : Int32) = 0 := by decide
  have fin : ∀ (r : Int32) (u' : SX) (v' : SY), i_Rel (k + 5) u' v' → (∀ post : Int32 → SX → Prop, post r u' → wpX_deploy post (q, tn, sl, pc, wp, he, co, ca, cb, fs, fc, ts, tu, ux, tl, ul, tm, gc, ga, gp, ss, st, sf, tc, tr, ow, ti, fd, ft, fk, fn, fh, fl, fv, rs, nt) v1) → (∀ post : Int32 → SY → Prop, post r v' → wpY_deploy post (q, wp, tn, sl, yd, nd, co, ca, cb, le, he, kl, tu, uy, tl, ul, tm, gc, ga, gp, ss, st, sf, fd, tc, tr, ow, ti, ft, fn, fh, fp, fz, fl, fv, rs, au) v1) →
      wpX_deploy (fun r u' => wpY_deploy (fun r' v' => r' = r ∧ i_Rel (k + 5) u' v') (q, wp, tn, sl, yd, nd, co, ca, cb, le, he, kl, tu, uy, tl, ul, tm, gc, ga, gp, ss, st, sf, fd, tc, tr, ow, ti, ft, fn, fh, fp, fz, fl, fv, rs, au) v1) (q, tn, sl, pc, wp, he, co, ca, cb, fs, fc, ts, tu, ux, tl, ul, tm, gc, ga, gp, ss, st, sf, tc, tr, ow, ti, fd, ft, fk, fn, fh, fl, fv, rs, nt) v1 := fun r u' v' h1 h2 h3 => h2 _ (h3 _ ⟨rfl, h1⟩)
  rcases ten_c v1 with c | ⟨t, ht, rfl⟩
  · refine fin (-1) (q, tn, sl, pc, -1, he, co, ca, cb, fs, fc, ts, tu, ux, tl, ul, tm, gc, ga, gp, ss, st, sf, tc, tr, ow, ti, fd, ft, fk, fn, fh, fl, fv, rs, nt) (q, -1, tn, sl, yd, nd, co, ca, cb, le, he, kl, tu, uy, tl, ul, tm, gc, ga, gp, ss, st, sf, fd, tc, tr, ow, ti, ft, fn, fh, fp, fz, fl, fv, rs, au) (mk_rel ⟨a1, a2, a3, a4, a5, a6, a7, a8, a9, rl_nU a10 (by omega)⟩) (fun post h => ?_) (fun post h => ?_)
    · unfold wpX_deploy; dsimp only
      exact xl_ten0 c (br_t rfl h)
    · unfold wpY_deploy; dsimp only
      exact yl_ten0 c (br_t rfl h)
  have hd := rl_td a7
  obtain ⟨n, hn, hpc, hle⟩ := id a3
  have fl1 := fr_cl fd ft (nI t) 36
  by_cases cf : fr_c fd ft (nI t) 36 = 0
  · have hnf := (fr_nf hd t).mp cf
    obtain ⟨r, wp', h', jx, jy, jr⟩ := jd_all (q := q) (tn := tn) (sl := sl) (pc := pc) (yd := yd) (nd := nd) (he := he) (co := co) (ca := ca) (cb := cb) (fs := fs) (fc := fc) (ts := ts) (tu := tu) (ux := ux) (tl := tl) (ul := ul) (tm := tm) (gc := gc) (ga := ga) (gp := gp) (ss := ss) (st := st) (sf := sf) (tc := tc) (tr := tr) (ow := ow) (ti := ti) (fd := fd) (ft := ft) (fk := fk) (fn := fn) (fh := fh) (fl := fl) (fv := fv) (rs := rs) (nt := nt) (le := le) (kl := kl) (uy := uy) (fp := fp) (fz := fz) (au := au) (wp := -1) hpc hle hn
    by_cases cr : r = 0
    · obtain ⟨m0, h0, hw, hbit, hfix, hso⟩ := jr cr
      subst cr
      obtain ⟨fs', q1, q2⟩ := xn_loop (q := q) (tn := tn) (sl := sl) (pc := pc) (co := co) (ca := ca) (cb := cb) (fc := fc) (ts := ts) (tu := tu) (ux := ux) (tl := tl) (ul := ul) (tm := tm) (gc := gc) (ga := ga) (gp := gp) (ss := ss) (st := st) (sf := sf) (tc := tc) (tr := tr) (ow := ow) (ti := ti) (fd := fd) (ft := ft) (fk := fk) (fn := fn) (fh := fh) (fl := fl) (fv := fv) (rs := rs) (nt := nt) (wp := wp') (he := h') (fs0 := fs) hpc hn ht hw n 0 fs (by omega) ⟨fun f hf => absurd hf (Nat.not_lt_zero f), fun _ _ => rfl⟩
      refine fin 0 (q, tn, sl, 0, wp', h', cp_f co t n, cp_f ca t n, cp_f cb t n, fs', upd fc t (nI (cf_n co 256 n)), upd ts t 1, upd tu t 0, upd ux t 0, tl, ul, tm, gc, ga, gp, ss, st, sf, tc, tr, ow, ti, fd, ft, fk, fn, fh, fl, fv, rs, nt) (q, wp', tn, sl, yd, nd, cp_f co t n, cp_f ca t n, cp_f cb t n, upd (upd le 4 0) t (nI n), h', upd kl t 0, upd tu t 0, upd uy t 0, tl, ul, tm, gc, ga, gp, ss, st, sf, fd, tc, tr, ow, ti, ft, fn, fh, fp, fz, fl, fv, rs, au) (mk_rel (dp_ok (wp := wp) (he := he) (M := 40 * k) (wp' := wp') (by omega) ⟨a1, a2, a3, a4, a5, a6, a7, a8, a9, a10⟩ hn m0 ht hnf h0 hw hbit hfix hso q1)) (fun post h => ?_) (fun post h => ?_)
      · unfold wpX_deploy; dsimp only
        refine xl_ten1 ht (br_f n0 (xl_frames hd ?_))
        rw [cf]
        refine br_t rfl (jx _ (br_t rfl ?_))
        have k2 := q2 (fun u => match u with | (q, tn, sl, pc, wp, he, co, ca, cb, fs, fc, ts, tu, ux, tl, ul, tm, gc, ga, gp, ss, st, sf, tc, tr, ow, ti, fd, ft, fk, fn, fh, fl, fv, rs, nt) => post 0 (q, tn, sl, 0, wp, he, co, ca, cb, fs, fc, ts, tu, ux, tl, ul, tm, gc, ga, gp, ss, st, sf, tc, tr, ow, ti, fd, ft, fk, fn, fh, fl, fv, rs, nt)) h
        rw [cp_0, cp_0, cp_0] at k2
        exact nm_r (ix_m 64 rfl t) ⟨n + 1, k2⟩
      · unfold wpY_deploy; dsimp only
        refine yl_ten1 ht (br_f n0 (yl_frames hd ?_))
        rw [cf]
        have k2 := yn_loop (q := q) (tn := tn) (sl := sl) (yd := yd) (nd := nd) (co := co) (ca := ca) (cb := cb) (kl := kl) (tu := tu) (uy := uy) (tl := tl) (ul := ul) (tm := tm) (gc := gc) (ga := ga) (gp := gp) (ss := ss) (st := st) (sf := sf) (fd := fd) (tc := tc) (tr := tr) (ow := ow) (ti := ti) (ft := ft) (fn := fn) (fh := fh) (fp := fp) (fz := fz) (fl := fl) (fv := fv) (rs := rs) (au := au) (wp := wp') (he := h') (le := upd le 4 0) hn ht (post := post) h n 0 (by omega)
        rw [cp_0, cp_0, cp_0] at k2
        exact br_t (by decide) (jy _ (nm_r hle (nm_e (br_t rfl ⟨n + 1, k2⟩))))
    · refine fin r (q, tn, sl, 0, wp', h', co, ca, cb, fs, fc, ts, tu, ux, tl, ul, tm, gc, ga, gp, ss, st, sf, tc, tr, ow, ti, fd, ft, fk, fn, fh, fl, fv, rs, nt) (q, wp', tn, sl, yd, nd, co, ca, cb, upd le 4 0, h', kl, tu, uy, tl, ul, tm, gc, ga, gp, ss, st, sf, fd, tc, tr, ow, ti, ft, fn, fh, fp, fz, fl, fv, rs, au) (mk_rel (dp_no (wp := wp) (he := he) (pc := pc) (le := le) (M := 40 * k) (wp' := wp') (h' := h') (by omega) ⟨a1, a2, a3, a4, a5, a6, a7, a8, a9, a10⟩)) (fun post h => ?_) (fun post h => ?_)
      · unfold wpX_deploy; dsimp only
        refine xl_ten1 ht (br_f n0 (xl_frames hd ?_))
        rw [cf]
        exact br_t rfl (jx _ (br_f cr h))
      · unfold wpY_deploy; dsimp only
        refine yl_ten1 ht (br_f n0 (yl_frames hd ?_))
        rw [cf]
        exact br_t (by decide) (jy _ (nm_r hle (nm_e (br_f cr h))))
  · refine fin 3 (q, tn, sl, 0, -1, he, co, ca, cb, fs, fc, ts, tu, ux, tl, ul, tm, gc, ga, gp, ss, st, sf, tc, tr, ow, ti, fd, ft, fk, fn, fh, fl, fv, rs, nt) (q, -1, tn, sl, yd, nd, co, ca, cb, upd le 4 0, he, kl, tu, uy, tl, ul, tm, gc, ga, gp, ss, st, sf, fd, tc, tr, ow, ti, ft, fn, fh, fp, fz, fl, fv, rs, au) (mk_rel (dp_no (wp := wp) (he := he) (pc := pc) (le := le) (M := 40 * k) (wp' := -1) (h' := he) (by omega) ⟨a1, a2, a3, a4, a5, a6, a7, a8, a9, a10⟩)) (fun post h => ?_) (fun post h => ?_)
    · unfold wpX_deploy; dsimp only
      exact xl_ten1 ht (br_f n0 (xl_frames hd (br_f (nI_ne0 (by omega) (by omega)) (br_f (by decide) h))))
    · unfold wpY_deploy; dsimp only
      exact yl_ten1 ht (br_f n0 (yl_frames hd (br_f (nI_nle (by omega) (by omega)) (nm_e (nm_e (br_f (by decide) h))))))
end
