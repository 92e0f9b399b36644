theorem fr_cg {H : Nat → Nat → Nat → Prop} {ft fn fh ft' fn' fh' : Nat → Int32} {x e : Nat} (h : fr_ok H ft fn fh x e) (e1 : ft' x = ft x) (e2 : fn' x = fn x) (e3 : fh' x = fh x) : fr_ok H ft' fn' fh' x e := by
  obtain ⟨t, i, hh, z1, z2, z3, z4, z5⟩ := h
  exact ⟨t, i, hh, z1, by rw [e1]; exact z2, by rw [e2]; exact z3, by rw [e3]; exact z4, z5⟩
theorem tl_cg {H : Nat → Nat → Nat → Prop} {ft fn fh fz ft' fn' fh' fz' : Nat → Int32} {k d : Nat} (h0 : 0 < d) (h : th_lo H ft fn fh fz k d) (e1 : ∀ j, j + 1 < d → ft' (6 * k + j) = ft (6 * k + j)) (e2 : ∀ j, j + 1 < d → fn' (6 * k + j) = fn (6 * k + j)) (e3 : ∀ j, j + 1 < d → fh' (6 * k + j) = fh (6 * k + j)) (e4 : ∀ j, j < d → fz' (6 * k + j) = fz (6 * k + j)) : th_lo H ft' fn' fh' fz' k d := by
  refine ⟨?_, fun j hj => ?_⟩
  · have := e4 0 h0
    rw [Nat.add_zero] at this
    rw [this]
    exact h.1
  · rw [show 6 * k + j + 1 = 6 * k + (j + 1) by omega, e4 (j + 1) hj]
    exact fr_cg (h.2 j hj) (e1 j hj) (e2 j hj) (e3 j hj)
theorem th_cg {H : Nat → Nat → Nat → Prop} {ft fn fh fz tc fd ft' fn' fh' fz' tc' fd' : Nat → Int32} {k : Nat} (h : th_ok H ft fn fh fz tc fd k) (e1 : ∀ j, j < 6 → ft' (6 * k + j) = ft (6 * k + j)) (e2 : ∀ j, j < 6 → fn' (6 * k + j) = fn (6 * k + j)) (e3 : ∀ j, j < 6 → fh' (6 * k + j) = fh (6 * k + j)) (e4 : ∀ j, j < 6 → fz' (6 * k + j) = fz (6 * k + j)) (e5 : tc' k = tc k) (e6 : fd' k = fd k) : th_ok H ft' fn' fh' fz' tc' fd' k := by
  obtain ⟨d, z1, z2, z3, z4⟩ := h
  refine ⟨d, z1, by rw [e6]; exact z2, by rw [e5]; exact z3, fun h0 => ?_⟩
  obtain ⟨y1, y2⟩ := z4 h0
  exact ⟨tl_cg h0 y1 (fun j hj => e1 j (by omega)) (fun j hj => e2 j (by omega)) (fun j hj => e3 j (by omega)) (fun j hj => e4 j (by omega)), fr_cg y2 (e1 _ (by omega)) (e2 _ (by omega)) (e3 _ (by omega))⟩
/-- a frame of tenant t on top of thread k -/
theorem nf_up {fd ft fd' ft' : Nat → Int32} {k d t s : Nat} (hd : d < 6) (ed : fd k = nI d) (ed' : fd' k = nI (d + 1)) (eo : ∀ j, j ≠ k → fd' j = fd j) (et : ft' (6 * k + d) = nI t) (ex : ∀ x, x ≠ 6 * k + d → ft' x = ft x) :
    (nf_t fd' ft' s → nf_t fd ft s) ∧ (t < 4 → s < 4 → s ≠ t → nf_t fd ft s → nf_t fd' ft' s) := by
  constructor
  · intro h k' hk' d' hd' e j hj
    by_cases ck : k' = k
    · subst ck
      rw [ed, nI_eq (by omega) (by omega)] at e
      have := h k' hk' (d + 1) (by omega) ed' j (by omega)
      rwa [ex _ (by omega)] at this
    · have := h k' hk' d' hd' (by rw [eo k' ck]; exact e) j hj
      rwa [ex _ (by omega)] at this
  · intro ht hs hst h k' hk' d' hd' e j hj
    by_cases ck : k' = k
    · subst ck
      rw [ed', nI_eq (by omega) (by omega)] at e
      by_cases cj : j = d
      · subst cj
        rw [et]
        intro z
        rw [nI_eq (by omega) (by omega)] at z
        exact hst z.symm
      · rw [ex _ (by omega)]
        exact h k' hk' d (by omega) ed j (by omega)
    · rw [ex _ (by omega)]
      exact h k' hk' d' hd' (by rw [← eo k' ck]; exact e) j hj
theorem ru_up {ux uy kl fd ft fd' ft' : Nat → Int32} {k d t : Nat} (h : rl_u ux uy kl fd ft) (ht : t < 4) (hk0 : kl t = 0) (hd : d < 6) (ed : fd k = nI d) (ed' : fd' k = nI (d + 1)) (eo : ∀ j, j ≠ k → fd' j = fd j) (et : ft' (6 * k + d) = nI t) (ex : ∀ x, x ≠ 6 * k + d → ft' x = ft x) : rl_u ux uy kl fd' ft' := by
  intro s hs
  obtain ⟨u1, u2⟩ := h s hs
  obtain ⟨n1, n2⟩ := nf_up (s := s) hd ed ed' eo et ex
  refine ⟨fun z1 z2 => u1 z1 (n1 z2), fun z => u2 (fun y => z ⟨y.1, n2 ht hs (fun c => ?_) y.2⟩)⟩
  subst c
  exact y.1 hk0
theorem rl_tw {tn sl : Int32} {tc : Nat → Int32} (h : rl_tn tn sl tc) : tn = -1 ∨ ∃ k : Nat, k < 6 ∧ tn = nI k := by
  rcases h with e | ⟨k, hk, e, _⟩
  · exact Or.inl e
  · exact Or.inr ⟨k, hk, e⟩
section
variable {q tn sl pc wp yd nd : Int32} {he co ca cb fs fc ts tu ux tl ul tm gc ga gp ss st sf tc tr ow ti fd ft fk fn fh fl fv rs nt le kl uy fp fz au : Nat → Int32}
theorem pr_new {M : Nat} {H : Nat → Nat → Nat → Prop} {k t i : Nat} {tn' sl' s w : Int32} (R : rl_R M H q tn sl pc wp yd nd he co ca cb fs fc ts tu ux tl ul tm gc ga gp ss st sf tc tr ow ti fd ft fk fn fh fl fv rs nt le kl uy fp fz au) (hk : k < 6) (hc : tc k ≠ -1) (ht : t < 4) (hk0 : kl t = 0) (hH : H t i 0)
    (hT : (tn = -1 ∧ tn' = nI k ∧ sl' = q) ∨ (tn ≠ -1 ∧ tn' = tn ∧ sl' = sl)) :
    rl_R M H q tn' sl' pc wp yd nd he co ca cb fs fc ts tu ux tl ul tm gc ga gp ss st sf (upd tc k (-1)) (upd tr k 0) (upd ow k (nI t)) (upd ti k s) (upd (upd fd k 0) k (nI (0 + 1))) (upd ft (6 * k + 0) (nI t)) (upd fk (6 * k + 0) 0) (upd fn (6 * k + 0) (nI i)) (upd fh (6 * k + 0) 0) (lo_4 fl (6 * k + 0) w) fv rs nt le kl uy (upd fp (6 * k + 0) 0) (upd fz (6 * k + 0) 0) au := by
  obtain ⟨a1, a2, a3, a4, a5, a6, a7, a8, a9, a10⟩ := R
  obtain ⟨d, d1, d2, d3, d4⟩ := a7 k hk
  have d0 : d = 0 := by
    rcases Nat.eq_zero_or_pos d with z | z
    · exact z
    · exact absurd (d3.mpr z) hc
  subst d0
  refine ⟨a1, ?_, a3, a4, a5, a6, ?_, ?_, ?_, a10⟩
  · rcases hT with ⟨e, e1, e2⟩ | ⟨e, e1, e2⟩
    · obtain ⟨n, n1, n2, n3⟩ := a1
      exact Or.inr ⟨k, hk, e1, pk_us, n, n1, n2, by rw [e2]; exact n3⟩
    · rcases a2 with z | ⟨k', z1, z2, z3, z4⟩
      · exact absurd z e
      · refine Or.inr ⟨k', z1, by rw [e1]; exact z2, ?_, by rw [e2]; exact z4⟩
        rw [pk_un (fun c => hc (by rw [← c]; exact z3))]
        exact z3
  · intro k' hk'
    by_cases ck : k' = k
    · subst ck
      refine ⟨1, by decide, pk_us, ⟨fun _ => by decide, fun _ => pk_us⟩, fun _ => ⟨⟨?_, fun j hj => absurd hj (by omega)⟩, t, i, 0, ht, pk_us, pk_us, pk_us, hH⟩⟩
      exact pk_us
    · exact th_cg (a7 k' hk') (fun j hj => pk_un (by omega)) (fun j hj => pk_un (by omega)) (fun j hj => pk_un (by omega)) (fun j hj => pk_un (by omega)) (pk_un ck) (by rw [pk_un ck, pk_un ck])
  · intro x hx
    by_cases cx : x = 6 * k + 0
    · subst cx
      exact Or.inl ⟨pk_us, pk_us, pk_us⟩
    · unfold rl_kx
      rw [pk_un cx, pk_un cx, pk_un cx]
      exact a8 x hx
  · exact ru_up (d := 0) (k := k) (t := t) a9 ht hk0 (by decide) d2 pk_us (fun j hj => by rw [pk_un hj, pk_un hj]) pk_us (fun x hx => pk_un hx)
theorem xl_ce0 {post : Int32 → Prop} {t : Nat} {f : Int32} (ht : t < 4) (h : f < 0 ∨ fc t ≤ f ∨ ts t ≠ 1) (hp : post 0) : wpX_canEnter post (q, tn, sl, pc, wp, he, co, ca, cb, fs, fc, ts, tu, ux, tl, ul, tm, gc, ga, gp, ss, st, sf, tc, tr, ow, ti, fd, ft, fk, fn, fh, fl, fv, rs, nt) (nI t) f := by
  have et : (nI t).toNatClampNeg = t := nI_clamp (by omega)
  have vt : vp_in (nI t) 4 := vp_in_nI ht (by decide)
  by_cases c1 : f < 0
  · exact br_t c1 (br_t rfl hp)
  · by_cases c2 : fc t ≤ f
    · exact br_f c1 ⟨vt, br_t (by rw [et]; exact c2) (br_t rfl hp)⟩
    · have c3 : ts t ≠ 1 := (h.resolve_left c1).resolve_left c2
      exact br_f c1 ⟨vt, br_f (by rw [et]; exact c2) (br_f (by decide) ⟨vt, br_f (by rw [et]; exact c3) hp⟩)⟩
theorem xl_ce1 {post : Int32 → Prop} {t : Nat} {f : Int32} (ht : t < 4) (h1 : ¬ f < 0) (h2 : ¬ fc t ≤ f) (h3 : ts t = 1) (hp : post 1) : wpX_canEnter post (q, tn, sl, pc, wp, he, co, ca, cb, fs, fc, ts, tu, ux, tl, ul, tm, gc, ga, gp, ss, st, sf, tc, tr, ow, ti, fd, ft, fk, fn, fh, fl, fv, rs, nt) (nI t) f := by
  have et : (nI t).toNatClampNeg = t := nI_clamp (by omega)
  have vt : vp_in (nI t) 4 := vp_in_nI ht (by decide)
  exact br_f h1 ⟨vt, br_f (by rw [et]; exact h2) (br_f (by decide) ⟨vt, br_t (by rw [et]; exact h3) hp⟩)⟩
theorem i_vc_start {k : Nat} {u : SX} {v : SY} (I : i_Rel k u v) (hk : k + 5 ≤ 2561) (v1 : Int32) (v2 : Int32) (v3 : Int32) : wpX_start (fun r u' => wpY_start (fun r' v' => r' = r ∧ i_Rel (k + 5) u' v') v v1 v2 v3) u v1 v2 v3 := by
  have I5 := i_up I
  obtain ⟨H, q, tn, sl, pc, wp, yd, nd, he, co, ca, cb, fs, fc, ts, tu, ux, tl, ul, tm, gc, ga, gp, ss, st, sf, tc, tr, ow, ti, fd, ft, fk, fn, fh, fl, fv, rs, nt, le, kl, uy, fp, fz, au, rfl, rfl, a1, a2, a3, a4, a5, a6, a7, a8, a9, a10⟩ := I
  have n0 : ¬ (1 : Int32) = 0 := by decide
  have fin : ∀ (r : Int32) (u' : SX) (v' : SY), i_Rel (k + 5) u' v' → (∀ post : Int32 → SX → Prop, post r u' → wpX_start post (q, tn, sl, pc, wp, he, co, ca, cb, fs, fc, ts, tu, ux, tl, ul, tm, gc, ga, gp, ss, st, sf, tc, tr, ow, ti, fd, ft, fk, fn, fh, fl, fv, rs, nt) v1 v2 v3) → (∀ post : Int32 → SY → Prop, post r v' → wpY_start post (q, wp, tn, sl, yd, nd, co, ca, cb, le, he, kl, tu, uy, tl, ul, tm, gc, ga, gp, ss, st, sf, fd, tc, tr, ow, ti, ft, fn, fh, fp, fz, fl, fv, rs, au) v1 v2 v3) →
      wpX_start (fun r u' => wpY_start (fun r' v' => r' = r ∧ i_Rel (k + 5) u' v') (q, wp, tn, sl, yd, nd, co, ca, cb, le, he, kl, tu, uy, tl, ul, tm, gc, ga, gp, ss, st, sf, fd, tc, tr, ow, ti, ft, fn, fh, fp, fz, fl, fv, rs, au) v1 v2 v3) (q, tn, sl, pc, wp, he, co, ca, cb, fs, fc, ts, tu, ux, tl, ul, tm, gc, ga, gp, ss, st, sf, tc, tr, ow, ti, fd, ft, fk, fn, fh, fl, fv, rs, nt) v1 v2 v3 := fun r u' v' h1 h2 h3 => h2 _ (h3 _ ⟨rfl, h1⟩)
  rcases ten_c v1 with c | ⟨t, ht, rfl⟩
  · refine fin (-1) _ _ I5 (fun post h => ?_) (fun post h => ?_)
    · unfold wpX_start; dsimp only
      exact xl_ten0 c (br_t rfl h)
    · unfold wpY_start; dsimp only
      exact yl_ten0 c (br_t rfl h)
  have vt : vp_in (nI t) 4 := vp_in_nI ht (by decide)
  have et : (nI t).toNatClampNeg = t := nI_clamp (by omega)
  obtain ⟨n, c, b1, b2, b3, b4, b5, b6, b7, b8, b9, b10, b11⟩ := a4 t ht
  have xno : (v2 < 0 ∨ fc t ≤ v2 ∨ ts t ≠ 1) → ∀ post : Int32 → SX → Prop, post (-1) (q, tn, sl, pc, wp, he, co, ca, cb, fs, fc, ts, tu, ux, tl, ul, tm, gc, ga, gp, ss, st, sf, tc, tr, ow, ti, fd, ft, fk, fn, fh, fl, fv, rs, nt) → wpX_start post (q, tn, sl, pc, wp, he, co, ca, cb, fs, fc, ts, tu, ux, tl, ul, tm, gc, ga, gp, ss, st, sf, tc, tr, ow, ti, fd, ft, fk, fn, fh, fl, fv, rs, nt) (nI t) v2 v3 := by
    intro z post h
    unfold wpX_start; dsimp only
    exact xl_ten1 ht (br_f n0 (xl_ce0 ht z (br_t rfl h)))
  by_cases ck : kl t = 0
  · by_cases c1 : v2 < 0
    · refine fin (-1) _ _ I5 (xno (Or.inl c1)) (fun post h => ?_)
      unfold wpY_start; dsimp only
      exact yl_ten1 ht (br_f n0 ⟨vt, br_t (by rw [et]; exact ck) (br_t c1 h)⟩)
    obtain ⟨f, hf, rfl⟩ := nI_of c1
    by_cases c2 : f < c
    · have hn : n ≠ 0 := by
        intro z
        rw [b5, z] at c2
        exact absurd c2 (Nat.not_lt_zero f)
      have hts : ts t = 1 := by rw [b8, if_neg hn, if_pos ck]
      obtain ⟨i, i1, i2, i3, i4⟩ := b9 f c2
      have xy : ∀ post : Int32 → SX → Prop, wpX_beginThread post (q, tn, sl, pc, wp, he, co, ca, cb, fs, fc, ts, tu, ux, tl, ul, tm, gc, ga, gp, ss, st, sf, tc, tr, ow, ti, fd, ft, fk, fn, fh, fl, fv, rs, nt) (nI t) (nI f) v3 0 → wpX_start post (q, tn, sl, pc, wp, he, co, ca, cb, fs, fc, ts, tu, ux, tl, ul, tm, gc, ga, gp, ss, st, sf, tc, tr, ow, ti, fd, ft, fk, fn, fh, fl, fv, rs, nt) (nI t) (nI f) v3 := by
        intro post h
        unfold wpX_start; dsimp only
        exact xl_ten1 ht (br_f n0 (xl_ce1 ht c1 (by rw [b4]; exact nI_ge c2 (by omega)) hts (br_f n0 h)))
      have yy : ∀ post : Int32 → SY → Prop, wpY_begin post (q, wp, tn, sl, yd, nd, co, ca, cb, le, he, kl, tu, uy, tl, ul, tm, gc, ga, gp, ss, st, sf, fd, tc, tr, ow, ti, ft, fn, fh, fp, fz, fl, fv, rs, au) (nI t) (nI f) v3 0 → wpY_start post (q, wp, tn, sl, yd, nd, co, ca, cb, le, he, kl, tu, uy, tl, ul, tm, gc, ga, gp, ss, st, sf, fd, tc, tr, ow, ti, ft, fn, fh, fp, fz, fl, fv, rs, au) (nI t) (nI f) v3 := by
        intro post h
        unfold wpY_start; dsimp only
        refine yl_ten1 ht (br_f n0 ⟨vt, br_t (by rw [et]; exact ck) (br_f c1 (yl_fns (by omega) b2 b1 (br_t ?_ h)))⟩)
        rw [← b5]
        exact nI_lt c2 (by omega)
      rcases bl_all (q := q) (tn := tn) (sl := sl) (pc := pc) (wp := wp) (yd := yd) (nd := nd) (he := he) (co := co) (ca := ca) (cb := cb) (fs := fs) (fc := fc) (ts := ts) (tu := tu) (ux := ux) (tl := tl) (ul := ul) (tm := tm) (gc := gc) (ga := ga) (gp := gp) (ss := ss) (st := st) (sf := sf) (tc := tc) (tr := tr) (ow := ow) (ti := ti) (fd := fd) (ft := ft) (fk := fk) (fn := fn) (fh := fh) (fl := fl) (fv := fv) (rs := rs) (nt := nt) (le := le) (kl := kl) (uy := uy) (fp := fp) (fz := fz) (au := au) (w := v3) (s := 0) (rl_tw a2) ht (by omega) i2 b2 b1 i1 i3 i4 with ⟨x1, y1⟩ | ⟨k', tn', sl', h1, h2, h3, x1, y1⟩
      · exact fin (-1) _ _ I5 (fun post h => xy _ (x1 _ h)) (fun post h => yy _ (y1 _ h))
      · exact fin (nI k') _ _ (mk_rel (pr_new (R := ⟨a1, a2, a3, a4, a5, a6, a7, a8, a9, rl_nU a10 (by omega)⟩) h1 h2 ht ck (b10 i i1 i3) h3)) (fun post h => xy _ (x1 _ h)) (fun post h => yy _ (y1 _ h))
    · refine fin (-1) _ _ I5 (xno (Or.inr (Or.inl (by rw [b4]; exact nI_le (by omega) hf)))) (fun post h => ?_)
      unfold wpY_start; dsimp only
      refine yl_ten1 ht (br_f n0 ⟨vt, br_t (by rw [et]; exact ck) (br_f c1 (yl_fns (by omega) b2 b1 (br_f ?_ h)))⟩)
      rw [← b5]
      exact nI_nlt (by omega) hf
  · refine fin (-1) _ _ I5 (xno (Or.inr (Or.inr ?_))) (fun post h => ?_)
    · rw [b8]
      by_cases cn : n = 0
      · rw [if_pos cn]; decide
      · rw [if_neg cn, if_neg ck]; decide
    · unfold wpY_start; dsimp only
      exact yl_ten1 ht (br_f n0 ⟨vt, br_f (by rw [et]; exact ck) h⟩)
end
