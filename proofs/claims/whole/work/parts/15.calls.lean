theorem rv_up {ux uy kl fd ft fd' ft' : Nat → Int32} {k d t : Nat} (h : rl_v ux uy kl fd ft) (ht : t < 4) (hk0 : kl t = 0) (hd : d < 6) (ed : fd k = nI d) (ed' : fd' k = nI (d + 1)) (eo : ∀ j, j ≠ k → fd' j = fd j) (et : ft' (6 * k + d) = nI t) (ex : ∀ x, x ≠ 6 * k + d → ft' x = ft x) : rl_v ux uy kl fd' ft' := by
  intro s hs z
  obtain ⟨n1, n2⟩ := nf_up (s := s) hd ed ed' eo et ex
  refine h s hs (fun y => z ⟨y.1, n2 ht hs (fun c => ?_) y.2⟩)
  subst c
  exact y.1 hk0
section
variable {q tn sl pc wp yd nd : Int32} {he co ca cb fs fc ts tu ux tl ul tm gc ga gp ss st sf tc tr ow ti fd ft fk fn fh fl fv rs nt le kl uy fp fz au : Nat → Int32}
theorem pr_call {M : Nat} {H : Nat → Nat → Nat → Prop} {k s d t i h o n c w j g e : Nat} {fk' fp' fz' fl' : Nat → Int32} (G : sg_R M H k s d t i h o n c q tn sl pc wp yd nd he co ca cb fs fc ts tu ux tl ul tm gc ga gp ss st sf tc tr ow ti fd ft fk fn fh fl fv rs nt le kl uy fp fz au) (hd : d < 6) (hw : w < 4) (hkw : kl w = 0) (hHw : H w j 0)
    (eK : ∀ y, y ≠ 6 * k + d → fk' y = fk y ∧ fp' y = fp y ∧ fz' y = fz y) (eN : rl_kx fk' fp' fz' (6 * k + d)) (eE : e = if fz' (6 * k + d) = 0 then 1 else 2) (hH : H t (i + 1) (g + e)) :
    md_R (M + 1) k s (q, tn, sl, pc, wp, he, co, ca, cb, fs, fc, ts, upd tu t (tu t + 1), ux, tl, ul, tm, gc, ga, gp, ss, st, sf, tc, tr, ow, ti, upd fd k (nI (d + 1)), upd ft (6 * k + d) (nI w), fk', upd (upd fn (6 * k + (d - 1)) (nI (i + 1))) (6 * k + d) (nI j), upd (upd fh (6 * k + (d - 1)) (nI g)) (6 * k + d) 0, fl', fv, rs, nt) (q, wp, tn, sl, yd, nd, co, ca, cb, le, he, kl, upd tu t (tu t + 1), uy, tl, ul, tm, gc, ga, gp, ss, st, sf, upd fd k (nI (d + 1)), tc, tr, ow, ti, upd ft (6 * k + d) (nI w), upd (upd fn (6 * k + (d - 1)) (nI (i + 1))) (6 * k + d) (nI j), upd (upd fh (6 * k + (d - 1)) (nI g)) (6 * k + d) 0, fp', fz', fl', fv, rs, au) := by
  obtain ⟨C, htn, hsl, hyd, htc, ⟨hk, hd0, hd6, ed, ht, eft, efn, efh, hi, ho, eo⟩, hlo, hO, hK, hV, gg⟩ := G
  refine mk_md (rc_up C) htn hsl (Or.inl ⟨hsl, htc, hyd⟩) ?_ ?_ ?_
  · intro k' hk'
    by_cases ck : k' = k
    · subst ck
      refine ⟨d + 1, by omega, pk_us, ⟨fun _ => by omega, fun _ => htc⟩, fun _ => ⟨⟨?_, fun y hy => ?_⟩, w, j, 0, hw, ?_, ?_, ?_, hHw⟩⟩
      · rw [(eK (6 * k') (by omega)).2.2]; exact hlo.1
      · by_cases cy : y = d - 1
        · subst cy
          rw [show 6 * k' + (d - 1) + 1 = 6 * k' + d by omega, ← eE]
          exact ⟨t, i + 1, g, ht, by rw [pk_un (by omega)]; exact eft, by rw [pk_un (by omega), pk_us], by rw [pk_un (by omega), pk_us], hH⟩
        · rw [(eK (6 * k' + y + 1) (by omega)).2.2]
          exact fr_cg (hlo.2 y (by omega)) (pk_un (by omega)) (by rw [pk_un (by omega), pk_un (by omega)]) (by rw [pk_un (by omega), pk_un (by omega)])
      · rw [show d + 1 - 1 = d by omega, pk_us]
      · rw [show d + 1 - 1 = d by omega, pk_us]
      · rw [show d + 1 - 1 = d by omega, pk_us]; rfl
    · exact th_cg (hO k' hk' ck) (fun y hy => pk_un (by omega)) (fun y hy => by rw [pk_un (by omega), pk_un (by omega)]) (fun y hy => by rw [pk_un (by omega), pk_un (by omega)]) (fun y hy => (eK _ (by omega)).2.2) rfl (pk_un ck)
  · intro x hx
    by_cases cx : x = 6 * k + d
    · subst cx; exact eN
    · obtain ⟨q1, q2, q3⟩ := eK x cx
      unfold rl_kx
      rw [q1, q2, q3]
      exact hK x hx
  · exact rv_up hV hw hkw hd ed pk_us (fun y hy => pk_un hy) pk_us (fun y hy => pk_un hy)
theorem xl_call {post : Int32 → SX → Prop} {k d w f j g : Nat} {kd : Int32} (hk : k < 6) (hd0 : 0 < d) (hd6 : d ≤ 6) (ed : fd k = nI d) (hw : w < 4) (eft : ft (6 * k + (d - 1)) = nI w) (efh : fh (6 * k + (d - 1)) = nI (g + 1)) (hg : g < 8) (hf : f < 4) (hs : fs (4 * w + f) = nI j)
    (h6 : d = 6 → post 6 (q, tn, sl, pc, wp, he, co, ca, cb, fs, fc, ts, tu, ux, tl, ul, tm, gc, ga, gp, ss, st, sf, tc, tr, ow, ti, fd, ft, fk, fn, upd fh (6 * k + (d - 1)) (nI g), fl, fv, rs, nt)) (h0 : d < 6 → post 0 (q, tn, sl, pc, wp, he, co, ca, cb, fs, fc, ts, tu, ux, tl, ul, tm, gc, ga, gp, ss, st, sf, tc, tr, ow, ti, upd fd k (nI (d + 1)), upd ft (6 * k + d) (nI w), upd fk (6 * k + d) kd, upd fn (6 * k + d) (nI j), upd (upd fh (6 * k + (d - 1)) (nI g)) (6 * k + d) 0, lo_4 fl (6 * k + d) (fv (8 * (6 * k + (d - 1)) + g)), fv, rs, nt)) : wpX_callFunction post (q, tn, sl, pc, wp, he, co, ca, cb, fs, fc, ts, tu, ux, tl, ul, tm, gc, ga, gp, ss, st, sf, tc, tr, ow, ti, fd, ft, fk, fn, fh, fl, fv, rs, nt) (nI k) (nI f) kd := by
  have ex : (nI (6 * k + (d - 1))).toNatClampNeg = 6 * k + (d - 1) := nI_clamp (by omega)
  have vx : vp_in (nI (6 * k + (d - 1))) 36 := vp_in_nI (by omega) (by decide)
  unfold wpX_callFunction; dsimp only
  refine xl_top hk hd0 ed ?_
  refine xl_pop (h := g) (by omega) efh hg ⟨vx, ?_⟩
  dsimp only
  rw [ex, eft]
  by_cases c : d = 6
  · exact xl_b6 hk (by rw [ed, c]) (h6 c)
  · exact xl_bf hk (by omega) ed hw hf hs (h0 (by omega))
theorem yl_call {post : SY → Prop} {k d w f j g n o : Nat} {a : Int32} (hk : k < 6) (hd0 : 0 < d) (hd : d < 6) (ed : fd k = nI d) (hw : w < 4) (eft : ft (6 * k + (d - 1)) = nI w) (efh : fh (6 * k + (d - 1)) = nI (g + 1)) (hg : g < 8) (hl : le w = nI n) (hn : n ≤ 64) (hj : j < n) (h0 : co (64 * w + j) = 0) (hf : cf_n co (64 * w) j = f) (ea : a = nI f) (ho : o = 14 ∨ o = 15)
    (hp : post (q, wp, tn, sl, yd, nd, co, ca, cb, le, he, kl, tu, uy, tl, ul, tm, gc, ga, gp, ss, st, sf, upd fd k (nI (d + 1)), tc, tr, ow, ti, upd ft (6 * k + d) (nI w), upd fn (6 * k + d) (nI j), upd (upd fh (6 * k + (d - 1)) (nI g)) (6 * k + d) 0, upd (upd fp (6 * k + d) 0) (6 * k + d) (if o = 15 then 1 else 0), upd fz (6 * k + d) 0, lo_4 fl (6 * k + d) (fv (8 * (6 * k + (d - 1)) + g)), fv, rs, au)) : wpY_act post (q, wp, tn, sl, yd, nd, co, ca, cb, le, he, kl, tu, uy, tl, ul, tm, gc, ga, gp, ss, st, sf, fd, tc, tr, ow, ti, ft, fn, fh, fp, fz, fl, fv, rs, au) (nI k) (nI (6 * k + (d - 1))) (nI o) a := by
  have ek : (nI k).toNatClampNeg = k := nI_clamp (by omega)
  have vk : vp_in (nI k) 6 := vp_in_nI hk (by decide)
  have e1 : nI (6 * k + (d - 1)) + 1 = nI (6 * k + d) := by rw [nI_1]; exact congrArg nI (by omega)
  have e2 : (nI (6 * k + d)).toNatClampNeg = 6 * k + d := nI_clamp (by omega)
  have vy : vp_in (nI (6 * k + (d - 1)) + 1) 36 := by rw [e1]; exact vp_in_nI (by omega) (by decide)
  refine yl_ac (h := g) (by omega) eft (by omega) (by omega) efh hg ?_
  rw [ea]
  have key : wY_act_76 post (nI k) (nI (6 * k + (d - 1))) (nI o) (nI f) (nI w) (fv (8 * (6 * k + (d - 1)) + g)) q wp tn sl yd nd co ca cb le he kl tu uy tl ul tm gc ga gp ss st sf fd tc tr ow ti ft fn (upd fh (6 * k + (d - 1)) (nI g)) fp fz fl fv rs au := by
    refine ⟨vk, br_f (by rw [ek, ed]; exact ix_ne 6 rfl (by omega) (by omega) (by decide)) ?_⟩
    refine yl_bf hk hd ed hw hl hn hj h0 hf ?_
    rcases ho with rfl | rfl
    · exact br_f (by decide) ⟨vy, nm_r (by rw [e1, e2, ix_bn0]; rfl) hp⟩
    · exact br_t rfl ⟨vy, nm_r (by rw [e1, e2, ix_bn1]; rfl) hp⟩
  rcases ho with rfl | rfl
  · exact br_f (by decide) (br_f (by decide) (br_t (by decide) (key)))
  · exact br_f (by decide) (br_f (by decide) (br_f (by decide) (br_t (by decide) (key))))
theorem yl_c6 {post : SY → Prop} {k d w g o : Nat} {a : Int32} (v1 : SY) (hk : k < 6) (hd : d = 6) (ed : fd k = nI d) (eft : ft (6 * k + (d - 1)) = nI w) (efh : fh (6 * k + (d - 1)) = nI (g + 1)) (hg : g < 8) (ho : o = 14 ∨ o = 15)
    (hr : ∀ post' : SY → Prop, post' v1 → wpY_raise post' (q, wp, tn, sl, yd, nd, co, ca, cb, le, he, kl, tu, uy, tl, ul, tm, gc, ga, gp, ss, st, sf, fd, tc, tr, ow, ti, ft, fn, upd fh (6 * k + (d - 1)) (nI g), fp, fz, fl, fv, rs, au) (nI k) 6) (hp : post v1) : wpY_act post (q, wp, tn, sl, yd, nd, co, ca, cb, le, he, kl, tu, uy, tl, ul, tm, gc, ga, gp, ss, st, sf, fd, tc, tr, ow, ti, ft, fn, fh, fp, fz, fl, fv, rs, au) (nI k) (nI (6 * k + (d - 1))) (nI o) a := by
  have ek : (nI k).toNatClampNeg = k := nI_clamp (by omega)
  have vk : vp_in (nI k) 6 := vp_in_nI hk (by decide)
  refine yl_ac (h := g) (by omega) eft (by omega) (by omega) efh hg ?_
  have key : wY_act_76 post (nI k) (nI (6 * k + (d - 1))) (nI o) a (nI w) (fv (8 * (6 * k + (d - 1)) + g)) q wp tn sl yd nd co ca cb le he kl tu uy tl ul tm gc ga gp ss st sf fd tc tr ow ti ft fn (upd fh (6 * k + (d - 1)) (nI g)) fp fz fl fv rs au := by
    refine ⟨vk, br_t (by rw [ek, ed, hd]; rfl) (hr _ ?_)⟩
    obtain ⟨y0, y1, y2, y3, y4, y5, y6, y7, y8, y9, y10, y11, y12, y13, y14, y15, y16, y17, y18, y19, y20, y21, y22, y23, y24, y25, y26, y27, y28, y29, y30, y31, y32, y33, y34, y35, y36⟩ := v1
    exact hp
  rcases ho with rfl | rfl
  · exact br_f (by decide) (br_f (by decide) (br_t (by decide) (key)))
  · exact br_f (by decide) (br_f (by decide) (br_f (by decide) (br_t (by decide) (key))))
theorem sx_14 {M : Nat} {H : Nat → Nat → Nat → Prop} {k s d t i h n c : Nat} (G : sg_R M H k s d t i h 14 n c q tn sl pc wp yd nd he co ca cb fs fc ts tu ux tl ul tm gc ga gp ss st sf tc tr ow ti fd ft fk fn fh fl fv rs nt le kl uy fp fz au) : sr_R M k s (q, tn, sl, pc, wp, he, co, ca, cb, fs, fc, ts, tu, ux, tl, ul, tm, gc, ga, gp, ss, st, sf, tc, tr, ow, ti, fd, ft, fk, fn, fh, fl, fv, rs, nt) (q, wp, tn, sl, yd, nd, co, ca, cb, le, he, kl, tu, uy, tl, ul, tm, gc, ga, gp, ss, st, sf, fd, tc, tr, ow, ti, ft, fn, fh, fp, fz, fl, fv, rs, au) := by
  have G' := G
  obtain ⟨C, htn, hsl, hyd, htc, B, hlo, hO, hK, hV, hn, hl, hh8, hle, hn64, hfc, hc4, z1, z2, z3, z4, z5, z6, z7, z8⟩ := G'
  have hk := B.1
  have hd0 := B.2.1
  have hd6 := B.2.2.1
  have ed := B.2.2.2.1
  have ht := B.2.2.2.2.1
  have eft := B.2.2.2.2.2.1
  have efh := B.2.2.2.2.2.2.2.1
  have hx : 6 * k + (d - 1) < 36 := by omega
  have ex : (nI (6 * k + (d - 1))).toNatClampNeg = 6 * k + (d - 1) := nI_clamp (by omega)
  have vx : vp_in (nI (6 * k + (d - 1))) 36 := vp_in_nI hx (by decide)
  have et : (nI t).toNatClampNeg = t := nI_clamp (by omega)
  have vt : vp_in (nI t) 4 := vp_in_nI ht (by decide)
  rw [po_14] at z5 z6
  rw [pu_14] at z6
  have hH := (z7 (by decide) (by decide) (by decide)).2
  rw [po_14, pu_14] at hH
  obtain ⟨g, rfl⟩ : ∃ g, h = g + 1 := ⟨h - 1, by omega⟩
  rw [show g + 1 - 1 + 1 = g + 1 by omega] at hH
  obtain ⟨f, hf, ea⟩ := z2 (by decide)
  have kt : kl t = 0 := hn.resolve_right (fun z => z (by unfold pl_P; omega))
  obtain ⟨n', c', b1, b2, b3, b4, b5, b6, b7, b8, b9, b10, b11⟩ := C.2.2.1 t ht
  have ec : c = c' := by
    rw [b4, nI_eq (by omega) (by omega)] at hfc
    exact hfc.symm
  subst ec
  obtain ⟨j, j1, j2, j3, j4⟩ := b9 f hf
  by_cases c6 : d = 6
  · obtain ⟨u2, v2, r1, r2, r3⟩ := rs_all (q := q) (tn := tn) (sl := sl) (pc := pc) (wp := wp) (yd := yd) (nd := nd) (he := he) (co := co) (ca := ca) (cb := cb) (fs := fs) (fc := fc) (ts := ts) (ux := ux) (tl := tl) (ul := ul) (tm := tm) (gc := gc) (ga := ga) (gp := gp) (ss := ss) (st := st) (sf := sf) (tc := tc) (tr := tr) (ow := ow) (ti := ti) (fd := fd) (ft := ft) (fk := fk) (fl := fl) (fv := fv) (rs := rs) (nt := nt) (le := le) (kl := kl) (uy := uy) (fp := fp) (fz := fz) (au := au) (tu := upd tu t (tu t + 1)) (fn := upd fn (6 * k + (d - 1)) (nI (i + 1))) (fh := upd fh (6 * k + (d - 1)) (nI g)) (f := 6) (rc_up C) htn hsl hyd (by decide) hk htc hK hd0 hd6 ed
      (tl_cg hd0 hlo (fun _ _ => rfl) (fun y hy => pk_un (by omega)) (fun y hy => pk_un (by omega)) (fun _ _ => rfl))
      (fun k' hk' ck => th_cg (hO k' hk' ck) (fun _ _ => rfl) (fun y hy => pk_un (by omega)) (fun y hy => pk_un (by omega)) (fun _ _ => rfl) rfl rfl) hV
    refine ⟨u2, v2, r1, Or.inr ⟨6, (q, tn, sl, pc, wp, he, co, ca, cb, fs, fc, ts, upd tu t (tu t + 1), ux, tl, ul, tm, gc, ga, gp, ss, st, sf, tc, tr, ow, ti, fd, ft, fk, upd fn (6 * k + (d - 1)) (nI (i + 1)), upd fh (6 * k + (d - 1)) (nI g), fl, fv, rs, nt), by decide, fun post hp => ?_, r2⟩, fun post hp => ?_⟩
    · exact xe_14 B _ 6 (fun post' hq => by rw [ea]; exact xl_call hk hd0 hd6 ed ht eft efh (by omega) (by omega) j2 (fun _ => hq) (fun z => absurd c6 (by omega))) hp
    · exact yl_sa _ B hn hl (by decide) (by decide) (fun post' hq => yl_c6 _ hk c6 ed eft efh (by omega) (by decide) r3 hq) hp
  · refine ⟨(q, tn, sl, pc, wp, he, co, ca, cb, fs, fc, ts, upd tu t (tu t + 1), ux, tl, ul, tm, gc, ga, gp, ss, st, sf, tc, tr, ow, ti, upd fd k (nI (d + 1)), upd ft (6 * k + d) (nI t), upd fk (6 * k + d) 0, upd (upd fn (6 * k + (d - 1)) (nI (i + 1))) (6 * k + d) (nI j), upd (upd fh (6 * k + (d - 1)) (nI g)) (6 * k + d) 0, lo_4 fl (6 * k + d) (fv (8 * (6 * k + (d - 1)) + g)), fv, rs, nt), (q, wp, tn, sl, yd, nd, co, ca, cb, le, he, kl, upd tu t (tu t + 1), uy, tl, ul, tm, gc, ga, gp, ss, st, sf, upd fd k (nI (d + 1)), tc, tr, ow, ti, upd ft (6 * k + d) (nI t), upd (upd fn (6 * k + (d - 1)) (nI (i + 1))) (6 * k + d) (nI j), upd (upd fh (6 * k + (d - 1)) (nI g)) (6 * k + d) 0, upd (upd fp (6 * k + d) 0) (6 * k + d) (if 14 = 15 then 1 else 0), upd fz (6 * k + d) 0, lo_4 fl (6 * k + d) (fv (8 * (6 * k + (d - 1)) + g)), fv, rs, au), pr_call (e := 1) G (by omega) ht kt (b10 j j1 j3) (fun y hy => ⟨pk_un hy, by rw [pk_un hy, pk_un hy], pk_un hy⟩) ?_ (by rw [pk_us]; rfl) hH, Or.inl (fun post hp => ?_), fun post hp => ?_⟩
    · exact Or.inl ⟨by rw [pk_us]; rfl, pk_us, pk_us⟩
    · exact xe_14 B _ 0 (fun post' hq => by rw [ea]; exact xl_call hk hd0 hd6 ed ht eft efh (by omega) (by omega) j2 (fun z => absurd z c6) (fun _ => hq)) hp
    · exact yl_sa _ B hn hl (by decide) (by decide) (fun post' hq => yl_call hk hd0 (by omega) ed ht eft efh (by omega) b2 b1 j1 j3 j4 ea (by decide) hq) hp
theorem sx_15 {M : Nat} {H : Nat → Nat → Nat → Prop} {k s d t i h n c : Nat} (G : sg_R M H k s d t i h 15 n c q tn sl pc wp yd nd he co ca cb fs fc ts tu ux tl ul tm gc ga gp ss st sf tc tr ow ti fd ft fk fn fh fl fv rs nt le kl uy fp fz au) : sr_R M k s (q, tn, sl, pc, wp, he, co, ca, cb, fs, fc, ts, tu, ux, tl, ul, tm, gc, ga, gp, ss, st, sf, tc, tr, ow, ti, fd, ft, fk, fn, fh, fl, fv, rs, nt) (q, wp, tn, sl, yd, nd, co, ca, cb, le, he, kl, tu, uy, tl, ul, tm, gc, ga, gp, ss, st, sf, fd, tc, tr, ow, ti, ft, fn, fh, fp, fz, fl, fv, rs, au) := by
  have G' := G
  obtain ⟨C, htn, hsl, hyd, htc, B, hlo, hO, hK, hV, hn, hl, hh8, hle, hn64, hfc, hc4, z1, z2, z3, z4, z5, z6, z7, z8⟩ := G'
  have hk := B.1
  have hd0 := B.2.1
  have hd6 := B.2.2.1
  have ed := B.2.2.2.1
  have ht := B.2.2.2.2.1
  have eft := B.2.2.2.2.2.1
  have efh := B.2.2.2.2.2.2.2.1
  have hx : 6 * k + (d - 1) < 36 := by omega
  have ex : (nI (6 * k + (d - 1))).toNatClampNeg = 6 * k + (d - 1) := nI_clamp (by omega)
  have vx : vp_in (nI (6 * k + (d - 1))) 36 := vp_in_nI hx (by decide)
  have et : (nI t).toNatClampNeg = t := nI_clamp (by omega)
  have vt : vp_in (nI t) 4 := vp_in_nI ht (by decide)
  rw [po_15] at z5 z6
  rw [pu_15] at z6
  have hH := (z7 (by decide) (by decide) (by decide)).2
  rw [po_15, pu_15] at hH
  obtain ⟨g, rfl⟩ : ∃ g, h = g + 1 := ⟨h - 1, by omega⟩
  rw [show g + 1 - 1 + 1 = g + 1 by omega] at hH
  obtain ⟨f, hf, ea⟩ := z2 (by decide)
  have kt : kl t = 0 := hn.resolve_right (fun z => z (by unfold pl_P; omega))
  obtain ⟨n', c', b1, b2, b3, b4, b5, b6, b7, b8, b9, b10, b11⟩ := C.2.2.1 t ht
  have ec : c = c' := by
    rw [b4, nI_eq (by omega) (by omega)] at hfc
    exact hfc.symm
  subst ec
  obtain ⟨j, j1, j2, j3, j4⟩ := b9 f hf
  by_cases c6 : d = 6
  · obtain ⟨u2, v2, r1, r2, r3⟩ := rs_all (q := q) (tn := tn) (sl := sl) (pc := pc) (wp := wp) (yd := yd) (nd := nd) (he := he) (co := co) (ca := ca) (cb := cb) (fs := fs) (fc := fc) (ts := ts) (ux := ux) (tl := tl) (ul := ul) (tm := tm) (gc := gc) (ga := ga) (gp := gp) (ss := ss) (st := st) (sf := sf) (tc := tc) (tr := tr) (ow := ow) (ti := ti) (fd := fd) (ft := ft) (fk := fk) (fl := fl) (fv := fv) (rs := rs) (nt := nt) (le := le) (kl := kl) (uy := uy) (fp := fp) (fz := fz) (au := au) (tu := upd tu t (tu t + 1)) (fn := upd fn (6 * k + (d - 1)) (nI (i + 1))) (fh := upd fh (6 * k + (d - 1)) (nI g)) (f := 6) (rc_up C) htn hsl hyd (by decide) hk htc hK hd0 hd6 ed
      (tl_cg hd0 hlo (fun _ _ => rfl) (fun y hy => pk_un (by omega)) (fun y hy => pk_un (by omega)) (fun _ _ => rfl))
      (fun k' hk' ck => th_cg (hO k' hk' ck) (fun _ _ => rfl) (fun y hy => pk_un (by omega)) (fun y hy => pk_un (by omega)) (fun _ _ => rfl) rfl rfl) hV
    refine ⟨u2, v2, r1, Or.inr ⟨6, (q, tn, sl, pc, wp, he, co, ca, cb, fs, fc, ts, upd tu t (tu t + 1), ux, tl, ul, tm, gc, ga, gp, ss, st, sf, tc, tr, ow, ti, fd, ft, fk, upd fn (6 * k + (d - 1)) (nI (i + 1)), upd fh (6 * k + (d - 1)) (nI g), fl, fv, rs, nt), by decide, fun post hp => ?_, r2⟩, fun post hp => ?_⟩
    · exact xe_15 B _ 6 (fun post' hq => by rw [ea]; exact xl_call hk hd0 hd6 ed ht eft efh (by omega) (by omega) j2 (fun _ => hq) (fun z => absurd c6 (by omega))) hp
    · exact yl_sa _ B hn hl (by decide) (by decide) (fun post' hq => yl_c6 _ hk c6 ed eft efh (by omega) (by decide) r3 hq) hp
  · refine ⟨(q, tn, sl, pc, wp, he, co, ca, cb, fs, fc, ts, upd tu t (tu t + 1), ux, tl, ul, tm, gc, ga, gp, ss, st, sf, tc, tr, ow, ti, upd fd k (nI (d + 1)), upd ft (6 * k + d) (nI t), upd fk (6 * k + d) 1, upd (upd fn (6 * k + (d - 1)) (nI (i + 1))) (6 * k + d) (nI j), upd (upd fh (6 * k + (d - 1)) (nI g)) (6 * k + d) 0, lo_4 fl (6 * k + d) (fv (8 * (6 * k + (d - 1)) + g)), fv, rs, nt), (q, wp, tn, sl, yd, nd, co, ca, cb, le, he, kl, upd tu t (tu t + 1), uy, tl, ul, tm, gc, ga, gp, ss, st, sf, upd fd k (nI (d + 1)), tc, tr, ow, ti, upd ft (6 * k + d) (nI t), upd (upd fn (6 * k + (d - 1)) (nI (i + 1))) (6 * k + d) (nI j), upd (upd fh (6 * k + (d - 1)) (nI g)) (6 * k + d) 0, upd (upd fp (6 * k + d) 0) (6 * k + d) (if 15 = 15 then 1 else 0), upd fz (6 * k + d) 0, lo_4 fl (6 * k + d) (fv (8 * (6 * k + (d - 1)) + g)), fv, rs, au), pr_call (e := 1) G (by omega) ht kt (b10 j j1 j3) (fun y hy => ⟨pk_un hy, by rw [pk_un hy, pk_un hy], pk_un hy⟩) ?_ (by rw [pk_us]; rfl) hH, Or.inl (fun post hp => ?_), fun post hp => ?_⟩
    · exact Or.inr (Or.inl ⟨by rw [pk_us]; rfl, pk_us, pk_us⟩)
    · exact xe_15 B _ 0 (fun post' hq => by rw [ea]; exact xl_call hk hd0 hd6 ed ht eft efh (by omega) (by omega) j2 (fun z => absurd z c6) (fun _ => hq)) hp
    · exact yl_sa _ B hn hl (by decide) (by decide) (fun post' hq => yl_call hk hd0 (by omega) ed ht eft efh (by omega) b2 b1 j1 j3 j4 ea (by decide) hq) hp
theorem xl_ret {post : SX → Prop} {k d g : Nat} (hk : k < 6) (hd0 : 0 < d) (hd6 : d ≤ 6) (ed : fd k = nI d) (efh : fh (6 * k + (d - 1)) = nI (g + 1)) (hg : g < 8)
    (h1 : d = 1 → post (q, tn, 0, pc, wp, he, co, ca, cb, fs, fc, ts, tu, ux, tl, ul, tm, gc, ga, gp, ss, st, sf, upd tc k 0, upd tr k (fv (8 * (6 * k + (d - 1)) + g)), ow, ti, upd fd k 0, ft, fk, fn, upd fh (6 * k + (d - 1)) (nI g), fl, fv, rs, nt))
    (h2 : 1 < d → ∃ y : Nat, fh (6 * k + (d - 2)) = nI y ∧ y < 8 ∧ (fk (6 * k + (d - 1)) = 2 → y + 1 < 8 ∧ post (q, tn, sl, pc, wp, he, co, ca, cb, fs, fc, ts, tu, ux, tl, ul, tm, gc, ga, gp, ss, st, sf, tc, tr, ow, ti, upd fd k (nI (d - 1)), ft, fk, fn, upd (upd (upd fh (6 * k + (d - 1)) (nI g)) (6 * k + (d - 2)) (nI (y + 1))) (6 * k + (d - 2)) (nI (y + 1 + 1)), fl, upd (upd fv (8 * (6 * k + (d - 2)) + y) (fv (8 * (6 * k + (d - 1)) + g))) (8 * (6 * k + (d - 2)) + (y + 1)) 0, rs, nt)) ∧ (fk (6 * k + (d - 1)) ≠ 2 → post (q, tn, sl, pc, wp, he, co, ca, cb, fs, fc, ts, tu, ux, tl, ul, tm, gc, ga, gp, ss, st, sf, tc, tr, ow, ti, upd fd k (nI (d - 1)), ft, fk, fn, upd (upd fh (6 * k + (d - 1)) (nI g)) (6 * k + (d - 2)) (nI (y + 1)), fl, upd fv (8 * (6 * k + (d - 2)) + y) (fv (8 * (6 * k + (d - 1)) + g)), rs, nt))) : wpX_returnValue post (q, tn, sl, pc, wp, he, co, ca, cb, fs, fc, ts, tu, ux, tl, ul, tm, gc, ga, gp, ss, st, sf, tc, tr, ow, ti, fd, ft, fk, fn, fh, fl, fv, rs, nt) (nI k) := by
  have ek : (nI k).toNatClampNeg = k := nI_clamp (by omega)
  have vk : vp_in (nI k) 6 := vp_in_nI hk (by decide)
  have ex : (nI (6 * k + (d - 1))).toNatClampNeg = 6 * k + (d - 1) := nI_clamp (by omega)
  have vx : vp_in (nI (6 * k + (d - 1))) 36 := vp_in_nI (by omega) (by decide)
  unfold wpX_returnValue; dsimp only
  refine xl_top hk hd0 ed ?_
  refine xl_pop (h := g) (by omega) efh hg ⟨vk, ?_⟩
  dsimp only
  rw [ek, ed]
  by_cases c : d = 1
  · exact br_f (by rw [c]; decide) (xl_end hk (h1 c))
  · obtain ⟨y, y1, y2, y3, y4⟩ := h2 (by omega)
    have ep : nI (6 * k + (d - 1)) - 1 = nI (6 * k + (d - 2)) := by rw [ix_p (by omega)]; exact congrArg nI (by omega)
    refine br_t (nI_lt (a := 1) (by omega) (by omega)) ⟨vk, vk, nm_r (e' := upd fd k (nI (d - 1))) (by rw [ix_p hd0]) ?_⟩
    rw [ep]
    refine xl_push (h := y) (by omega) (by rw [pk_un (by omega)]; exact y1) y2 ⟨vx, ?_⟩
    dsimp only
    rw [ex]
    by_cases ck : fk (6 * k + (d - 1)) = 2
    · exact br_t ck (xl_push (h := y + 1) (by omega) pk_us (y3 ck).1 (y3 ck).2)
    · exact br_f ck (y4 ck)
theorem yl_ret {post : SY → Prop} {k d g w : Nat} {a : Int32} (hk : k < 6) (hd0 : 0 < d) (hd6 : d ≤ 6) (ed : fd k = nI d) (eft : ft (6 * k + (d - 1)) = nI w) (efh : fh (6 * k + (d - 1)) = nI (g + 1)) (hg : g < 8)
    (h1 : d = 1 → post (q, wp, tn, sl, yd, nd, co, ca, cb, le, he, kl, tu, uy, tl, ul, tm, gc, ga, gp, ss, st, sf, upd fd k 0, upd tc k 0, upd tr k (fv (8 * (6 * k + (d - 1)) + g)), ow, ti, ft, fn, upd fh (6 * k + (d - 1)) (nI g), fp, fz, fl, fv, rs, au))
    (h2 : 1 < d → ∃ y : Nat, fh (6 * k + (d - 2)) = nI y ∧ y < 8 ∧ (fz (6 * k + (d - 1)) ≠ 0 → y + 1 < 8 ∧ post (q, wp, tn, sl, yd, nd, co, ca, cb, le, he, kl, tu, uy, tl, ul, tm, gc, ga, gp, ss, st, sf, upd fd k (nI (d - 1)), tc, tr, ow, ti, ft, fn, upd (upd (upd fh (6 * k + (d - 1)) (nI g)) (6 * k + (d - 2)) (nI (y + 1))) (6 * k + (d - 2)) (nI (y + 1 + 1)), fp, fz, fl, upd (upd fv (8 * (6 * k + (d - 2)) + y) (fv (8 * (6 * k + (d - 1)) + g))) (8 * (6 * k + (d - 2)) + (y + 1)) 0, rs, au)) ∧ (fz (6 * k + (d - 1)) = 0 → post (q, wp, tn, sl, yd, nd, co, ca, cb, le, he, kl, tu, uy, tl, ul, tm, gc, ga, gp, ss, st, sf, upd fd k (nI (d - 1)), tc, tr, ow, ti, ft, fn, upd (upd fh (6 * k + (d - 1)) (nI g)) (6 * k + (d - 2)) (nI (y + 1)), fp, fz, fl, upd fv (8 * (6 * k + (d - 2)) + y) (fv (8 * (6 * k + (d - 1)) + g)), rs, au))) : wpY_act post (q, wp, tn, sl, yd, nd, co, ca, cb, le, he, kl, tu, uy, tl, ul, tm, gc, ga, gp, ss, st, sf, fd, tc, tr, ow, ti, ft, fn, fh, fp, fz, fl, fv, rs, au) (nI k) (nI (6 * k + (d - 1))) (nI 21) a := by
  have ek : (nI k).toNatClampNeg = k := nI_clamp (by omega)
  have vk : vp_in (nI k) 6 := vp_in_nI hk (by decide)
  have ex : (nI (6 * k + (d - 1))).toNatClampNeg = 6 * k + (d - 1) := nI_clamp (by omega)
  have vx : vp_in (nI (6 * k + (d - 1))) 36 := vp_in_nI (by omega) (by decide)
  refine yl_ac (h := g) (by omega) eft (by decide) (by decide) efh hg ?_
  refine br_f (by decide) (br_f (by decide) (br_f (by decide) (br_f (by decide) (br_f (by decide) (br_f (by decide) (br_f (by decide) (br_f (by decide) (br_f (by decide) (br_t (by decide) (?_))))))))))
  refine ⟨vk, vk, nm_r (e' := upd fd k (nI (d - 1))) (by rw [ek, ed, ix_p hd0]) ⟨vk, ?_⟩⟩
  rw [ek, pk_us]
  by_cases c : d = 1
  · refine br_t (by rw [c]; rfl) (yl_end hk ?_)
    rw [ix_uu]
    exact h1 c
  · obtain ⟨y, y1, y2, y3, y4⟩ := h2 (by omega)
    have ep : nI (6 * k + (d - 1)) - 1 = nI (6 * k + (d - 2)) := by rw [ix_p (by omega)]; exact congrArg nI (by omega)
    refine br_f (nI_ne0 (by omega) (by omega)) ?_
    rw [ep]
    refine yl_push (h := y) (by omega) (by rw [pk_un (by omega)]; exact y1) y2 ⟨vx, ?_⟩
    rw [ex]
    by_cases ck : fz (6 * k + (d - 1)) = 0
    · exact br_t ck (y4 ck)
    · exact br_f ck (yl_push (h := y + 1) (by omega) pk_us (y3 ck).1 (y3 ck).2)
theorem sx_21 {M : Nat} {H : Nat → Nat → Nat → Prop} {k s d t i h n c : Nat} (G : sg_R M H k s d t i h 21 n c q tn sl pc wp yd nd he co ca cb fs fc ts tu ux tl ul tm gc ga gp ss st sf tc tr ow ti fd ft fk fn fh fl fv rs nt le kl uy fp fz au) : sr_R M k s (q, tn, sl, pc, wp, he, co, ca, cb, fs, fc, ts, tu, ux, tl, ul, tm, gc, ga, gp, ss, st, sf, tc, tr, ow, ti, fd, ft, fk, fn, fh, fl, fv, rs, nt) (q, wp, tn, sl, yd, nd, co, ca, cb, le, he, kl, tu, uy, tl, ul, tm, gc, ga, gp, ss, st, sf, fd, tc, tr, ow, ti, ft, fn, fh, fp, fz, fl, fv, rs, au) := by
  have G' := G
  obtain ⟨C, htn, hsl, hyd, htc, B, hlo, hO, hK, hV, hn, hl, hh8, hle, hn64, hfc, hc4, z1, z2, z3, z4, z5, z6, z7, z8⟩ := G'
  have hk := B.1
  have hd0 := B.2.1
  have hd6 := B.2.2.1
  have ed := B.2.2.2.1
  have ht := B.2.2.2.2.1
  have eft := B.2.2.2.2.2.1
  have efh := B.2.2.2.2.2.2.2.1
  have hx : 6 * k + (d - 1) < 36 := by omega
  have ex : (nI (6 * k + (d - 1))).toNatClampNeg = 6 * k + (d - 1) := nI_clamp (by omega)
  have vx : vp_in (nI (6 * k + (d - 1))) 36 := vp_in_nI hx (by decide)
  have et : (nI t).toNatClampNeg = t := nI_clamp (by omega)
  have vt : vp_in (nI t) 4 := vp_in_nI ht (by decide)
  rw [po_21] at z5 z6
  rw [pu_21] at z6
  obtain ⟨g, rfl⟩ : ∃ g, h = g + 1 := ⟨h - 1, by omega⟩
  by_cases c1 : d = 1
  · refine ⟨(q, tn, 0, pc, wp, he, co, ca, cb, fs, fc, ts, upd tu t (tu t + 1), ux, tl, ul, tm, gc, ga, gp, ss, st, sf, upd tc k 0, upd tr k (fv (8 * (6 * k + (d - 1)) + g)), ow, ti, upd fd k 0, ft, fk, upd fn (6 * k + (d - 1)) (nI (i + 1)), upd fh (6 * k + (d - 1)) (nI g), fl, fv, rs, nt), (q, wp, tn, sl, yd, nd, co, ca, cb, le, he, kl, upd tu t (tu t + 1), uy, tl, ul, tm, gc, ga, gp, ss, st, sf, upd fd k 0, upd tc k 0, upd tr k (fv (8 * (6 * k + (d - 1)) + g)), ow, ti, ft, upd fn (6 * k + (d - 1)) (nI (i + 1)), upd fh (6 * k + (d - 1)) (nI g), fp, fz, fl, fv, rs, au), mk_md (rc_up C) htn hsl (Or.inr ⟨rfl, Or.inl (by rw [pk_us]; decide)⟩) ?_ hK ?_, Or.inl (fun post hp => ?_), fun post hp => ?_⟩
    · intro k' hk'
      by_cases ck : k' = k
      · subst ck
        exact ⟨0, by decide, pk_us, ⟨fun z => absurd z (by rw [pk_us]; decide), fun z => absurd z (by decide)⟩, fun z => absurd z (by decide)⟩
      · exact th_cg (hO k' hk' ck) (fun _ _ => rfl) (fun y hy => pk_un (by omega)) (fun y hy => pk_un (by omega)) (fun _ _ => rfl) (pk_un ck) (pk_un ck)
    · exact rv_dn (d' := 0) hV hd6 (by omega) ed
    · exact xe_21 B _ (fun post' hq => xl_ret hk hd0 hd6 ed efh (by omega) (fun _ => hq) (fun z => absurd c1 (by omega))) hp
    · exact yl_sa _ B hn hl (by decide) (by decide) (fun post' hq => yl_ret hk hd0 hd6 ed eft efh (by omega) (fun _ => hq) (fun z => absurd c1 (by omega))) hp
  · have fo := hlo.2 (d - 2) (by omega)
    rw [show 6 * k + (d - 2) + 1 = 6 * k + (d - 1) by omega] at fo
    obtain ⟨t2, i2, y, t1, q2, q3, q4, q5⟩ := fo
    have h8 := bu_h8 C.2.2.1 t1 q5
    have hV' : rl_v ux uy kl (upd fd k (nI (d - 1))) ft := rv_dn hV hd6 (by omega) ed
    by_cases cz : fz (6 * k + (d - 1)) = 0
    · rw [if_pos cz] at q5 h8
      have ck2 : fk (6 * k + (d - 1)) ≠ 2 := by
        rcases hK (6 * k + (d - 1)) hx with z | z | z
        · rw [z.2.2]; decide
        · rw [z.2.2]; decide
        · rw [z.2.1] at cz; exact absurd cz (by decide)
      refine ⟨(q, tn, sl, pc, wp, he, co, ca, cb, fs, fc, ts, upd tu t (tu t + 1), ux, tl, ul, tm, gc, ga, gp, ss, st, sf, tc, tr, ow, ti, upd fd k (nI (d - 1)), ft, fk, upd fn (6 * k + (d - 1)) (nI (i + 1)), upd (upd fh (6 * k + (d - 1)) (nI g)) (6 * k + (d - 2)) (nI (y + 1)), fl, upd fv (8 * (6 * k + (d - 2)) + y) (fv (8 * (6 * k + (d - 1)) + g)), rs, nt), (q, wp, tn, sl, yd, nd, co, ca, cb, le, he, kl, upd tu t (tu t + 1), uy, tl, ul, tm, gc, ga, gp, ss, st, sf, upd fd k (nI (d - 1)), tc, tr, ow, ti, ft, upd fn (6 * k + (d - 1)) (nI (i + 1)), upd (upd fh (6 * k + (d - 1)) (nI g)) (6 * k + (d - 2)) (nI (y + 1)), fp, fz, fl, upd fv (8 * (6 * k + (d - 2)) + y) (fv (8 * (6 * k + (d - 1)) + g)), rs, au), mk_md (rc_up C) htn hsl (Or.inl ⟨hsl, htc, hyd⟩) ?_ hK hV', Or.inl (fun post hp => ?_), fun post hp => ?_⟩
      · intro k' hk'
        by_cases ck : k' = k
        · subst ck
          refine ⟨d - 1, by omega, pk_us, ⟨fun _ => by omega, fun _ => htc⟩, fun _ => ⟨⟨hlo.1, fun y hy => ?_⟩, t2, i2, y + 1, t1, ?_, ?_, ?_, q5⟩⟩
          · exact fr_cg (hlo.2 y (by omega)) rfl (pk_un (by omega)) (by rw [pk_un (by omega), pk_un (by omega)])
          · rw [show d - 1 - 1 = d - 2 by omega]; exact q2
          · rw [show d - 1 - 1 = d - 2 by omega, pk_un (by omega)]; exact q3
          · rw [show d - 1 - 1 = d - 2 by omega, pk_us]
        · exact th_cg (hO k' hk' ck) (fun _ _ => rfl) (fun y hy => pk_un (by omega)) (fun y hy => by rw [pk_un (by omega), pk_un (by omega)]) (fun _ _ => rfl) rfl (pk_un ck)
      · exact xe_21 B _ (fun post' hq => xl_ret hk hd0 hd6 ed efh (by omega) (fun z => absurd z c1) (fun _ => ⟨y, q4, by omega, fun z => absurd z ck2, fun _ => hq⟩)) hp
      · exact yl_sa _ B hn hl (by decide) (by decide) (fun post' hq => yl_ret hk hd0 hd6 ed eft efh (by omega) (fun z => absurd z c1) (fun _ => ⟨y, q4, by omega, fun z => absurd cz z, fun _ => hq⟩)) hp
    · rw [if_neg cz] at q5 h8
      have ck2 : fk (6 * k + (d - 1)) = 2 := by
        rcases hK (6 * k + (d - 1)) hx with z | z | z
        · exact absurd z.2.1 cz
        · exact absurd z.2.1 cz
        · exact z.2.2
      refine ⟨(q, tn, sl, pc, wp, he, co, ca, cb, fs, fc, ts, upd tu t (tu t + 1), ux, tl, ul, tm, gc, ga, gp, ss, st, sf, tc, tr, ow, ti, upd fd k (nI (d - 1)), ft, fk, upd fn (6 * k + (d - 1)) (nI (i + 1)), upd (upd (upd fh (6 * k + (d - 1)) (nI g)) (6 * k + (d - 2)) (nI (y + 1))) (6 * k + (d - 2)) (nI (y + 1 + 1)), fl, upd (upd fv (8 * (6 * k + (d - 2)) + y) (fv (8 * (6 * k + (d - 1)) + g))) (8 * (6 * k + (d - 2)) + (y + 1)) 0, rs, nt), (q, wp, tn, sl, yd, nd, co, ca, cb, le, he, kl, upd tu t (tu t + 1), uy, tl, ul, tm, gc, ga, gp, ss, st, sf, upd fd k (nI (d - 1)), tc, tr, ow, ti, ft, upd fn (6 * k + (d - 1)) (nI (i + 1)), upd (upd (upd fh (6 * k + (d - 1)) (nI g)) (6 * k + (d - 2)) (nI (y + 1))) (6 * k + (d - 2)) (nI (y + 1 + 1)), fp, fz, fl, upd (upd fv (8 * (6 * k + (d - 2)) + y) (fv (8 * (6 * k + (d - 1)) + g))) (8 * (6 * k + (d - 2)) + (y + 1)) 0, rs, au), mk_md (rc_up C) htn hsl (Or.inl ⟨hsl, htc, hyd⟩) ?_ hK hV', Or.inl (fun post hp => ?_), fun post hp => ?_⟩
      · intro k' hk'
        by_cases ck : k' = k
        · subst ck
          refine ⟨d - 1, by omega, pk_us, ⟨fun _ => by omega, fun _ => htc⟩, fun _ => ⟨⟨hlo.1, fun y hy => ?_⟩, t2, i2, y + 1 + 1, t1, ?_, ?_, ?_, q5⟩⟩
          · exact fr_cg (hlo.2 y (by omega)) rfl (pk_un (by omega)) (by rw [pk_un (by omega), pk_un (by omega), pk_un (by omega)])
          · rw [show d - 1 - 1 = d - 2 by omega]; exact q2
          · rw [show d - 1 - 1 = d - 2 by omega, pk_un (by omega)]; exact q3
          · rw [show d - 1 - 1 = d - 2 by omega, pk_us]
        · exact th_cg (hO k' hk' ck) (fun _ _ => rfl) (fun y hy => pk_un (by omega)) (fun y hy => by rw [pk_un (by omega), pk_un (by omega), pk_un (by omega)]) (fun _ _ => rfl) rfl (pk_un ck)
      · exact xe_21 B _ (fun post' hq => xl_ret hk hd0 hd6 ed efh (by omega) (fun z => absurd z c1) (fun _ => ⟨y, q4, by omega, fun _ => ⟨by omega, hq⟩, fun z => absurd ck2 z⟩)) hp
      · exact yl_sa _ B hn hl (by decide) (by decide) (fun post' hq => yl_ret hk hd0 hd6 ed eft efh (by omega) (fun z => absurd z c1) (fun _ => ⟨y, q4, by omega, fun _ => ⟨by omega, hq⟩, fun z => absurd z cz⟩)) hp
end
