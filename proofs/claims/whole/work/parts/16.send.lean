section
variable {q tn sl pc wp yd nd : Int32} {he co ca cb fs fc ts tu ux tl ul tm gc ga gp ss st sf tc tr ow ti fd ft fk fn fh fl fv rs nt le kl uy fp fz au : Nat → Int32}
theorem xl_sdw {post : Int32 → SX → Prop} {k d t a w f g m : Nat} (hk : k < 6) (hd0 : 0 < d) (hd6 : d ≤ 6) (ed : fd k = nI d) (ht : t < 4) (eft : ft (6 * k + (d - 1)) = nI t) (efh : fh (6 * k + (d - 1)) = nI (g + 1)) (ha : a < 4) (ew : st (4 * t + a) = nI w) (ef : sf (4 * t + a) = nI f) (hw : w < 4) (hf : f < 4) (hg : g + 1 < 8)
    (hc : (ss (4 * t + a) = 0 ∧ m = 5) ∨ (ss (4 * t + a) ≠ 0 ∧ ss (4 * t + a) = 2 ∧ m = 4) ∨ (ss (4 * t + a) ≠ 0 ∧ ss (4 * t + a) ≠ 2 ∧ (fc w ≤ nI f ∨ ts w ≠ 1) ∧ m = 3)) (hp : post 0 (q, tn, sl, pc, wp, he, co, ca, cb, fs, fc, ts, tu, ux, tl, ul, tm, gc, ga, gp, ss, st, sf, tc, tr, ow, ti, fd, ft, fk, fn, upd (upd (upd fh (6 * k + (d - 1)) (nI g)) (6 * k + (d - 1)) (nI (g + 1))) (6 * k + (d - 1)) (nI (g + 1 + 1)), fl, upd (upd fv (8 * (6 * k + (d - 1)) + g) 0) (8 * (6 * k + (d - 1)) + (g + 1)) (nI m), rs, nt)) : wpX_sendToSlot post (q, tn, sl, pc, wp, he, co, ca, cb, fs, fc, ts, tu, ux, tl, ul, tm, gc, ga, gp, ss, st, sf, tc, tr, ow, ti, fd, ft, fk, fn, fh, fl, fv, rs, nt) (nI k) (nI a) := by
  have ex : (nI (6 * k + (d - 1))).toNatClampNeg = 6 * k + (d - 1) := nI_clamp (by omega)
  have vx : vp_in (nI (6 * k + (d - 1))) 36 := vp_in_nI (by omega) (by decide)
  have e1 : nI t * 4 + nI a = nI (4 * t + a) := ix_r 4 rfl t a
  have e2 : (nI (4 * t + a)).toNatClampNeg = 4 * t + a := nI_clamp (by omega)
  have v16 : vp_in (nI (4 * t + a)) 16 := vp_in_nI (by omega) (by decide)
  unfold wpX_sendToSlot; dsimp only
  refine xl_top hk hd0 ed ⟨vx, nm_r (e' := nI (4 * t + a)) (by rw [ex, eft, e1]) ⟨v16, nm_r (e' := nI w) (by rw [e2, ew]) ⟨v16, nm_r (e' := nI f) (by rw [e2, ef]) ?_⟩⟩⟩
  refine xl_pop (h := g) (by omega) efh (by omega) ⟨v16, ?_⟩
  dsimp only
  rw [e2]
  rcases hc with ⟨c1, rfl⟩ | ⟨c1, c2, rfl⟩ | ⟨c1, c2, c3, rfl⟩
  · refine br_t c1 (br_f (by decide) ?_)
    refine xl_push (h := g) (by omega) pk_us (by omega) ?_
    exact xl_push (h := g + 1) (by omega) pk_us (by omega) hp
  · refine br_f c1 ⟨v16, br_t c2 (br_f (by decide) ?_)⟩
    refine xl_push (h := g) (by omega) pk_us (by omega) ?_
    exact xl_push (h := g + 1) (by omega) pk_us (by omega) hp
  · refine br_f c1 ⟨v16, br_f c2 (xl_ce0 hw (Or.inr c3) (br_t rfl (br_f (by decide) ?_)))⟩
    refine xl_push (h := g) (by omega) pk_us (by omega) ?_
    exact xl_push (h := g + 1) (by omega) pk_us (by omega) hp
theorem xl_sde {post : Int32 → SX → Prop} {k d t a w f g j : Nat} (hk : k < 6) (hd0 : 0 < d) (hd6 : d ≤ 6) (ed : fd k = nI d) (ht : t < 4) (eft : ft (6 * k + (d - 1)) = nI t) (efh : fh (6 * k + (d - 1)) = nI (g + 1)) (ha : a < 4) (ew : st (4 * t + a) = nI w) (ef : sf (4 * t + a) = nI f) (hw : w < 4) (hf : f < 4) (hg : g < 8) (hs : fs (4 * w + f) = nI j)
    (c1 : ss (4 * t + a) ≠ 0) (c2 : ss (4 * t + a) ≠ 2) (c3 : ¬ fc w ≤ nI f) (c4 : ts w = 1) (h6 : d = 6 → post 6 (q, tn, sl, pc, wp, he, co, ca, cb, fs, fc, ts, tu, ux, tl, ul, tm, gc, ga, gp, ss, st, sf, tc, tr, ow, ti, fd, ft, fk, fn, upd fh (6 * k + (d - 1)) (nI g), fl, fv, rs, nt)) (h0 : d < 6 → post 0 (q, tn, sl, pc, wp, he, co, ca, cb, fs, fc, ts, tu, ux, tl, ul, tm, gc, ga, gp, ss, st, sf, tc, tr, ow, ti, upd fd k (nI (d + 1)), upd ft (6 * k + d) (nI w), upd fk (6 * k + d) 2, upd fn (6 * k + d) (nI j), upd (upd fh (6 * k + (d - 1)) (nI g)) (6 * k + d) 0, lo_4 fl (6 * k + d) (fv (8 * (6 * k + (d - 1)) + g)), fv, rs, nt)) : wpX_sendToSlot post (q, tn, sl, pc, wp, he, co, ca, cb, fs, fc, ts, tu, ux, tl, ul, tm, gc, ga, gp, ss, st, sf, tc, tr, ow, ti, fd, ft, fk, fn, fh, fl, fv, rs, nt) (nI k) (nI a) := by
  have ex : (nI (6 * k + (d - 1))).toNatClampNeg = 6 * k + (d - 1) := nI_clamp (by omega)
  have vx : vp_in (nI (6 * k + (d - 1))) 36 := vp_in_nI (by omega) (by decide)
  have e1 : nI t * 4 + nI a = nI (4 * t + a) := ix_r 4 rfl t a
  have e2 : (nI (4 * t + a)).toNatClampNeg = 4 * t + a := nI_clamp (by omega)
  have v16 : vp_in (nI (4 * t + a)) 16 := vp_in_nI (by omega) (by decide)
  unfold wpX_sendToSlot; dsimp only
  refine xl_top hk hd0 ed ⟨vx, nm_r (e' := nI (4 * t + a)) (by rw [ex, eft, e1]) ⟨v16, nm_r (e' := nI w) (by rw [e2, ew]) ⟨v16, nm_r (e' := nI f) (by rw [e2, ef]) ?_⟩⟩⟩
  refine xl_pop (h := g) (by omega) efh (by omega) ⟨v16, ?_⟩
  dsimp only
  rw [e2]
  refine br_f c1 ⟨v16, br_f c2 (xl_ce1 hw (nI_pos (by omega)) c3 c4 (br_f (by decide) (br_t rfl ?_)))⟩
  by_cases c : d = 6
  · exact xl_b6 hk (by rw [ed, c]) (h6 c)
  · exact xl_bf hk (by omega) ed hw hf hs (h0 (by omega))
theorem yl_sdw {post : SY → Prop} {k d t a w f g m n : Nat} (hk : k < 6) (hd0 : 0 < d) (hd6 : d ≤ 6) (ed : fd k = nI d) (ht : t < 4) (eft : ft (6 * k + (d - 1)) = nI t) (efh : fh (6 * k + (d - 1)) = nI (g + 1)) (ha : a < 4) (ew : st (4 * t + a) = nI w) (ef : sf (4 * t + a) = nI f) (hw : w < 4) (hf : f < 4) (hg : g + 1 < 8) (hl : le w = nI n) (hn : n ≤ 64)
    (hc : (ss (4 * t + a) = 0 ∧ m = 5) ∨ (ss (4 * t + a) ≠ 0 ∧ ss (4 * t + a) = 2 ∧ m = 4) ∨ (ss (4 * t + a) ≠ 0 ∧ ss (4 * t + a) ≠ 2 ∧ (kl w ≠ 0 ∨ ¬ f < cf_n co (64 * w) n) ∧ m = 3)) (hp : post (q, wp, tn, sl, yd, nd, co, ca, cb, le, he, kl, tu, uy, tl, ul, tm, gc, ga, gp, ss, st, sf, fd, tc, tr, ow, ti, ft, fn, upd (upd (upd fh (6 * k + (d - 1)) (nI g)) (6 * k + (d - 1)) (nI (g + 1))) (6 * k + (d - 1)) (nI (g + 1 + 1)), fp, fz, fl, upd (upd fv (8 * (6 * k + (d - 1)) + g) 0) (8 * (6 * k + (d - 1)) + (g + 1)) (nI m), rs, au)) : wpY_act post (q, wp, tn, sl, yd, nd, co, ca, cb, le, he, kl, tu, uy, tl, ul, tm, gc, ga, gp, ss, st, sf, fd, tc, tr, ow, ti, ft, fn, fh, fp, fz, fl, fv, rs, au) (nI k) (nI (6 * k + (d - 1))) (nI 16) (nI a) := by
  have ek : (nI k).toNatClampNeg = k := nI_clamp (by omega)
  have vk : vp_in (nI k) 6 := vp_in_nI hk (by decide)
  have ewc : (nI w).toNatClampNeg = w := nI_clamp (by omega)
  have vw : vp_in (nI w) 4 := vp_in_nI hw (by decide)
  have e1 : 4 * nI t + nI a = nI (4 * t + a) := ix_l 4 rfl t a
  have e2 : (nI (4 * t + a)).toNatClampNeg = 4 * t + a := nI_clamp (by omega)
  have v16 : vp_in (nI (4 * t + a)) 16 := vp_in_nI (by omega) (by decide)
  refine yl_ac (h := g) (by omega) eft (by decide) (by decide) efh (by omega) ?_
  refine br_f (by decide) (br_f (by decide) (br_f (by decide) (br_f (by decide) (br_t (by decide) (?_)))))
  rw [e1]
  refine ⟨v16, nm_r (e' := nI w) (by rw [e2, ew]) ⟨v16, ?_⟩⟩
  rw [e2]
  have q : ∀ z : Int32, ¬ z ≤ 0 → z = nI m → wY_send_65 post (nI k) (nI (6 * k + (d - 1))) (nI (4 * t + a)) (fv (8 * (6 * k + (d - 1)) + g)) (nI w) z q wp tn sl yd nd co ca cb le he kl tu uy tl ul tm gc ga gp ss st sf fd tc tr ow ti ft fn (upd fh (6 * k + (d - 1)) (nI g)) fp fz fl fv rs au := by
    intro z hz ez
    subst ez
    refine br_f hz ?_
    refine yl_push (h := g) (by omega) pk_us (by omega) ?_
    exact yl_push (h := g + 1) (by omega) pk_us (by omega) hp
  rcases hc with ⟨c1, rfl⟩ | ⟨c1, c2, rfl⟩ | ⟨c1, c2, c3, rfl⟩
  · exact br_t c1 (q 5 (by decide) rfl)
  · exact br_f c1 ⟨v16, br_t c2 (q 4 (by decide) rfl)⟩
  · refine br_f c1 ⟨v16, br_f c2 ⟨vw, ?_⟩⟩
    rw [ewc]
    by_cases ck : kl w = 0
    · refine br_t ck ⟨v16, yl_fns (by omega) hl hn (br_f ?_ (q 3 (by decide) rfl))⟩
      rw [ef]
      have := cf_le co (64 * w) n
      have c4 : ¬ f < cf_n co (64 * w) n := c3.resolve_left (fun z => z ck)
      exact nI_nlt (by omega) (by omega)
    · exact br_f ck (q 3 (by decide) rfl)
theorem yl_sde {post : SY → Prop} {k d t a w f g j n : Nat} (hk : k < 6) (hd0 : 0 < d) (hd6 : d ≤ 6) (ed : fd k = nI d) (ht : t < 4) (eft : ft (6 * k + (d - 1)) = nI t) (efh : fh (6 * k + (d - 1)) = nI (g + 1)) (ha : a < 4) (ew : st (4 * t + a) = nI w) (ef : sf (4 * t + a) = nI f) (hw : w < 4) (hf : f < 4) (hg : g < 8) (hd : d < 6) (hl : le w = nI n) (hn : n ≤ 64) (hj : j < n) (h0 : co (64 * w + j) = 0) (hcf : cf_n co (64 * w) j = f)
    (c1 : ss (4 * t + a) ≠ 0) (c2 : ss (4 * t + a) ≠ 2) (ck : kl w = 0) (c3 : f < cf_n co (64 * w) n) (hp : post (q, wp, tn, sl, yd, nd, co, ca, cb, le, he, kl, tu, uy, tl, ul, tm, gc, ga, gp, ss, st, sf, upd fd k (nI (d + 1)), tc, tr, ow, ti, upd ft (6 * k + d) (nI w), upd fn (6 * k + d) (nI j), upd (upd fh (6 * k + (d - 1)) (nI g)) (6 * k + d) 0, upd fp (6 * k + d) 0, upd (upd fz (6 * k + d) 0) (6 * k + d) 1, lo_4 fl (6 * k + d) (fv (8 * (6 * k + (d - 1)) + g)), fv, rs, au)) : wpY_act post (q, wp, tn, sl, yd, nd, co, ca, cb, le, he, kl, tu, uy, tl, ul, tm, gc, ga, gp, ss, st, sf, fd, tc, tr, ow, ti, ft, fn, fh, fp, fz, fl, fv, rs, au) (nI k) (nI (6 * k + (d - 1))) (nI 16) (nI a) := by
  have ek : (nI k).toNatClampNeg = k := nI_clamp (by omega)
  have vk : vp_in (nI k) 6 := vp_in_nI hk (by decide)
  have ewc : (nI w).toNatClampNeg = w := nI_clamp (by omega)
  have vw : vp_in (nI w) 4 := vp_in_nI hw (by decide)
  have e1 : 4 * nI t + nI a = nI (4 * t + a) := ix_l 4 rfl t a
  have e2 : (nI (4 * t + a)).toNatClampNeg = 4 * t + a := nI_clamp (by omega)
  have v16 : vp_in (nI (4 * t + a)) 16 := vp_in_nI (by omega) (by decide)
  refine yl_ac (h := g) (by omega) eft (by decide) (by decide) efh (by omega) ?_
  refine br_f (by decide) (br_f (by decide) (br_f (by decide) (br_f (by decide) (br_t (by decide) (?_)))))
  rw [e1]
  refine ⟨v16, nm_r (e' := nI w) (by rw [e2, ew]) ⟨v16, ?_⟩⟩
  rw [e2]
  have cl := cf_le co (64 * w) n
  have e3 : nI (6 * k + (d - 1)) + 1 = nI (6 * k + d) := by rw [nI_1]; exact congrArg nI (by omega)
  have e4 : (nI (6 * k + d)).toNatClampNeg = 6 * k + d := nI_clamp (by omega)
  have vy : vp_in (nI (6 * k + (d - 1)) + 1) 36 := by rw [e3]; exact vp_in_nI (by omega) (by decide)
  refine br_f c1 ⟨v16, br_f c2 ⟨vw, ?_⟩⟩
  rw [ewc]
  refine br_t ck ⟨v16, yl_fns (by omega) hl hn (br_t ?_ (br_t (by decide) ⟨vk, br_f (by rw [ek, ed]; exact ix_ne 6 rfl (by omega) (by omega) (by decide)) ⟨v16, ?_⟩⟩))⟩
  · rw [ef]
    exact nI_lt c3 (by omega)
  · rw [e2, ef]
    refine yl_bf hk hd ed hw hl hn hj h0 hcf ⟨vy, nm_r (by rw [e3, e4, ix_bn1]) hp⟩
theorem yl_sd6 {post : SY → Prop} {k d t a w f g n : Nat} (hk : k < 6) (hd0 : 0 < d) (hd6 : d ≤ 6) (ed : fd k = nI d) (ht : t < 4) (eft : ft (6 * k + (d - 1)) = nI t) (efh : fh (6 * k + (d - 1)) = nI (g + 1)) (ha : a < 4) (ew : st (4 * t + a) = nI w) (ef : sf (4 * t + a) = nI f) (hw : w < 4) (hf : f < 4) (v1 : SY) (hg : g < 8) (hd : d = 6) (hl : le w = nI n) (hn : n ≤ 64)
    (c1 : ss (4 * t + a) ≠ 0) (c2 : ss (4 * t + a) ≠ 2) (ck : kl w = 0) (c3 : f < cf_n co (64 * w) n) (hr : ∀ post' : SY → Prop, post' v1 → wpY_raise post' (q, wp, tn, sl, yd, nd, co, ca, cb, le, he, kl, tu, uy, tl, ul, tm, gc, ga, gp, ss, st, sf, fd, tc, tr, ow, ti, ft, fn, upd fh (6 * k + (d - 1)) (nI g), fp, fz, fl, fv, rs, au) (nI k) 6) (hp : post v1) : wpY_act post (q, wp, tn, sl, yd, nd, co, ca, cb, le, he, kl, tu, uy, tl, ul, tm, gc, ga, gp, ss, st, sf, fd, tc, tr, ow, ti, ft, fn, fh, fp, fz, fl, fv, rs, au) (nI k) (nI (6 * k + (d - 1))) (nI 16) (nI a) := by
  have ek : (nI k).toNatClampNeg = k := nI_clamp (by omega)
  have vk : vp_in (nI k) 6 := vp_in_nI hk (by decide)
  have ewc : (nI w).toNatClampNeg = w := nI_clamp (by omega)
  have vw : vp_in (nI w) 4 := vp_in_nI hw (by decide)
  have e1 : 4 * nI t + nI a = nI (4 * t + a) := ix_l 4 rfl t a
  have e2 : (nI (4 * t + a)).toNatClampNeg = 4 * t + a := nI_clamp (by omega)
  have v16 : vp_in (nI (4 * t + a)) 16 := vp_in_nI (by omega) (by decide)
  refine yl_ac (h := g) (by omega) eft (by decide) (by decide) efh (by omega) ?_
  refine br_f (by decide) (br_f (by decide) (br_f (by decide) (br_f (by decide) (br_t (by decide) (?_)))))
  rw [e1]
  refine ⟨v16, nm_r (e' := nI w) (by rw [e2, ew]) ⟨v16, ?_⟩⟩
  rw [e2]
  have cl := cf_le co (64 * w) n
  refine br_f c1 ⟨v16, br_f c2 ⟨vw, ?_⟩⟩
  rw [ewc]
  refine br_t ck ⟨v16, yl_fns (by omega) hl hn (br_t ?_ (br_t (by decide) ⟨vk, br_t (by rw [ek, ed, hd]; rfl) (hr _ ?_)⟩))⟩
  · rw [ef]
    exact nI_lt c3 (by omega)
  · obtain ⟨y0, y1, y2, y3, y4, y5, y6, y7, y8, y9, y10, y11, y12, y13, y14, y15, y16, y17, y18, y19, y20, y21, y22, y23, y24, y25, y26, y27, y28, y29, y30, y31, y32, y33, y34, y35, y36⟩ := v1
    exact hp
theorem sx_16 {M : Nat} {H : Nat → Nat → Nat → Prop} {k s d t i h n c : Nat} (G : sg_R M H k s d t i h 16 n c q tn sl pc wp yd nd he co ca cb fs fc ts tu ux tl ul tm gc ga gp ss st sf tc tr ow ti fd ft fk fn fh fl fv rs nt le kl uy fp fz au) : sr_R M k s (q, tn, sl, pc, wp, he, co, ca, cb, fs, fc, ts, tu, ux, tl, ul, tm, gc, ga, gp, ss, st, sf, tc, tr, ow, ti, fd, ft, fk, fn, fh, fl, fv, rs, nt) (q, wp, tn, sl, yd, nd, co, ca, cb, le, he, kl, tu, uy, tl, ul, tm, gc, ga, gp, ss, st, sf, fd, tc, tr, ow, ti, ft, fn, fh, fp, fz, fl, fv, rs, au) := by
  have G' := G
  obtain ⟨C, htn, hsl, hyd, htc, B, hlo, hO, hK, hV, hn, hl, hh8, hle, hn64, hfc, hc4, z1, z2, z3, z4, z5, z6, z7, z8⟩ := G'
  have hk := B.1
  have hd0 := B.2.1
  have hd6 := B.2.2.1
  have ed := B.2.2.2.1
  have ht := B.2.2.2.2.1
  have eft := B.2.2.2.2.2.1
  have efh := B.2.2.2.2.2.2.2.1
  have hx : 6 * k + (d - 1) < 36 := by omega
  have ex : (nI (6 * k + (d - 1))).toNatClampNeg = 6 * k + (d - 1) := nI_clamp (by omega)
  have vx : vp_in (nI (6 * k + (d - 1))) 36 := vp_in_nI hx (by decide)
  have et : (nI t).toNatClampNeg = t := nI_clamp (by omega)
  have vt : vp_in (nI t) 4 := vp_in_nI ht (by decide)
  rw [po_16] at z5 z6
  rw [pu_16] at z6
  have hH := (z7 (by decide) (by decide) (by decide)).2
  rw [po_16, pu_16] at hH
  obtain ⟨g, rfl⟩ : ∃ g, h = g + 1 := ⟨h - 1, by omega⟩
  rw [show g + 1 - 1 + 2 = g + 1 + 1 by omega] at hH
  obtain ⟨a, ha, ea⟩ := z3 rfl
  obtain ⟨⟨w, hw, ew⟩, ⟨f, hf, ef⟩⟩ := C.2.2.2.2.1 (4 * t + a) (by omega)
  obtain ⟨n', c', b1, b2, b3, b4, b5, b6, b7, b8, b9, b10, b11⟩ := C.2.2.1 w hw
  have how : ∀ m : Nat, ((ss (4 * t + a) = 0 ∧ m = 5) ∨ (ss (4 * t + a) ≠ 0 ∧ ss (4 * t + a) = 2 ∧ m = 4) ∨ (ss (4 * t + a) ≠ 0 ∧ ss (4 * t + a) ≠ 2 ∧ (fc w ≤ nI f ∨ ts w ≠ 1) ∧ m = 3)) →
      ((ss (4 * t + a) = 0 ∧ m = 5) ∨ (ss (4 * t + a) ≠ 0 ∧ ss (4 * t + a) = 2 ∧ m = 4) ∨ (ss (4 * t + a) ≠ 0 ∧ ss (4 * t + a) ≠ 2 ∧ (kl w ≠ 0 ∨ ¬ f < cf_n co (64 * w) n') ∧ m = 3)) → sr_R M k s (q, tn, sl, pc, wp, he, co, ca, cb, fs, fc, ts, tu, ux, tl, ul, tm, gc, ga, gp, ss, st, sf, tc, tr, ow, ti, fd, ft, fk, fn, fh, fl, fv, rs, nt) (q, wp, tn, sl, yd, nd, co, ca, cb, le, he, kl, tu, uy, tl, ul, tm, gc, ga, gp, ss, st, sf, fd, tc, tr, ow, ti, ft, fn, fh, fp, fz, fl, fv, rs, au) := by
    intro m hX hY
    refine ⟨(q, tn, sl, pc, wp, he, co, ca, cb, fs, fc, ts, upd tu t (tu t + 1), ux, tl, ul, tm, gc, ga, gp, ss, st, sf, tc, tr, ow, ti, fd, ft, fk, upd fn (6 * k + (d - 1)) (nI (i + 1)), upd (upd (upd fh (6 * k + (d - 1)) (nI g)) (6 * k + (d - 1)) (nI (g + 1))) (6 * k + (d - 1)) (nI (g + 1 + 1)), fl, upd (upd fv (8 * (6 * k + (d - 1)) + g) 0) (8 * (6 * k + (d - 1)) + (g + 1)) (nI m), rs, nt), (q, wp, tn, sl, yd, nd, co, ca, cb, le, he, kl, upd tu t (tu t + 1), uy, tl, ul, tm, gc, ga, gp, ss, st, sf, fd, tc, tr, ow, ti, ft, upd fn (6 * k + (d - 1)) (nI (i + 1)), upd (upd (upd fh (6 * k + (d - 1)) (nI g)) (6 * k + (d - 1)) (nI (g + 1))) (6 * k + (d - 1)) (nI (g + 1 + 1)), fp, fz, fl, upd (upd fv (8 * (6 * k + (d - 1)) + g) 0) (8 * (6 * k + (d - 1)) + (g + 1)) (nI m), rs, au), pr_top (i' := i + 1) (h' := g + 1 + 1) G (rc_up C) (fun y hy => pk_un hy) pk_us (fun y hy => by rw [pk_un hy, pk_un hy, pk_un hy]) pk_us hH hV (Or.inl ⟨hsl, htc, hyd⟩), Or.inl (fun post hp => ?_), fun post hp => ?_⟩
    · exact xe_16 B _ 0 (fun post' hq => by rw [ea]; exact xl_sdw hk hd0 hd6 ed ht eft efh ha ew ef hw hf (by omega) hX hq) hp
    · exact yl_sa _ B hn hl (by decide) (by decide) (fun post' hq => by rw [ea]; exact yl_sdw hk hd0 hd6 ed ht eft efh ha ew ef hw hf (by omega) b2 b1 hY hq) hp
  by_cases s0 : ss (4 * t + a) = 0
  · exact how 5 (Or.inl ⟨s0, rfl⟩) (Or.inl ⟨s0, rfl⟩)
  by_cases s2 : ss (4 * t + a) = 2
  · exact how 4 (Or.inr (Or.inl ⟨s0, s2, rfl⟩)) (Or.inr (Or.inl ⟨s0, s2, rfl⟩))
  by_cases cE : kl w = 0 ∧ f < c'
  · obtain ⟨kw, fw⟩ := cE
    have fw' : f < cf_n co (64 * w) n' := by rw [← b5]; exact fw
    have hn' : n' ≠ 0 := by
      intro z
      rw [z] at fw'
      exact absurd fw' (Nat.not_lt_zero f)
    have hts : ts w = 1 := by rw [b8, if_neg hn', if_pos kw]
    have hfc' : ¬ fc w ≤ nI f := by rw [b4]; exact nI_ge fw (by omega)
    obtain ⟨j, j1, j2, j3, j4⟩ := b9 f fw
    by_cases c6 : d = 6
    · obtain ⟨u2, v2, r1, r2, r3⟩ := rs_all (q := q) (tn := tn) (sl := sl) (pc := pc) (wp := wp) (yd := yd) (nd := nd) (he := he) (co := co) (ca := ca) (cb := cb) (fs := fs) (fc := fc) (ts := ts) (ux := ux) (tl := tl) (ul := ul) (tm := tm) (gc := gc) (ga := ga) (gp := gp) (ss := ss) (st := st) (sf := sf) (tc := tc) (tr := tr) (ow := ow) (ti := ti) (fd := fd) (ft := ft) (fk := fk) (fl := fl) (fv := fv) (rs := rs) (nt := nt) (le := le) (kl := kl) (uy := uy) (fp := fp) (fz := fz) (au := au) (tu := upd tu t (tu t + 1)) (fn := upd fn (6 * k + (d - 1)) (nI (i + 1))) (fh := upd fh (6 * k + (d - 1)) (nI g)) (f := 6) (rc_up C) htn hsl hyd (by decide) hk htc hK hd0 hd6 ed (tl_cg hd0 hlo (fun _ _ => rfl) (fun y hy => pk_un (by omega)) (fun y hy => pk_un (by omega)) (fun _ _ => rfl)) (fun k' hk' ck => th_cg (hO k' hk' ck) (fun _ _ => rfl) (fun y hy => pk_un (by omega)) (fun y hy => pk_un (by omega)) (fun _ _ => rfl) rfl rfl) hV
      refine ⟨u2, v2, r1, Or.inr ⟨6, (q, tn, sl, pc, wp, he, co, ca, cb, fs, fc, ts, upd tu t (tu t + 1), ux, tl, ul, tm, gc, ga, gp, ss, st, sf, tc, tr, ow, ti, fd, ft, fk, upd fn (6 * k + (d - 1)) (nI (i + 1)), upd fh (6 * k + (d - 1)) (nI g), fl, fv, rs, nt), by decide, fun post hp => ?_, r2⟩, fun post hp => ?_⟩
      · exact xe_16 B _ 6 (fun post' hq => by rw [ea]; exact xl_sde hk hd0 hd6 ed ht eft efh ha ew ef hw hf (by omega) j2 s0 s2 hfc' hts (fun _ => hq) (fun z => absurd c6 (by omega))) hp
      · exact yl_sa _ B hn hl (by decide) (by decide) (fun post' hq => by rw [ea]; exact yl_sd6 hk hd0 hd6 ed ht eft efh ha ew ef hw hf _ (by omega) c6 b2 b1 s0 s2 kw fw' r3 hq) hp
    · refine ⟨(q, tn, sl, pc, wp, he, co, ca, cb, fs, fc, ts, upd tu t (tu t + 1), ux, tl, ul, tm, gc, ga, gp, ss, st, sf, tc, tr, ow, ti, upd fd k (nI (d + 1)), upd ft (6 * k + d) (nI w), upd fk (6 * k + d) 2, upd (upd fn (6 * k + (d - 1)) (nI (i + 1))) (6 * k + d) (nI j), upd (upd fh (6 * k + (d - 1)) (nI g)) (6 * k + d) 0, lo_4 fl (6 * k + d) (fv (8 * (6 * k + (d - 1)) + g)), fv, rs, nt), (q, wp, tn, sl, yd, nd, co, ca, cb, le, he, kl, upd tu t (tu t + 1), uy, tl, ul, tm, gc, ga, gp, ss, st, sf, upd fd k (nI (d + 1)), tc, tr, ow, ti, upd ft (6 * k + d) (nI w), upd (upd fn (6 * k + (d - 1)) (nI (i + 1))) (6 * k + d) (nI j), upd (upd fh (6 * k + (d - 1)) (nI g)) (6 * k + d) 0, upd fp (6 * k + d) 0, upd (upd fz (6 * k + d) 0) (6 * k + d) 1, lo_4 fl (6 * k + d) (fv (8 * (6 * k + (d - 1)) + g)), fv, rs, au), pr_call (e := 2) G (by omega) hw kw (b10 j j1 j3) (fun y hy => ⟨pk_un hy, pk_un hy, by rw [pk_un hy, pk_un hy]⟩) ?_ (by rw [pk_us]; rfl) hH, Or.inl (fun post hp => ?_), fun post hp => ?_⟩
      · exact Or.inr (Or.inr ⟨pk_us, pk_us, pk_us⟩)
      · exact xe_16 B _ 0 (fun post' hq => by rw [ea]; exact xl_sde hk hd0 hd6 ed ht eft efh ha ew ef hw hf (by omega) j2 s0 s2 hfc' hts (fun z => absurd z c6) (fun _ => hq)) hp
      · exact yl_sa _ B hn hl (by decide) (by decide) (fun post' hq => by rw [ea]; exact yl_sde hk hd0 hd6 ed ht eft efh ha ew ef hw hf (by omega) (by omega) b2 b1 j1 j3 j4 s0 s2 kw fw' hq) hp
  · refine how 3 (Or.inr (Or.inr ⟨s0, s2, ?_, rfl⟩)) (Or.inr (Or.inr ⟨s0, s2, ?_, rfl⟩))
    · by_cases kw : kl w = 0
      · refine Or.inl ?_
        rw [b4]
        exact nI_le (Nat.le_of_not_lt (fun z => cE ⟨kw, z⟩)) (by omega)
      · refine Or.inr ?_
        rw [b8]
        by_cases cn : n' = 0
        · rw [if_pos cn]; decide
        · rw [if_neg cn, if_neg kw]; decide
    · by_cases kw : kl w = 0
      · exact Or.inr (fun z => cE ⟨kw, by rw [b5]; exact z⟩)
      · exact Or.inl kw
theorem sx_17 {M : Nat} {H : Nat → Nat → Nat → Prop} {k s d t i h n c : Nat} (G : sg_R M H k s d t i h 17 n c q tn sl pc wp yd nd he co ca cb fs fc ts tu ux tl ul tm gc ga gp ss st sf tc tr ow ti fd ft fk fn fh fl fv rs nt le kl uy fp fz au) : sr_R M k s (q, tn, sl, pc, wp, he, co, ca, cb, fs, fc, ts, tu, ux, tl, ul, tm, gc, ga, gp, ss, st, sf, tc, tr, ow, ti, fd, ft, fk, fn, fh, fl, fv, rs, nt) (q, wp, tn, sl, yd, nd, co, ca, cb, le, he, kl, tu, uy, tl, ul, tm, gc, ga, gp, ss, st, sf, fd, tc, tr, ow, ti, ft, fn, fh, fp, fz, fl, fv, rs, au) := by
  have G' := G
  obtain ⟨C, htn, hsl, hyd, htc, B, hlo, hO, hK, hV, hn, hl, hh8, hle, hn64, hfc, hc4, z1, z2, z3, z4, z5, z6, z7, z8⟩ := G'
  have hk := B.1
  have hd0 := B.2.1
  have hd6 := B.2.2.1
  have ed := B.2.2.2.1
  have ht := B.2.2.2.2.1
  have eft := B.2.2.2.2.2.1
  have efh := B.2.2.2.2.2.2.2.1
  have hx : 6 * k + (d - 1) < 36 := by omega
  have ex : (nI (6 * k + (d - 1))).toNatClampNeg = 6 * k + (d - 1) := nI_clamp (by omega)
  have vx : vp_in (nI (6 * k + (d - 1))) 36 := vp_in_nI hx (by decide)
  have et : (nI t).toNatClampNeg = t := nI_clamp (by omega)
  have vt : vp_in (nI t) 4 := vp_in_nI ht (by decide)
  rw [po_17] at z5 z6
  rw [pu_17] at z6
  have hH := (z7 (by decide) (by decide) (by decide)).2
  rw [po_17, pu_17] at hH
  obtain ⟨g, rfl⟩ : ∃ g, h = g + 1 := ⟨h - 1, by omega⟩
  rw [show g + 1 - 1 + 1 = g + 1 by omega] at hH
  obtain ⟨f, hf, ea⟩ := z2 (by decide)
  have kt : kl t = 0 := hn.resolve_right (fun z => z (by unfold pl_P; omega))
  obtain ⟨n', c', b1, b2, b3, b4, b5, b6, b7, b8, b9, b10, b11⟩ := C.2.2.1 t ht
  have ec : c = c' := by
    rw [b4, nI_eq (by omega) (by omega)] at hfc
    exact hfc.symm
  subst ec
  obtain ⟨j, j1, j2, j3, j4⟩ := b9 f hf
  have X0 : ∀ (r r2 : Int32) (u1 : SX) (post : SX → Prop), (∀ post' : Int32 → Prop, post' r → wpX_domainsOf post' (q, tn, sl, pc, wp, he, co, ca, cb, fs, fc, ts, upd tu t (tu t + 1), ux, tl, ul, tm, gc, ga, gp, ss, st, sf, tc, tr, ow, ti, fd, ft, fk, upd fn (6 * k + (d - 1)) (nI (i + 1)), upd fh (6 * k + (d - 1)) (nI g), fl, fv, rs, nt) (nI k)) → (∀ post' : Int32 → SX → Prop, post' r2 u1 → wpX_beginThread post' (q, tn, sl, pc, wp, he, co, ca, cb, fs, fc, ts, upd tu t (tu t + 1), ux, tl, ul, tm, gc, ga, gp, ss, st, sf, tc, tr, ow, ti, fd, ft, fk, upd fn (6 * k + (d - 1)) (nI (i + 1)), upd fh (6 * k + (d - 1)) (nI g), fl, fv, rs, nt) (nI t) (nI f) (fv (8 * (6 * k + (d - 1)) + g)) r) →
      wpX_push post u1 (nI (6 * k + (d - 1))) r2 → wpX_spawnThread post (q, tn, sl, pc, wp, he, co, ca, cb, fs, fc, ts, upd tu t (tu t + 1), ux, tl, ul, tm, gc, ga, gp, ss, st, sf, tc, tr, ow, ti, fd, ft, fk, upd fn (6 * k + (d - 1)) (nI (i + 1)), fh, fl, fv, rs, nt) (nI k) (nI f) := by
    intro r r2 u1 post h1 h2 h3
    unfold wpX_spawnThread; dsimp only
    refine xl_top hk hd0 ed ?_
    refine xl_pop (h := g) (by omega) efh (by omega) ?_
    refine h1 _ ⟨vx, ?_⟩
    dsimp only
    rw [ex, eft]
    refine h2 _ ?_
    exact h3
  have Y0 : ∀ (r r2 : Int32) (v1 : SY) (post : SY → Prop), (∀ post' : Int32 → Prop, post' r → wpY_domains post' (q, wp, tn, sl, yd, nd, co, ca, cb, le, he, kl, upd tu t (tu t + 1), uy, tl, ul, tm, gc, ga, gp, ss, st, sf, fd, tc, tr, ow, ti, ft, upd fn (6 * k + (d - 1)) (nI (i + 1)), upd fh (6 * k + (d - 1)) (nI g), fp, fz, fl, fv, rs, au) (nI k)) → (∀ post' : Int32 → SY → Prop, post' r2 v1 → wpY_begin post' (q, wp, tn, sl, yd, nd, co, ca, cb, le, he, kl, upd tu t (tu t + 1), uy, tl, ul, tm, gc, ga, gp, ss, st, sf, fd, tc, tr, ow, ti, ft, upd fn (6 * k + (d - 1)) (nI (i + 1)), upd fh (6 * k + (d - 1)) (nI g), fp, fz, fl, fv, rs, au) (nI t) (nI f) (fv (8 * (6 * k + (d - 1)) + g)) r) →
      wpY_push post v1 (nI (6 * k + (d - 1))) r2 → wpY_act post (q, wp, tn, sl, yd, nd, co, ca, cb, le, he, kl, upd tu t (tu t + 1), uy, tl, ul, tm, gc, ga, gp, ss, st, sf, fd, tc, tr, ow, ti, ft, upd fn (6 * k + (d - 1)) (nI (i + 1)), fh, fp, fz, fl, fv, rs, au) (nI k) (nI (6 * k + (d - 1))) (nI 17) (nI f) := by
    intro r r2 v1 post h1 h2 h3
    refine yl_ac (h := g) (by omega) eft (by decide) (by decide) efh (by omega) ?_
    refine br_f (by decide) (br_f (by decide) (br_f (by decide) (br_f (by decide) (br_f (by decide) (br_t (by decide) (?_))))))
    refine h1 _ (h2 _ ?_)
    obtain ⟨y0, y1, y2, y3, y4, y5, y6, y7, y8, y9, y10, y11, y12, y13, y14, y15, y16, y17, y18, y19, y20, y21, y22, y23, y24, y25, y26, y27, y28, y29, y30, y31, y32, y33, y34, y35, y36⟩ := v1
    exact h3
  obtain ⟨r, x1, y1⟩ := dl_all (q := q) (tn := tn) (sl := sl) (pc := pc) (wp := wp) (yd := yd) (nd := nd) (he := he) (co := co) (ca := ca) (cb := cb) (fs := fs) (fc := fc) (ts := ts) (ux := ux) (tl := tl) (ul := ul) (tm := tm) (gc := gc) (ga := ga) (gp := gp) (ss := ss) (st := st) (sf := sf) (tc := tc) (tr := tr) (ow := ow) (ti := ti) (fd := fd) (ft := ft) (fk := fk) (fl := fl) (fv := fv) (rs := rs) (nt := nt) (le := le) (kl := kl) (uy := uy) (fp := fp) (fz := fz) (au := au) (tu := upd tu t (tu t + 1)) (fn := upd fn (6 * k + (d - 1)) (nI (i + 1))) (fh := upd fh (6 * k + (d - 1)) (nI g)) hk hd6 ed hK
  rcases bl_all (q := q) (tn := tn) (sl := sl) (pc := pc) (wp := wp) (yd := yd) (nd := nd) (he := he) (co := co) (ca := ca) (cb := cb) (fs := fs) (fc := fc) (ts := ts) (ux := ux) (tl := tl) (ul := ul) (tm := tm) (gc := gc) (ga := ga) (gp := gp) (ss := ss) (st := st) (sf := sf) (tc := tc) (tr := tr) (ow := ow) (ti := ti) (fd := fd) (ft := ft) (fk := fk) (fl := fl) (fv := fv) (rs := rs) (nt := nt) (le := le) (kl := kl) (uy := uy) (fp := fp) (fz := fz) (au := au) (tu := upd tu t (tu t + 1)) (fn := upd fn (6 * k + (d - 1)) (nI (i + 1))) (fh := upd fh (6 * k + (d - 1)) (nI g)) (w := fv (8 * (6 * k + (d - 1)) + g)) (s := r) (Or.inr ⟨k, hk, htn⟩) ht (by omega) j2 b2 b1 j1 j3 j4 with ⟨x2, y2⟩ | ⟨k2, tn', sl', h1, h2, h3, x2, y2⟩
  · refine ⟨(q, tn, sl, pc, wp, he, co, ca, cb, fs, fc, ts, upd tu t (tu t + 1), ux, tl, ul, tm, gc, ga, gp, ss, st, sf, tc, tr, ow, ti, fd, ft, fk, upd fn (6 * k + (d - 1)) (nI (i + 1)), upd (upd fh (6 * k + (d - 1)) (nI g)) (6 * k + (d - 1)) (nI (g + 1)), fl, upd fv (8 * (6 * k + (d - 1)) + g) (-1), rs, nt), (q, wp, tn, sl, yd, nd, co, ca, cb, le, he, kl, upd tu t (tu t + 1), uy, tl, ul, tm, gc, ga, gp, ss, st, sf, fd, tc, tr, ow, ti, ft, upd fn (6 * k + (d - 1)) (nI (i + 1)), upd (upd fh (6 * k + (d - 1)) (nI g)) (6 * k + (d - 1)) (nI (g + 1)), fp, fz, fl, upd fv (8 * (6 * k + (d - 1)) + g) (-1), rs, au), pr_top (i' := i + 1) (h' := g + 1) G (rc_up C) (fun y hy => pk_un hy) pk_us (fun y hy => by rw [pk_un hy, pk_un hy]) pk_us hH hV (Or.inl ⟨hsl, htc, hyd⟩), Or.inl (fun post hp => ?_), fun post hp => ?_⟩
    · exact xe_17 B _ (fun post' hq => by rw [ea]; exact X0 r (-1) _ _ x1 x2 (xl_push (h := g) (by omega) pk_us (by omega) hq)) hp
    · exact yl_sa _ B hn hl (by decide) (by decide) (fun post' hq => by rw [ea]; exact Y0 r (-1) _ _ y1 y2 (yl_push (h := g) (by omega) pk_us (by omega) hq)) hp
  · have ntn : tn ≠ -1 := by rw [htn]; exact ix_neg k (by omega)
    rcases h3 with ⟨z, _, _⟩ | ⟨_, e1, e2⟩
    · exact absurd z ntn
    rw [e1, e2] at x2 y2
    have ck : k2 ≠ k := fun z => h2 (by rw [z]; exact htc)
    obtain ⟨d2, q1, q2, q3, q4⟩ := hO k2 h1 ck
    have d20 : d2 = 0 := by
      rcases Nat.eq_zero_or_pos d2 with z | z
      · exact z
      · exact absurd (q3.mpr z) h2
    subst d20
    have pe : (upd (upd fh (6 * k + (d - 1)) (nI g)) (6 * k2 + 0) 0) (6 * k + (d - 1)) = nI g := by rw [pk_un (by omega), pk_us]
    refine ⟨(q, tn, sl, pc, wp, he, co, ca, cb, fs, fc, ts, upd tu t (tu t + 1), ux, tl, ul, tm, gc, ga, gp, ss, st, sf, upd tc k2 (-1), upd tr k2 0, upd ow k2 (nI t), upd ti k2 r, upd (upd fd k2 0) k2 (nI (0 + 1)), upd ft (6 * k2 + 0) (nI t), upd fk (6 * k2 + 0) 0, upd (upd fn (6 * k + (d - 1)) (nI (i + 1))) (6 * k2 + 0) (nI j), upd (upd (upd fh (6 * k + (d - 1)) (nI g)) (6 * k2 + 0) 0) (6 * k + (d - 1)) (nI (g + 1)), lo_4 fl (6 * k2 + 0) (fv (8 * (6 * k + (d - 1)) + g)), upd fv (8 * (6 * k + (d - 1)) + g) (nI k2), rs, nt), (q, wp, tn, sl, yd, nd, co, ca, cb, le, he, kl, upd tu t (tu t + 1), uy, tl, ul, tm, gc, ga, gp, ss, st, sf, upd (upd fd k2 0) k2 (nI (0 + 1)), upd tc k2 (-1), upd tr k2 0, upd ow k2 (nI t), upd ti k2 r, upd ft (6 * k2 + 0) (nI t), upd (upd fn (6 * k + (d - 1)) (nI (i + 1))) (6 * k2 + 0) (nI j), upd (upd (upd fh (6 * k + (d - 1)) (nI g)) (6 * k2 + 0) 0) (6 * k + (d - 1)) (nI (g + 1)), upd fp (6 * k2 + 0) 0, upd fz (6 * k2 + 0) 0, lo_4 fl (6 * k2 + 0) (fv (8 * (6 * k + (d - 1)) + g)), upd fv (8 * (6 * k + (d - 1)) + g) (nI k2), rs, au), mk_md (rc_up C) htn hsl (Or.inl ⟨hsl, by rw [pk_un (Ne.symm ck)]; exact htc, hyd⟩) ?_ ?_ ?_, Or.inl (fun post hp => ?_), fun post hp => ?_⟩
    · intro k' hk'
      by_cases c2 : k' = k2
      · subst c2
        exact ⟨1, by decide, pk_us, ⟨fun _ => by decide, fun _ => pk_us⟩, fun _ => ⟨⟨pk_us, fun y hy => absurd hy (by omega)⟩, t, j, 0, ht, pk_us, pk_us, by rw [pk_un (by omega)]; exact pk_us, b10 j j1 j3⟩⟩
      · by_cases c3 : k' = k
        · subst c3
          refine ⟨d, hd6, by rw [pk_un c2, pk_un c2]; exact ed, ⟨fun _ => hd0, fun _ => by rw [pk_un c2]; exact htc⟩, fun _ => ⟨tl_cg hd0 hlo (fun y hy => pk_un (by omega)) (fun y hy => by rw [pk_un (by omega), pk_un (by omega)]) (fun y hy => by rw [pk_un (by omega), pk_un (by omega), pk_un (by omega)]) (fun y hy => pk_un (by omega)), t, i + 1, g + 1, ht, by rw [pk_un (by omega)]; exact eft, by rw [pk_un (by omega), pk_us], pk_us, hH⟩⟩
        · exact th_cg (hO k' hk' c3) (fun y hy => pk_un (by omega)) (fun y hy => by rw [pk_un (by omega), pk_un (by omega)]) (fun y hy => by rw [pk_un (by omega), pk_un (by omega), pk_un (by omega)]) (fun y hy => pk_un (by omega)) (pk_un c2) (by rw [pk_un c2, pk_un c2])
    · intro x hx
      by_cases cx : x = 6 * k2 + 0
      · subst cx
        exact Or.inl ⟨pk_us, pk_us, pk_us⟩
      · unfold rl_kx
        rw [pk_un cx, pk_un cx, pk_un cx]
        exact hK x hx
    · exact rv_up (d := 0) (k := k2) hV ht kt (by decide) q2 pk_us (fun y hy => by rw [pk_un hy, pk_un hy]) pk_us (fun y hy => pk_un hy)
    · exact xe_17 B _ (fun post' hq => by rw [ea]; exact X0 r (nI k2) _ _ x1 x2 (xl_push (h := g) (by omega) pe (by omega) hq)) hp
    · exact yl_sa _ B hn hl (by decide) (by decide) (fun post' hq => by rw [ea]; exact Y0 r (nI k2) _ _ y1 y2 (yl_push (h := g) (by omega) pe (by omega) hq)) hp
end
