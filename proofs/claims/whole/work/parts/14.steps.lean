def sr_R (M k s : Nat) (u0 : SX) (v0 : SY) : Prop := ∃ (u2 : SX) (v2 : SY), md_R (M + 1) k s u2 v2 ∧
  ((∀ post : Int32 → SX → Prop, post 0 u2 → wpX_execute post u0 (nI k)) ∨ ∃ (f : Int32) (u1 : SX), f ≠ 0 ∧ (∀ post : Int32 → SX → Prop, post f u1 → wpX_execute post u0 (nI k)) ∧ (∀ post : SX → Prop, post u2 → wpX_unwind post u1 (nI k) f)) ∧
  (∀ post : SY → Prop, post v2 → wpY_step post v0 (nI k))
theorem ix_ai (a b : Int32) : (a.toInt64 + b.toInt64).toInt32 = a + b := by simp
section
variable {q tn sl pc wp yd nd : Int32} {he co ca cb fs fc ts tu ux tl ul tm gc ga gp ss st sf tc tr ow ti fd ft fk fn fh fl fv rs nt le kl uy fp fz au : Nat → Int32}
theorem sx_0 {M : Nat} {H : Nat → Nat → Nat → Prop} {k s d t i h n c : Nat} (G : sg_R M H k s d t i h 0 n c q tn sl pc wp yd nd he co ca cb fs fc ts tu ux tl ul tm gc ga gp ss st sf tc tr ow ti fd ft fk fn fh fl fv rs nt le kl uy fp fz au) : sr_R M k s (q, tn, sl, pc, wp, he, co, ca, cb, fs, fc, ts, tu, ux, tl, ul, tm, gc, ga, gp, ss, st, sf, tc, tr, ow, ti, fd, ft, fk, fn, fh, fl, fv, rs, nt) (q, wp, tn, sl, yd, nd, co, ca, cb, le, he, kl, tu, uy, tl, ul, tm, gc, ga, gp, ss, st, sf, fd, tc, tr, ow, ti, ft, fn, fh, fp, fz, fl, fv, rs, au) := by
  have G' := G
  obtain ⟨C, htn, hsl, hyd, htc, B, hlo, hO, hK, hV, hn, hl, hh8, hle, hn64, hfc, hc4, z1, z2, z3, z4, z5, z6, z7, z8⟩ := G'
  have hk := B.1
  have hd0 := B.2.1
  have hd6 := B.2.2.1
  have ed := B.2.2.2.1
  have ht := B.2.2.2.2.1
  have eft := B.2.2.2.2.2.1
  have efh := B.2.2.2.2.2.2.2.1
  have hx : 6 * k + (d - 1) < 36 := by omega
  have ex : (nI (6 * k + (d - 1))).toNatClampNeg = 6 * k + (d - 1) := nI_clamp (by omega)
  have vx : vp_in (nI (6 * k + (d - 1))) 36 := vp_in_nI hx (by decide)
  have et : (nI t).toNatClampNeg = t := nI_clamp (by omega)
  have vt : vp_in (nI t) 4 := vp_in_nI ht (by decide)
  rw [po_0] at z5 z6
  rw [pu_0] at z6
  have hH := (z7 (by decide) (by decide) (by decide)).2
  rw [po_0, pu_0] at hH
  rw [show h - 0 + 0 = h by omega] at hH
  refine ⟨(q, tn, sl, pc, wp, he, co, ca, cb, fs, fc, ts, upd tu t (tu t + 1), ux, tl, ul, tm, gc, ga, gp, ss, st, sf, tc, tr, ow, ti, fd, ft, fk, upd fn (6 * k + (d - 1)) (nI (i + 1)), fh, fl, fv, rs, nt), (q, wp, tn, sl, yd, nd, co, ca, cb, le, he, kl, upd tu t (tu t + 1), uy, tl, ul, tm, gc, ga, gp, ss, st, sf, fd, tc, tr, ow, ti, ft, upd fn (6 * k + (d - 1)) (nI (i + 1)), fh, fp, fz, fl, fv, rs, au), pr_top (i' := i + 1) (h' := h) G (rc_up C) (fun y hy => pk_un hy) pk_us (fun _ _ => rfl) efh hH hV (Or.inl ⟨hsl, htc, hyd⟩), Or.inl (fun post hp => ?_), fun post hp => ?_⟩
  · exact xl_cv _ B (by decide) (fun post' hq => xc_0 hx hq) hp
  · exact yl_sc _ B hn hl (by decide) (fun post' hq => yc_0 hx hq) hp
theorem sx_1 {M : Nat} {H : Nat → Nat → Nat → Prop} {k s d t i h n c : Nat} (G : sg_R M H k s d t i h 1 n c q tn sl pc wp yd nd he co ca cb fs fc ts tu ux tl ul tm gc ga gp ss st sf tc tr ow ti fd ft fk fn fh fl fv rs nt le kl uy fp fz au) : sr_R M k s (q, tn, sl, pc, wp, he, co, ca, cb, fs, fc, ts, tu, ux, tl, ul, tm, gc, ga, gp, ss, st, sf, tc, tr, ow, ti, fd, ft, fk, fn, fh, fl, fv, rs, nt) (q, wp, tn, sl, yd, nd, co, ca, cb, le, he, kl, tu, uy, tl, ul, tm, gc, ga, gp, ss, st, sf, fd, tc, tr, ow, ti, ft, fn, fh, fp, fz, fl, fv, rs, au) := by
  have G' := G
  obtain ⟨C, htn, hsl, hyd, htc, B, hlo, hO, hK, hV, hn, hl, hh8, hle, hn64, hfc, hc4, z1, z2, z3, z4, z5, z6, z7, z8⟩ := G'
  have hk := B.1
  have hd0 := B.2.1
  have hd6 := B.2.2.1
  have ed := B.2.2.2.1
  have ht := B.2.2.2.2.1
  have eft := B.2.2.2.2.2.1
  have efh := B.2.2.2.2.2.2.2.1
  have hx : 6 * k + (d - 1) < 36 := by omega
  have ex : (nI (6 * k + (d - 1))).toNatClampNeg = 6 * k + (d - 1) := nI_clamp (by omega)
  have vx : vp_in (nI (6 * k + (d - 1))) 36 := vp_in_nI hx (by decide)
  have et : (nI t).toNatClampNeg = t := nI_clamp (by omega)
  have vt : vp_in (nI t) 4 := vp_in_nI ht (by decide)
  rw [po_1] at z5 z6
  rw [pu_1] at z6
  have hH := (z7 (by decide) (by decide) (by decide)).2
  rw [po_1, pu_1] at hH
  rw [show h - 0 + 1 = h + 1 by omega] at hH
  refine ⟨(q, tn, sl, pc, wp, he, co, ca, cb, fs, fc, ts, upd tu t (tu t + 1), ux, tl, ul, tm, gc, ga, gp, ss, st, sf, tc, tr, ow, ti, fd, ft, fk, upd fn (6 * k + (d - 1)) (nI (i + 1)), upd fh (6 * k + (d - 1)) (nI (h + 1)), fl, upd fv (8 * (6 * k + (d - 1)) + h) (ca (64 * t + i)), rs, nt), (q, wp, tn, sl, yd, nd, co, ca, cb, le, he, kl, upd tu t (tu t + 1), uy, tl, ul, tm, gc, ga, gp, ss, st, sf, fd, tc, tr, ow, ti, ft, upd fn (6 * k + (d - 1)) (nI (i + 1)), upd fh (6 * k + (d - 1)) (nI (h + 1)), fp, fz, fl, upd fv (8 * (6 * k + (d - 1)) + h) (ca (64 * t + i)), rs, au), pr_top (i' := i + 1) (h' := h + 1) G (rc_up C) (fun y hy => pk_un hy) pk_us (fun y hy => by rw [pk_un hy]) pk_us hH hV (Or.inl ⟨hsl, htc, hyd⟩), Or.inl (fun post hp => ?_), fun post hp => ?_⟩
  · exact xl_cv _ B (by decide) (fun post' hq => xc_1 hx efh (by omega) hq) hp
  · exact yl_sc _ B hn hl (by decide) (fun post' hq => yc_1 hx efh (by omega) hq) hp
theorem sx_2 {M : Nat} {H : Nat → Nat → Nat → Prop} {k s d t i h n c : Nat} (G : sg_R M H k s d t i h 2 n c q tn sl pc wp yd nd he co ca cb fs fc ts tu ux tl ul tm gc ga gp ss st sf tc tr ow ti fd ft fk fn fh fl fv rs nt le kl uy fp fz au) : sr_R M k s (q, tn, sl, pc, wp, he, co, ca, cb, fs, fc, ts, tu, ux, tl, ul, tm, gc, ga, gp, ss, st, sf, tc, tr, ow, ti, fd, ft, fk, fn, fh, fl, fv, rs, nt) (q, wp, tn, sl, yd, nd, co, ca, cb, le, he, kl, tu, uy, tl, ul, tm, gc, ga, gp, ss, st, sf, fd, tc, tr, ow, ti, ft, fn, fh, fp, fz, fl, fv, rs, au) := by
  have G' := G
  obtain ⟨C, htn, hsl, hyd, htc, B, hlo, hO, hK, hV, hn, hl, hh8, hle, hn64, hfc, hc4, z1, z2, z3, z4, z5, z6, z7, z8⟩ := G'
  have hk := B.1
  have hd0 := B.2.1
  have hd6 := B.2.2.1
  have ed := B.2.2.2.1
  have ht := B.2.2.2.2.1
  have eft := B.2.2.2.2.2.1
  have efh := B.2.2.2.2.2.2.2.1
  have hx : 6 * k + (d - 1) < 36 := by omega
  have ex : (nI (6 * k + (d - 1))).toNatClampNeg = 6 * k + (d - 1) := nI_clamp (by omega)
  have vx : vp_in (nI (6 * k + (d - 1))) 36 := vp_in_nI hx (by decide)
  have et : (nI t).toNatClampNeg = t := nI_clamp (by omega)
  have vt : vp_in (nI t) 4 := vp_in_nI ht (by decide)
  rw [po_2] at z5 z6
  rw [pu_2] at z6
  have hH := (z7 (by decide) (by decide) (by decide)).2
  rw [po_2, pu_2] at hH
  obtain ⟨g, rfl⟩ : ∃ g, h = g + 1 := ⟨h - 1, by omega⟩
  rw [show g + 1 - 1 + 2 = g + 1 + 1 by omega] at hH
  refine ⟨(q, tn, sl, pc, wp, he, co, ca, cb, fs, fc, ts, upd tu t (tu t + 1), ux, tl, ul, tm, gc, ga, gp, ss, st, sf, tc, tr, ow, ti, fd, ft, fk, upd fn (6 * k + (d - 1)) (nI (i + 1)), upd (upd (upd fh (6 * k + (d - 1)) (nI g)) (6 * k + (d - 1)) (nI (g + 1))) (6 * k + (d - 1)) (nI (g + 1 + 1)), fl, upd (upd fv (8 * (6 * k + (d - 1)) + g) (fv (8 * (6 * k + (d - 1)) + g))) (8 * (6 * k + (d - 1)) + (g + 1)) (fv (8 * (6 * k + (d - 1)) + g)), rs, nt), (q, wp, tn, sl, yd, nd, co, ca, cb, le, he, kl, upd tu t (tu t + 1), uy, tl, ul, tm, gc, ga, gp, ss, st, sf, fd, tc, tr, ow, ti, ft, upd fn (6 * k + (d - 1)) (nI (i + 1)), upd (upd (upd fh (6 * k + (d - 1)) (nI g)) (6 * k + (d - 1)) (nI (g + 1))) (6 * k + (d - 1)) (nI (g + 1 + 1)), fp, fz, fl, upd (upd fv (8 * (6 * k + (d - 1)) + g) (fv (8 * (6 * k + (d - 1)) + g))) (8 * (6 * k + (d - 1)) + (g + 1)) (fv (8 * (6 * k + (d - 1)) + g)), rs, au), pr_top (i' := i + 1) (h' := g + 1 + 1) G (rc_up C) (fun y hy => pk_un hy) pk_us (fun y hy => by rw [pk_un hy, pk_un hy, pk_un hy]) pk_us hH hV (Or.inl ⟨hsl, htc, hyd⟩), Or.inl (fun post hp => ?_), fun post hp => ?_⟩
  · exact xl_cv _ B (by decide) (fun post' hq => xc_2 hx efh (by omega) hq) hp
  · exact yl_sc _ B hn hl (by decide) (fun post' hq => yc_2 hx efh (by omega) hq) hp
theorem sx_3 {M : Nat} {H : Nat → Nat → Nat → Prop} {k s d t i h n c : Nat} (G : sg_R M H k s d t i h 3 n c q tn sl pc wp yd nd he co ca cb fs fc ts tu ux tl ul tm gc ga gp ss st sf tc tr ow ti fd ft fk fn fh fl fv rs nt le kl uy fp fz au) : sr_R M k s (q, tn, sl, pc, wp, he, co, ca, cb, fs, fc, ts, tu, ux, tl, ul, tm, gc, ga, gp, ss, st, sf, tc, tr, ow, ti, fd, ft, fk, fn, fh, fl, fv, rs, nt) (q, wp, tn, sl, yd, nd, co, ca, cb, le, he, kl, tu, uy, tl, ul, tm, gc, ga, gp, ss, st, sf, fd, tc, tr, ow, ti, ft, fn, fh, fp, fz, fl, fv, rs, au) := by
  have G' := G
  obtain ⟨C, htn, hsl, hyd, htc, B, hlo, hO, hK, hV, hn, hl, hh8, hle, hn64, hfc, hc4, z1, z2, z3, z4, z5, z6, z7, z8⟩ := G'
  have hk := B.1
  have hd0 := B.2.1
  have hd6 := B.2.2.1
  have ed := B.2.2.2.1
  have ht := B.2.2.2.2.1
  have eft := B.2.2.2.2.2.1
  have efh := B.2.2.2.2.2.2.2.1
  have hx : 6 * k + (d - 1) < 36 := by omega
  have ex : (nI (6 * k + (d - 1))).toNatClampNeg = 6 * k + (d - 1) := nI_clamp (by omega)
  have vx : vp_in (nI (6 * k + (d - 1))) 36 := vp_in_nI hx (by decide)
  have et : (nI t).toNatClampNeg = t := nI_clamp (by omega)
  have vt : vp_in (nI t) 4 := vp_in_nI ht (by decide)
  rw [po_3] at z5 z6
  rw [pu_3] at z6
  have hH := (z7 (by decide) (by decide) (by decide)).2
  rw [po_3, pu_3] at hH
  obtain ⟨g, rfl⟩ : ∃ g, h = g + 1 := ⟨h - 1, by omega⟩
  rw [show g + 1 - 1 + 0 = g by omega] at hH
  refine ⟨(q, tn, sl, pc, wp, he, co, ca, cb, fs, fc, ts, upd tu t (tu t + 1), ux, tl, ul, tm, gc, ga, gp, ss, st, sf, tc, tr, ow, ti, fd, ft, fk, upd fn (6 * k + (d - 1)) (nI (i + 1)), upd fh (6 * k + (d - 1)) (nI g), fl, fv, rs, nt), (q, wp, tn, sl, yd, nd, co, ca, cb, le, he, kl, upd tu t (tu t + 1), uy, tl, ul, tm, gc, ga, gp, ss, st, sf, fd, tc, tr, ow, ti, ft, upd fn (6 * k + (d - 1)) (nI (i + 1)), upd fh (6 * k + (d - 1)) (nI g), fp, fz, fl, fv, rs, au), pr_top (i' := i + 1) (h' := g) G (rc_up C) (fun y hy => pk_un hy) pk_us (fun y hy => by rw [pk_un hy]) pk_us hH hV (Or.inl ⟨hsl, htc, hyd⟩), Or.inl (fun post hp => ?_), fun post hp => ?_⟩
  · exact xl_cv _ B (by decide) (fun post' hq => xc_3 hx efh (by omega) hq) hp
  · exact yl_sc _ B hn hl (by decide) (fun post' hq => yc_3 hx efh (by omega) hq) hp
theorem sx_4 {M : Nat} {H : Nat → Nat → Nat → Prop} {k s d t i h n c : Nat} (G : sg_R M H k s d t i h 4 n c q tn sl pc wp yd nd he co ca cb fs fc ts tu ux tl ul tm gc ga gp ss st sf tc tr ow ti fd ft fk fn fh fl fv rs nt le kl uy fp fz au) : sr_R M k s (q, tn, sl, pc, wp, he, co, ca, cb, fs, fc, ts, tu, ux, tl, ul, tm, gc, ga, gp, ss, st, sf, tc, tr, ow, ti, fd, ft, fk, fn, fh, fl, fv, rs, nt) (q, wp, tn, sl, yd, nd, co, ca, cb, le, he, kl, tu, uy, tl, ul, tm, gc, ga, gp, ss, st, sf, fd, tc, tr, ow, ti, ft, fn, fh, fp, fz, fl, fv, rs, au) := by
  have G' := G
  obtain ⟨C, htn, hsl, hyd, htc, B, hlo, hO, hK, hV, hn, hl, hh8, hle, hn64, hfc, hc4, z1, z2, z3, z4, z5, z6, z7, z8⟩ := G'
  have hk := B.1
  have hd0 := B.2.1
  have hd6 := B.2.2.1
  have ed := B.2.2.2.1
  have ht := B.2.2.2.2.1
  have eft := B.2.2.2.2.2.1
  have efh := B.2.2.2.2.2.2.2.1
  have hx : 6 * k + (d - 1) < 36 := by omega
  have ex : (nI (6 * k + (d - 1))).toNatClampNeg = 6 * k + (d - 1) := nI_clamp (by omega)
  have vx : vp_in (nI (6 * k + (d - 1))) 36 := vp_in_nI hx (by decide)
  have et : (nI t).toNatClampNeg = t := nI_clamp (by omega)
  have vt : vp_in (nI t) 4 := vp_in_nI ht (by decide)
  rw [po_4] at z5 z6
  rw [pu_4] at z6
  have hH := (z7 (by decide) (by decide) (by decide)).2
  rw [po_4, pu_4] at hH
  obtain ⟨g, rfl⟩ : ∃ g, h = g + 1 + 1 := ⟨h - 2, by omega⟩
  rw [show g + 1 + 1 - 2 + 2 = g + 1 + 1 by omega] at hH
  refine ⟨(q, tn, sl, pc, wp, he, co, ca, cb, fs, fc, ts, upd tu t (tu t + 1), ux, tl, ul, tm, gc, ga, gp, ss, st, sf, tc, tr, ow, ti, fd, ft, fk, upd fn (6 * k + (d - 1)) (nI (i + 1)), upd (upd (upd (upd fh (6 * k + (d - 1)) (nI (g + 1))) (6 * k + (d - 1)) (nI g)) (6 * k + (d - 1)) (nI (g + 1))) (6 * k + (d - 1)) (nI (g + 1 + 1)), fl, upd (upd fv (8 * (6 * k + (d - 1)) + g) (fv (8 * (6 * k + (d - 1)) + (g + 1)))) (8 * (6 * k + (d - 1)) + (g + 1)) (fv (8 * (6 * k + (d - 1)) + g)), rs, nt), (q, wp, tn, sl, yd, nd, co, ca, cb, le, he, kl, upd tu t (tu t + 1), uy, tl, ul, tm, gc, ga, gp, ss, st, sf, fd, tc, tr, ow, ti, ft, upd fn (6 * k + (d - 1)) (nI (i + 1)), upd (upd (upd (upd fh (6 * k + (d - 1)) (nI (g + 1))) (6 * k + (d - 1)) (nI g)) (6 * k + (d - 1)) (nI (g + 1))) (6 * k + (d - 1)) (nI (g + 1 + 1)), fp, fz, fl, upd (upd fv (8 * (6 * k + (d - 1)) + g) (fv (8 * (6 * k + (d - 1)) + (g + 1)))) (8 * (6 * k + (d - 1)) + (g + 1)) (fv (8 * (6 * k + (d - 1)) + g)), rs, au), pr_top (i' := i + 1) (h' := g + 1 + 1) G (rc_up C) (fun y hy => pk_un hy) pk_us (fun y hy => by rw [pk_un hy, pk_un hy, pk_un hy, pk_un hy]) pk_us hH hV (Or.inl ⟨hsl, htc, hyd⟩), Or.inl (fun post hp => ?_), fun post hp => ?_⟩
  · exact xl_cv _ B (by decide) (fun post' hq => xc_4 hx efh (by omega) hq) hp
  · exact yl_sc _ B hn hl (by decide) (fun post' hq => yc_4 hx efh (by omega) hq) hp
theorem sx_5 {M : Nat} {H : Nat → Nat → Nat → Prop} {k s d t i h n c : Nat} (G : sg_R M H k s d t i h 5 n c q tn sl pc wp yd nd he co ca cb fs fc ts tu ux tl ul tm gc ga gp ss st sf tc tr ow ti fd ft fk fn fh fl fv rs nt le kl uy fp fz au) : sr_R M k s (q, tn, sl, pc, wp, he, co, ca, cb, fs, fc, ts, tu, ux, tl, ul, tm, gc, ga, gp, ss, st, sf, tc, tr, ow, ti, fd, ft, fk, fn, fh, fl, fv, rs, nt) (q, wp, tn, sl, yd, nd, co, ca, cb, le, he, kl, tu, uy, tl, ul, tm, gc, ga, gp, ss, st, sf, fd, tc, tr, ow, ti, ft, fn, fh, fp, fz, fl, fv, rs, au) := by
  have G' := G
  obtain ⟨C, htn, hsl, hyd, htc, B, hlo, hO, hK, hV, hn, hl, hh8, hle, hn64, hfc, hc4, z1, z2, z3, z4, z5, z6, z7, z8⟩ := G'
  have hk := B.1
  have hd0 := B.2.1
  have hd6 := B.2.2.1
  have ed := B.2.2.2.1
  have ht := B.2.2.2.2.1
  have eft := B.2.2.2.2.2.1
  have efh := B.2.2.2.2.2.2.2.1
  have hx : 6 * k + (d - 1) < 36 := by omega
  have ex : (nI (6 * k + (d - 1))).toNatClampNeg = 6 * k + (d - 1) := nI_clamp (by omega)
  have vx : vp_in (nI (6 * k + (d - 1))) 36 := vp_in_nI hx (by decide)
  have et : (nI t).toNatClampNeg = t := nI_clamp (by omega)
  have vt : vp_in (nI t) 4 := vp_in_nI ht (by decide)
  rw [po_5] at z5 z6
  rw [pu_5] at z6
  have hH := (z7 (by decide) (by decide) (by decide)).2
  rw [po_5, pu_5] at hH
  obtain ⟨g, rfl⟩ : ∃ g, h = g + 1 + 1 := ⟨h - 2, by omega⟩
  rw [show g + 1 + 1 - 2 + 1 = g + 1 by omega] at hH
  refine ⟨(q, tn, sl, pc, wp, he, co, ca, cb, fs, fc, ts, upd tu t (tu t + 1), ux, tl, ul, tm, gc, ga, gp, ss, st, sf, tc, tr, ow, ti, fd, ft, fk, upd fn (6 * k + (d - 1)) (nI (i + 1)), upd (upd (upd fh (6 * k + (d - 1)) (nI (g + 1))) (6 * k + (d - 1)) (nI g)) (6 * k + (d - 1)) (nI (g + 1)), fl, upd fv (8 * (6 * k + (d - 1)) + g) (cm_v 5 (fv (8 * (6 * k + (d - 1)) + g)) (fv (8 * (6 * k + (d - 1)) + (g + 1)))), rs, nt), (q, wp, tn, sl, yd, nd, co, ca, cb, le, he, kl, upd tu t (tu t + 1), uy, tl, ul, tm, gc, ga, gp, ss, st, sf, fd, tc, tr, ow, ti, ft, upd fn (6 * k + (d - 1)) (nI (i + 1)), upd (upd (upd fh (6 * k + (d - 1)) (nI (g + 1))) (6 * k + (d - 1)) (nI g)) (6 * k + (d - 1)) (nI (g + 1)), fp, fz, fl, upd fv (8 * (6 * k + (d - 1)) + g) (cm_v 5 (fv (8 * (6 * k + (d - 1)) + g)) (fv (8 * (6 * k + (d - 1)) + (g + 1)))), rs, au), pr_top (i' := i + 1) (h' := g + 1) G (rc_up C) (fun y hy => pk_un hy) pk_us (fun y hy => by rw [pk_un hy, pk_un hy, pk_un hy]) pk_us hH hV (Or.inl ⟨hsl, htc, hyd⟩), Or.inl (fun post hp => ?_), fun post hp => ?_⟩
  · exact xl_cv _ B (by decide) (fun post' hq => xc_5 hx efh (by omega) hq) hp
  · exact yl_sc _ B hn hl (by decide) (fun post' hq => yc_5 hx efh (by omega) hq) hp
theorem sx_6 {M : Nat} {H : Nat → Nat → Nat → Prop} {k s d t i h n c : Nat} (G : sg_R M H k s d t i h 6 n c q tn sl pc wp yd nd he co ca cb fs fc ts tu ux tl ul tm gc ga gp ss st sf tc tr ow ti fd ft fk fn fh fl fv rs nt le kl uy fp fz au) : sr_R M k s (q, tn, sl, pc, wp, he, co, ca, cb, fs, fc, ts, tu, ux, tl, ul, tm, gc, ga, gp, ss, st, sf, tc, tr, ow, ti, fd, ft, fk, fn, fh, fl, fv, rs, nt) (q, wp, tn, sl, yd, nd, co, ca, cb, le, he, kl, tu, uy, tl, ul, tm, gc, ga, gp, ss, st, sf, fd, tc, tr, ow, ti, ft, fn, fh, fp, fz, fl, fv, rs, au) := by
  have G' := G
  obtain ⟨C, htn, hsl, hyd, htc, B, hlo, hO, hK, hV, hn, hl, hh8, hle, hn64, hfc, hc4, z1, z2, z3, z4, z5, z6, z7, z8⟩ := G'
  have hk := B.1
  have hd0 := B.2.1
  have hd6 := B.2.2.1
  have ed := B.2.2.2.1
  have ht := B.2.2.2.2.1
  have eft := B.2.2.2.2.2.1
  have efh := B.2.2.2.2.2.2.2.1
  have hx : 6 * k + (d - 1) < 36 := by omega
  have ex : (nI (6 * k + (d - 1))).toNatClampNeg = 6 * k + (d - 1) := nI_clamp (by omega)
  have vx : vp_in (nI (6 * k + (d - 1))) 36 := vp_in_nI hx (by decide)
  have et : (nI t).toNatClampNeg = t := nI_clamp (by omega)
  have vt : vp_in (nI t) 4 := vp_in_nI ht (by decide)
  rw [po_6] at z5 z6
  rw [pu_6] at z6
  have hH := (z7 (by decide) (by decide) (by decide)).2
  rw [po_6, pu_6] at hH
  obtain ⟨g, rfl⟩ : ∃ g, h = g + 1 + 1 := ⟨h - 2, by omega⟩
  rw [show g + 1 + 1 - 2 + 1 = g + 1 by omega] at hH
  refine ⟨(q, tn, sl, pc, wp, he, co, ca, cb, fs, fc, ts, upd tu t (tu t + 1), ux, tl, ul, tm, gc, ga, gp, ss, st, sf, tc, tr, ow, ti, fd, ft, fk, upd fn (6 * k + (d - 1)) (nI (i + 1)), upd (upd (upd fh (6 * k + (d - 1)) (nI (g + 1))) (6 * k + (d - 1)) (nI g)) (6 * k + (d - 1)) (nI (g + 1)), fl, upd fv (8 * (6 * k + (d - 1)) + g) (cm_v 6 (fv (8 * (6 * k + (d - 1)) + g)) (fv (8 * (6 * k + (d - 1)) + (g + 1)))), rs, nt), (q, wp, tn, sl, yd, nd, co, ca, cb, le, he, kl, upd tu t (tu t + 1), uy, tl, ul, tm, gc, ga, gp, ss, st, sf, fd, tc, tr, ow, ti, ft, upd fn (6 * k + (d - 1)) (nI (i + 1)), upd (upd (upd fh (6 * k + (d - 1)) (nI (g + 1))) (6 * k + (d - 1)) (nI g)) (6 * k + (d - 1)) (nI (g + 1)), fp, fz, fl, upd fv (8 * (6 * k + (d - 1)) + g) (cm_v 6 (fv (8 * (6 * k + (d - 1)) + g)) (fv (8 * (6 * k + (d - 1)) + (g + 1)))), rs, au), pr_top (i' := i + 1) (h' := g + 1) G (rc_up C) (fun y hy => pk_un hy) pk_us (fun y hy => by rw [pk_un hy, pk_un hy, pk_un hy]) pk_us hH hV (Or.inl ⟨hsl, htc, hyd⟩), Or.inl (fun post hp => ?_), fun post hp => ?_⟩
  · exact xl_cv _ B (by decide) (fun post' hq => xc_6 hx efh (by omega) hq) hp
  · exact yl_sc _ B hn hl (by decide) (fun post' hq => yc_6 hx efh (by omega) hq) hp
theorem sx_7 {M : Nat} {H : Nat → Nat → Nat → Prop} {k s d t i h n c : Nat} (G : sg_R M H k s d t i h 7 n c q tn sl pc wp yd nd he co ca cb fs fc ts tu ux tl ul tm gc ga gp ss st sf tc tr ow ti fd ft fk fn fh fl fv rs nt le kl uy fp fz au) : sr_R M k s (q, tn, sl, pc, wp, he, co, ca, cb, fs, fc, ts, tu, ux, tl, ul, tm, gc, ga, gp, ss, st, sf, tc, tr, ow, ti, fd, ft, fk, fn, fh, fl, fv, rs, nt) (q, wp, tn, sl, yd, nd, co, ca, cb, le, he, kl, tu, uy, tl, ul, tm, gc, ga, gp, ss, st, sf, fd, tc, tr, ow, ti, ft, fn, fh, fp, fz, fl, fv, rs, au) := by
  have G' := G
  obtain ⟨C, htn, hsl, hyd, htc, B, hlo, hO, hK, hV, hn, hl, hh8, hle, hn64, hfc, hc4, z1, z2, z3, z4, z5, z6, z7, z8⟩ := G'
  have hk := B.1
  have hd0 := B.2.1
  have hd6 := B.2.2.1
  have ed := B.2.2.2.1
  have ht := B.2.2.2.2.1
  have eft := B.2.2.2.2.2.1
  have efh := B.2.2.2.2.2.2.2.1
  have hx : 6 * k + (d - 1) < 36 := by omega
  have ex : (nI (6 * k + (d - 1))).toNatClampNeg = 6 * k + (d - 1) := nI_clamp (by omega)
  have vx : vp_in (nI (6 * k + (d - 1))) 36 := vp_in_nI hx (by decide)
  have et : (nI t).toNatClampNeg = t := nI_clamp (by omega)
  have vt : vp_in (nI t) 4 := vp_in_nI ht (by decide)
  rw [po_7] at z5 z6
  rw [pu_7] at z6
  have hH := (z7 (by decide) (by decide) (by decide)).2
  rw [po_7, pu_7] at hH
  obtain ⟨g, rfl⟩ : ∃ g, h = g + 1 + 1 := ⟨h - 2, by omega⟩
  rw [show g + 1 + 1 - 2 + 1 = g + 1 by omega] at hH
  refine ⟨(q, tn, sl, pc, wp, he, co, ca, cb, fs, fc, ts, upd tu t (tu t + 1), ux, tl, ul, tm, gc, ga, gp, ss, st, sf, tc, tr, ow, ti, fd, ft, fk, upd fn (6 * k + (d - 1)) (nI (i + 1)), upd (upd (upd fh (6 * k + (d - 1)) (nI (g + 1))) (6 * k + (d - 1)) (nI g)) (6 * k + (d - 1)) (nI (g + 1)), fl, upd fv (8 * (6 * k + (d - 1)) + g) (cm_v 7 (fv (8 * (6 * k + (d - 1)) + g)) (fv (8 * (6 * k + (d - 1)) + (g + 1)))), rs, nt), (q, wp, tn, sl, yd, nd, co, ca, cb, le, he, kl, upd tu t (tu t + 1), uy, tl, ul, tm, gc, ga, gp, ss, st, sf, fd, tc, tr, ow, ti, ft, upd fn (6 * k + (d - 1)) (nI (i + 1)), upd (upd (upd fh (6 * k + (d - 1)) (nI (g + 1))) (6 * k + (d - 1)) (nI g)) (6 * k + (d - 1)) (nI (g + 1)), fp, fz, fl, upd fv (8 * (6 * k + (d - 1)) + g) (cm_v 7 (fv (8 * (6 * k + (d - 1)) + g)) (fv (8 * (6 * k + (d - 1)) + (g + 1)))), rs, au), pr_top (i' := i + 1) (h' := g + 1) G (rc_up C) (fun y hy => pk_un hy) pk_us (fun y hy => by rw [pk_un hy, pk_un hy, pk_un hy]) pk_us hH hV (Or.inl ⟨hsl, htc, hyd⟩), Or.inl (fun post hp => ?_), fun post hp => ?_⟩
  · exact xl_cv _ B (by decide) (fun post' hq => xc_7 hx efh (by omega) hq) hp
  · exact yl_sc _ B hn hl (by decide) (fun post' hq => yc_7 hx efh (by omega) hq) hp
theorem sx_8 {M : Nat} {H : Nat → Nat → Nat → Prop} {k s d t i h n c : Nat} (G : sg_R M H k s d t i h 8 n c q tn sl pc wp yd nd he co ca cb fs fc ts tu ux tl ul tm gc ga gp ss st sf tc tr ow ti fd ft fk fn fh fl fv rs nt le kl uy fp fz au) : sr_R M k s (q, tn, sl, pc, wp, he, co, ca, cb, fs, fc, ts, tu, ux, tl, ul, tm, gc, ga, gp, ss, st, sf, tc, tr, ow, ti, fd, ft, fk, fn, fh, fl, fv, rs, nt) (q, wp, tn, sl, yd, nd, co, ca, cb, le, he, kl, tu, uy, tl, ul, tm, gc, ga, gp, ss, st, sf, fd, tc, tr, ow, ti, ft, fn, fh, fp, fz, fl, fv, rs, au) := by
  have G' := G
  obtain ⟨C, htn, hsl, hyd, htc, B, hlo, hO, hK, hV, hn, hl, hh8, hle, hn64, hfc, hc4, z1, z2, z3, z4, z5, z6, z7, z8⟩ := G'
  have hk := B.1
  have hd0 := B.2.1
  have hd6 := B.2.2.1
  have ed := B.2.2.2.1
  have ht := B.2.2.2.2.1
  have eft := B.2.2.2.2.2.1
  have efh := B.2.2.2.2.2.2.2.1
  have hx : 6 * k + (d - 1) < 36 := by omega
  have ex : (nI (6 * k + (d - 1))).toNatClampNeg = 6 * k + (d - 1) := nI_clamp (by omega)
  have vx : vp_in (nI (6 * k + (d - 1))) 36 := vp_in_nI hx (by decide)
  have et : (nI t).toNatClampNeg = t := nI_clamp (by omega)
  have vt : vp_in (nI t) 4 := vp_in_nI ht (by decide)
  rw [po_8] at z5 z6
  rw [pu_8] at z6
  have hH := (z7 (by decide) (by decide) (by decide)).2
  rw [po_8, pu_8] at hH
  obtain ⟨g, rfl⟩ : ∃ g, h = g + 1 + 1 := ⟨h - 2, by omega⟩
  rw [show g + 1 + 1 - 2 + 1 = g + 1 by omega] at hH
  refine ⟨(q, tn, sl, pc, wp, he, co, ca, cb, fs, fc, ts, upd tu t (tu t + 1), ux, tl, ul, tm, gc, ga, gp, ss, st, sf, tc, tr, ow, ti, fd, ft, fk, upd fn (6 * k + (d - 1)) (nI (i + 1)), upd (upd (upd fh (6 * k + (d - 1)) (nI (g + 1))) (6 * k + (d - 1)) (nI g)) (6 * k + (d - 1)) (nI (g + 1)), fl, upd fv (8 * (6 * k + (d - 1)) + g) (cm_v 8 (fv (8 * (6 * k + (d - 1)) + g)) (fv (8 * (6 * k + (d - 1)) + (g + 1)))), rs, nt), (q, wp, tn, sl, yd, nd, co, ca, cb, le, he, kl, upd tu t (tu t + 1), uy, tl, ul, tm, gc, ga, gp, ss, st, sf, fd, tc, tr, ow, ti, ft, upd fn (6 * k + (d - 1)) (nI (i + 1)), upd (upd (upd fh (6 * k + (d - 1)) (nI (g + 1))) (6 * k + (d - 1)) (nI g)) (6 * k + (d - 1)) (nI (g + 1)), fp, fz, fl, upd fv (8 * (6 * k + (d - 1)) + g) (cm_v 8 (fv (8 * (6 * k + (d - 1)) + g)) (fv (8 * (6 * k + (d - 1)) + (g + 1)))), rs, au), pr_top (i' := i + 1) (h' := g + 1) G (rc_up C) (fun y hy => pk_un hy) pk_us (fun y hy => by rw [pk_un hy, pk_un hy, pk_un hy]) pk_us hH hV (Or.inl ⟨hsl, htc, hyd⟩), Or.inl (fun post hp => ?_), fun post hp => ?_⟩
  · exact xl_cv _ B (by decide) (fun post' hq => xc_8 hx efh (by omega) hq) hp
  · exact yl_sc _ B hn hl (by decide) (fun post' hq => yc_8 hx efh (by omega) hq) hp
theorem sx_9 {M : Nat} {H : Nat → Nat → Nat → Prop} {k s d t i h n c : Nat} (G : sg_R M H k s d t i h 9 n c q tn sl pc wp yd nd he co ca cb fs fc ts tu ux tl ul tm gc ga gp ss st sf tc tr ow ti fd ft fk fn fh fl fv rs nt le kl uy fp fz au) : sr_R M k s (q, tn, sl, pc, wp, he, co, ca, cb, fs, fc, ts, tu, ux, tl, ul, tm, gc, ga, gp, ss, st, sf, tc, tr, ow, ti, fd, ft, fk, fn, fh, fl, fv, rs, nt) (q, wp, tn, sl, yd, nd, co, ca, cb, le, he, kl, tu, uy, tl, ul, tm, gc, ga, gp, ss, st, sf, fd, tc, tr, ow, ti, ft, fn, fh, fp, fz, fl, fv, rs, au) := by
  have G' := G
  obtain ⟨C, htn, hsl, hyd, htc, B, hlo, hO, hK, hV, hn, hl, hh8, hle, hn64, hfc, hc4, z1, z2, z3, z4, z5, z6, z7, z8⟩ := G'
  have hk := B.1
  have hd0 := B.2.1
  have hd6 := B.2.2.1
  have ed := B.2.2.2.1
  have ht := B.2.2.2.2.1
  have eft := B.2.2.2.2.2.1
  have efh := B.2.2.2.2.2.2.2.1
  have hx : 6 * k + (d - 1) < 36 := by omega
  have ex : (nI (6 * k + (d - 1))).toNatClampNeg = 6 * k + (d - 1) := nI_clamp (by omega)
  have vx : vp_in (nI (6 * k + (d - 1))) 36 := vp_in_nI hx (by decide)
  have et : (nI t).toNatClampNeg = t := nI_clamp (by omega)
  have vt : vp_in (nI t) 4 := vp_in_nI ht (by decide)
  rw [po_9] at z5 z6
  rw [pu_9] at z6
  have hH := (z7 (by decide) (by decide) (by decide)).2
  rw [po_9, pu_9] at hH
  obtain ⟨g, rfl⟩ : ∃ g, h = g + 1 + 1 := ⟨h - 2, by omega⟩
  rw [show g + 1 + 1 - 2 + 1 = g + 1 by omega] at hH
  refine ⟨(q, tn, sl, pc, wp, he, co, ca, cb, fs, fc, ts, upd tu t (tu t + 1), ux, tl, ul, tm, gc, ga, gp, ss, st, sf, tc, tr, ow, ti, fd, ft, fk, upd fn (6 * k + (d - 1)) (nI (i + 1)), upd (upd (upd fh (6 * k + (d - 1)) (nI (g + 1))) (6 * k + (d - 1)) (nI g)) (6 * k + (d - 1)) (nI (g + 1)), fl, upd fv (8 * (6 * k + (d - 1)) + g) (cm_v 9 (fv (8 * (6 * k + (d - 1)) + g)) (fv (8 * (6 * k + (d - 1)) + (g + 1)))), rs, nt), (q, wp, tn, sl, yd, nd, co, ca, cb, le, he, kl, upd tu t (tu t + 1), uy, tl, ul, tm, gc, ga, gp, ss, st, sf, fd, tc, tr, ow, ti, ft, upd fn (6 * k + (d - 1)) (nI (i + 1)), upd (upd (upd fh (6 * k + (d - 1)) (nI (g + 1))) (6 * k + (d - 1)) (nI g)) (6 * k + (d - 1)) (nI (g + 1)), fp, fz, fl, upd fv (8 * (6 * k + (d - 1)) + g) (cm_v 9 (fv (8 * (6 * k + (d - 1)) + g)) (fv (8 * (6 * k + (d - 1)) + (g + 1)))), rs, au), pr_top (i' := i + 1) (h' := g + 1) G (rc_up C) (fun y hy => pk_un hy) pk_us (fun y hy => by rw [pk_un hy, pk_un hy, pk_un hy]) pk_us hH hV (Or.inl ⟨hsl, htc, hyd⟩), Or.inl (fun post hp => ?_), fun post hp => ?_⟩
  · exact xl_cv _ B (by decide) (fun post' hq => xc_9 hx efh (by omega) hq) hp
  · exact yl_sc _ B hn hl (by decide) (fun post' hq => yc_9 hx efh (by omega) hq) hp
theorem sx_10 {M : Nat} {H : Nat → Nat → Nat → Prop} {k s d t i h n c : Nat} (G : sg_R M H k s d t i h 10 n c q tn sl pc wp yd nd he co ca cb fs fc ts tu ux tl ul tm gc ga gp ss st sf tc tr ow ti fd ft fk fn fh fl fv rs nt le kl uy fp fz au) : sr_R M k s (q, tn, sl, pc, wp, he, co, ca, cb, fs, fc, ts, tu, ux, tl, ul, tm, gc, ga, gp, ss, st, sf, tc, tr, ow, ti, fd, ft, fk, fn, fh, fl, fv, rs, nt) (q, wp, tn, sl, yd, nd, co, ca, cb, le, he, kl, tu, uy, tl, ul, tm, gc, ga, gp, ss, st, sf, fd, tc, tr, ow, ti, ft, fn, fh, fp, fz, fl, fv, rs, au) := by
  have G' := G
  obtain ⟨C, htn, hsl, hyd, htc, B, hlo, hO, hK, hV, hn, hl, hh8, hle, hn64, hfc, hc4, z1, z2, z3, z4, z5, z6, z7, z8⟩ := G'
  have hk := B.1
  have hd0 := B.2.1
  have hd6 := B.2.2.1
  have ed := B.2.2.2.1
  have ht := B.2.2.2.2.1
  have eft := B.2.2.2.2.2.1
  have efh := B.2.2.2.2.2.2.2.1
  have hx : 6 * k + (d - 1) < 36 := by omega
  have ex : (nI (6 * k + (d - 1))).toNatClampNeg = 6 * k + (d - 1) := nI_clamp (by omega)
  have vx : vp_in (nI (6 * k + (d - 1))) 36 := vp_in_nI hx (by decide)
  have et : (nI t).toNatClampNeg = t := nI_clamp (by omega)
  have vt : vp_in (nI t) 4 := vp_in_nI ht (by decide)
  rw [po_10] at z5 z6
  rw [pu_10] at z6
  have hH := (z7 (by decide) (by decide) (by decide)).2
  rw [po_10, pu_10] at hH
  rw [show h - 0 + 1 = h + 1 by omega] at hH
  obtain ⟨p, hp4, ea⟩ := z1 (by decide)
  refine ⟨(q, tn, sl, pc, wp, he, co, ca, cb, fs, fc, ts, upd tu t (tu t + 1), ux, tl, ul, tm, gc, ga, gp, ss, st, sf, tc, tr, ow, ti, fd, ft, fk, upd fn (6 * k + (d - 1)) (nI (i + 1)), upd fh (6 * k + (d - 1)) (nI (h + 1)), fl, upd fv (8 * (6 * k + (d - 1)) + h) (fl (4 * (6 * k + (d - 1)) + p)), rs, nt), (q, wp, tn, sl, yd, nd, co, ca, cb, le, he, kl, upd tu t (tu t + 1), uy, tl, ul, tm, gc, ga, gp, ss, st, sf, fd, tc, tr, ow, ti, ft, upd fn (6 * k + (d - 1)) (nI (i + 1)), upd fh (6 * k + (d - 1)) (nI (h + 1)), fp, fz, fl, upd fv (8 * (6 * k + (d - 1)) + h) (fl (4 * (6 * k + (d - 1)) + p)), rs, au), pr_top (i' := i + 1) (h' := h + 1) G (rc_up C) (fun y hy => pk_un hy) pk_us (fun y hy => by rw [pk_un hy]) pk_us hH hV (Or.inl ⟨hsl, htc, hyd⟩), Or.inl (fun post hp => ?_), fun post hp => ?_⟩
  · exact xl_cv _ B (by decide) (fun post' hq => by rw [ea]; exact xc_10 hx efh (by omega) hp4 hq) hp
  · exact yl_sc _ B hn hl (by decide) (fun post' hq => by rw [ea]; exact yc_10 hx efh (by omega) hp4 hq) hp
theorem sx_11 {M : Nat} {H : Nat → Nat → Nat → Prop} {k s d t i h n c : Nat} (G : sg_R M H k s d t i h 11 n c q tn sl pc wp yd nd he co ca cb fs fc ts tu ux tl ul tm gc ga gp ss st sf tc tr ow ti fd ft fk fn fh fl fv rs nt le kl uy fp fz au) : sr_R M k s (q, tn, sl, pc, wp, he, co, ca, cb, fs, fc, ts, tu, ux, tl, ul, tm, gc, ga, gp, ss, st, sf, tc, tr, ow, ti, fd, ft, fk, fn, fh, fl, fv, rs, nt) (q, wp, tn, sl, yd, nd, co, ca, cb, le, he, kl, tu, uy, tl, ul, tm, gc, ga, gp, ss, st, sf, fd, tc, tr, ow, ti, ft, fn, fh, fp, fz, fl, fv, rs, au) := by
  have G' := G
  obtain ⟨C, htn, hsl, hyd, htc, B, hlo, hO, hK, hV, hn, hl, hh8, hle, hn64, hfc, hc4, z1, z2, z3, z4, z5, z6, z7, z8⟩ := G'
  have hk := B.1
  have hd0 := B.2.1
  have hd6 := B.2.2.1
  have ed := B.2.2.2.1
  have ht := B.2.2.2.2.1
  have eft := B.2.2.2.2.2.1
  have efh := B.2.2.2.2.2.2.2.1
  have hx : 6 * k + (d - 1) < 36 := by omega
  have ex : (nI (6 * k + (d - 1))).toNatClampNeg = 6 * k + (d - 1) := nI_clamp (by omega)
  have vx : vp_in (nI (6 * k + (d - 1))) 36 := vp_in_nI hx (by decide)
  have et : (nI t).toNatClampNeg = t := nI_clamp (by omega)
  have vt : vp_in (nI t) 4 := vp_in_nI ht (by decide)
  rw [po_11] at z5 z6
  rw [pu_11] at z6
  have hH := (z7 (by decide) (by decide) (by decide)).2
  rw [po_11, pu_11] at hH
  obtain ⟨g, rfl⟩ : ∃ g, h = g + 1 := ⟨h - 1, by omega⟩
  rw [show g + 1 - 1 + 0 = g by omega] at hH
  obtain ⟨p, hp4, ea⟩ := z1 (by decide)
  refine ⟨(q, tn, sl, pc, wp, he, co, ca, cb, fs, fc, ts, upd tu t (tu t + 1), ux, tl, ul, tm, gc, ga, gp, ss, st, sf, tc, tr, ow, ti, fd, ft, fk, upd fn (6 * k + (d - 1)) (nI (i + 1)), upd fh (6 * k + (d - 1)) (nI g), upd fl (4 * (6 * k + (d - 1)) + p) (fv (8 * (6 * k + (d - 1)) + g)), fv, rs, nt), (q, wp, tn, sl, yd, nd, co, ca, cb, le, he, kl, upd tu t (tu t + 1), uy, tl, ul, tm, gc, ga, gp, ss, st, sf, fd, tc, tr, ow, ti, ft, upd fn (6 * k + (d - 1)) (nI (i + 1)), upd fh (6 * k + (d - 1)) (nI g), fp, fz, upd fl (4 * (6 * k + (d - 1)) + p) (fv (8 * (6 * k + (d - 1)) + g)), fv, rs, au), pr_top (i' := i + 1) (h' := g) G (rc_up C) (fun y hy => pk_un hy) pk_us (fun y hy => by rw [pk_un hy]) pk_us hH hV (Or.inl ⟨hsl, htc, hyd⟩), Or.inl (fun post hp => ?_), fun post hp => ?_⟩
  · exact xl_cv _ B (by decide) (fun post' hq => by rw [ea]; exact xc_11 hx efh (by omega) hp4 hq) hp
  · exact yl_sc _ B hn hl (by decide) (fun post' hq => by rw [ea]; exact yc_11 hx efh (by omega) hp4 hq) hp
theorem sx_12 {M : Nat} {H : Nat → Nat → Nat → Prop} {k s d t i h n c : Nat} (G : sg_R M H k s d t i h 12 n c q tn sl pc wp yd nd he co ca cb fs fc ts tu ux tl ul tm gc ga gp ss st sf tc tr ow ti fd ft fk fn fh fl fv rs nt le kl uy fp fz au) : sr_R M k s (q, tn, sl, pc, wp, he, co, ca, cb, fs, fc, ts, tu, ux, tl, ul, tm, gc, ga, gp, ss, st, sf, tc, tr, ow, ti, fd, ft, fk, fn, fh, fl, fv, rs, nt) (q, wp, tn, sl, yd, nd, co, ca, cb, le, he, kl, tu, uy, tl, ul, tm, gc, ga, gp, ss, st, sf, fd, tc, tr, ow, ti, ft, fn, fh, fp, fz, fl, fv, rs, au) := by
  have G' := G
  obtain ⟨C, htn, hsl, hyd, htc, B, hlo, hO, hK, hV, hn, hl, hh8, hle, hn64, hfc, hc4, z1, z2, z3, z4, z5, z6, z7, z8⟩ := G'
  have hk := B.1
  have hd0 := B.2.1
  have hd6 := B.2.2.1
  have ed := B.2.2.2.1
  have ht := B.2.2.2.2.1
  have eft := B.2.2.2.2.2.1
  have efh := B.2.2.2.2.2.2.2.1
  have hx : 6 * k + (d - 1) < 36 := by omega
  have ex : (nI (6 * k + (d - 1))).toNatClampNeg = 6 * k + (d - 1) := nI_clamp (by omega)
  have vx : vp_in (nI (6 * k + (d - 1))) 36 := vp_in_nI hx (by decide)
  have et : (nI t).toNatClampNeg = t := nI_clamp (by omega)
  have vt : vp_in (nI t) 4 := vp_in_nI ht (by decide)
  rw [po_12] at z5 z6
  rw [pu_12] at z6
  obtain ⟨j, ea, hH⟩ := z8 (by decide)
  rw [po_12, pu_12, show h - 0 + 0 = h by omega] at hH
  refine ⟨(q, tn, sl, pc, wp, he, co, ca, cb, fs, fc, ts, upd tu t (tu t + 1), ux, tl, ul, tm, gc, ga, gp, ss, st, sf, tc, tr, ow, ti, fd, ft, fk, upd (upd fn (6 * k + (d - 1)) (nI (i + 1))) (6 * k + (d - 1)) (ca (64 * t + i)), fh, fl, fv, rs, nt), (q, wp, tn, sl, yd, nd, co, ca, cb, le, he, kl, upd tu t (tu t + 1), uy, tl, ul, tm, gc, ga, gp, ss, st, sf, fd, tc, tr, ow, ti, ft, upd (upd fn (6 * k + (d - 1)) (nI (i + 1))) (6 * k + (d - 1)) (ca (64 * t + i)), fh, fp, fz, fl, fv, rs, au), pr_top (i' := j) (h' := h) G (rc_up C) (fun y hy => by rw [pk_un hy, pk_un hy]) (by rw [pk_us, ea]) (fun _ _ => rfl) efh hH hV (Or.inl ⟨hsl, htc, hyd⟩), Or.inl (fun post hp => ?_), fun post hp => ?_⟩
  · exact xe_12 B hp
  · exact yl_sc _ B hn hl (by decide) (fun post' hq => yc_12 hx hq) hp
theorem sx_13 {M : Nat} {H : Nat → Nat → Nat → Prop} {k s d t i h n c : Nat} (G : sg_R M H k s d t i h 13 n c q tn sl pc wp yd nd he co ca cb fs fc ts tu ux tl ul tm gc ga gp ss st sf tc tr ow ti fd ft fk fn fh fl fv rs nt le kl uy fp fz au) : sr_R M k s (q, tn, sl, pc, wp, he, co, ca, cb, fs, fc, ts, tu, ux, tl, ul, tm, gc, ga, gp, ss, st, sf, tc, tr, ow, ti, fd, ft, fk, fn, fh, fl, fv, rs, nt) (q, wp, tn, sl, yd, nd, co, ca, cb, le, he, kl, tu, uy, tl, ul, tm, gc, ga, gp, ss, st, sf, fd, tc, tr, ow, ti, ft, fn, fh, fp, fz, fl, fv, rs, au) := by
  have G' := G
  obtain ⟨C, htn, hsl, hyd, htc, B, hlo, hO, hK, hV, hn, hl, hh8, hle, hn64, hfc, hc4, z1, z2, z3, z4, z5, z6, z7, z8⟩ := G'
  have hk := B.1
  have hd0 := B.2.1
  have hd6 := B.2.2.1
  have ed := B.2.2.2.1
  have ht := B.2.2.2.2.1
  have eft := B.2.2.2.2.2.1
  have efh := B.2.2.2.2.2.2.2.1
  have hx : 6 * k + (d - 1) < 36 := by omega
  have ex : (nI (6 * k + (d - 1))).toNatClampNeg = 6 * k + (d - 1) := nI_clamp (by omega)
  have vx : vp_in (nI (6 * k + (d - 1))) 36 := vp_in_nI hx (by decide)
  have et : (nI t).toNatClampNeg = t := nI_clamp (by omega)
  have vt : vp_in (nI t) 4 := vp_in_nI ht (by decide)
  rw [po_13] at z5 z6
  rw [pu_13] at z6
  obtain ⟨j, ea, hJ⟩ := z8 (by decide)
  have hH := (z7 (by decide) (by decide) (by decide)).2
  rw [po_13, pu_13, show h - 1 + 0 = h - 1 by omega] at hH hJ
  have efh' : fh (6 * k + (d - 1)) = nI (h - 1 + 1) := by rw [efh]; exact congrArg nI (by omega)
  by_cases c : fv (8 * (6 * k + (d - 1)) + (h - 1)) = 0
  · refine ⟨(q, tn, sl, pc, wp, he, co, ca, cb, fs, fc, ts, upd tu t (tu t + 1), ux, tl, ul, tm, gc, ga, gp, ss, st, sf, tc, tr, ow, ti, fd, ft, fk, upd (upd fn (6 * k + (d - 1)) (nI (i + 1))) (6 * k + (d - 1)) (ca (64 * t + i)), upd fh (6 * k + (d - 1)) (nI (h - 1)), fl, fv, rs, nt), (q, wp, tn, sl, yd, nd, co, ca, cb, le, he, kl, upd tu t (tu t + 1), uy, tl, ul, tm, gc, ga, gp, ss, st, sf, fd, tc, tr, ow, ti, ft, upd (upd fn (6 * k + (d - 1)) (nI (i + 1))) (6 * k + (d - 1)) (ca (64 * t + i)), upd fh (6 * k + (d - 1)) (nI (h - 1)), fp, fz, fl, fv, rs, au), pr_top (i' := j) (h' := h - 1) G (rc_up C) (fun y hy => by rw [pk_un hy, pk_un hy]) (by rw [pk_us, ea]) (fun y hy => pk_un hy) pk_us hJ hV (Or.inl ⟨hsl, htc, hyd⟩), Or.inl (fun post hp => ?_), fun post hp => ?_⟩
    · exact xe_13 B (by omega) hh8 (fun _ => hp) (fun z => absurd c z)
    · exact yl_sc _ B hn hl (by decide) (fun post' hq => yc_13 hx efh' (by omega) (fun _ => hq) (fun z => absurd c z)) hp
  · refine ⟨(q, tn, sl, pc, wp, he, co, ca, cb, fs, fc, ts, upd tu t (tu t + 1), ux, tl, ul, tm, gc, ga, gp, ss, st, sf, tc, tr, ow, ti, fd, ft, fk, upd fn (6 * k + (d - 1)) (nI (i + 1)), upd fh (6 * k + (d - 1)) (nI (h - 1)), fl, fv, rs, nt), (q, wp, tn, sl, yd, nd, co, ca, cb, le, he, kl, upd tu t (tu t + 1), uy, tl, ul, tm, gc, ga, gp, ss, st, sf, fd, tc, tr, ow, ti, ft, upd fn (6 * k + (d - 1)) (nI (i + 1)), upd fh (6 * k + (d - 1)) (nI (h - 1)), fp, fz, fl, fv, rs, au), pr_top (i' := i + 1) (h' := h - 1) G (rc_up C) (fun y hy => pk_un hy) pk_us (fun y hy => pk_un hy) pk_us hH hV (Or.inl ⟨hsl, htc, hyd⟩), Or.inl (fun post hp => ?_), fun post hp => ?_⟩
    · exact xe_13 B (by omega) hh8 (fun z => absurd z c) (fun _ => hp)
    · exact yl_sc _ B hn hl (by decide) (fun post' hq => yc_13 hx efh' (by omega) (fun z => absurd z c) (fun _ => hq)) hp
theorem yl_ac {post : SY → Prop} {k x t h o : Nat} {a : Int32} (hx : x < 36) (eft : ft x = nI t) (ho : o ≠ 23) (ho24 : o < 24) (hh : fh x = nI (h + 1)) (h8 : h < 8) (hp : wY_act_23 post (nI k) (nI x) (nI o) a (nI t) (fv (8 * x + h)) q wp tn sl yd nd co ca cb le he kl tu uy tl ul tm gc ga gp ss st sf fd tc tr ow ti ft fn (upd fh x (nI h)) fp fz fl fv rs au) : wpY_act post (q, wp, tn, sl, yd, nd, co, ca, cb, le, he, kl, tu, uy, tl, ul, tm, gc, ga, gp, ss, st, sf, fd, tc, tr, ow, ti, ft, fn, fh, fp, fz, fl, fv, rs, au) (nI k) (nI x) (nI o) a := by
  have ex : (nI x).toNatClampNeg = x := nI_clamp (by omega)
  exact ⟨vp_in_nI hx (by decide), nm_r (e' := nI t) (by rw [ex, eft]) (br_f (ix_ne 23 rfl ho (by omega) (by decide)) (yl_pop (h := h) hx hh h8 hp))⟩
theorem sg_nf {M : Nat} {H : Nat → Nat → Nat → Prop} {k s d t i h n c : Nat} {o : Nat} (G : sg_R M H k s d t i h o n c q tn sl pc wp yd nd he co ca cb fs fc ts tu ux tl ul tm gc ga gp ss st sf tc tr ow ti fd ft fk fn fh fl fv rs nt le kl uy fp fz au) : ¬ nf_t fd ft t := by
  obtain ⟨C, htn, hsl, hyd, htc, ⟨hk, hd0, hd6, ed, ht, eft, q⟩, g⟩ := G
  exact fun z => z k hk d hd6 ed (d - 1) (by omega) eft
theorem sx_23 {M : Nat} {H : Nat → Nat → Nat → Prop} {k s d t i h n c : Nat} (G : sg_R M H k s d t i h 23 n c q tn sl pc wp yd nd he co ca cb fs fc ts tu ux tl ul tm gc ga gp ss st sf tc tr ow ti fd ft fk fn fh fl fv rs nt le kl uy fp fz au) : sr_R M k s (q, tn, sl, pc, wp, he, co, ca, cb, fs, fc, ts, tu, ux, tl, ul, tm, gc, ga, gp, ss, st, sf, tc, tr, ow, ti, fd, ft, fk, fn, fh, fl, fv, rs, nt) (q, wp, tn, sl, yd, nd, co, ca, cb, le, he, kl, tu, uy, tl, ul, tm, gc, ga, gp, ss, st, sf, fd, tc, tr, ow, ti, ft, fn, fh, fp, fz, fl, fv, rs, au) := by
  have G' := G
  obtain ⟨C, htn, hsl, hyd, htc, B, hlo, hO, hK, hV, hn, hl, hh8, hle, hn64, hfc, hc4, z1, z2, z3, z4, z5, z6, z7, z8⟩ := G'
  have hk := B.1
  have hd0 := B.2.1
  have hd6 := B.2.2.1
  have ed := B.2.2.2.1
  have ht := B.2.2.2.2.1
  have eft := B.2.2.2.2.2.1
  have efh := B.2.2.2.2.2.2.2.1
  have hx : 6 * k + (d - 1) < 36 := by omega
  have ex : (nI (6 * k + (d - 1))).toNatClampNeg = 6 * k + (d - 1) := nI_clamp (by omega)
  have vx : vp_in (nI (6 * k + (d - 1))) 36 := vp_in_nI hx (by decide)
  have et : (nI t).toNatClampNeg = t := nI_clamp (by omega)
  have vt : vp_in (nI t) 4 := vp_in_nI ht (by decide)
  rw [po_23] at z5 z6
  rw [pu_23] at z6
  have hH := (z7 (by decide) (by decide) (by decide)).2
  rw [po_23, pu_23, show h - 0 + 0 = h by omega] at hH
  refine ⟨(q, tn, 0, pc, wp, he, co, ca, cb, fs, fc, ts, upd tu t (tu t + 1), ux, tl, ul, tm, gc, ga, gp, ss, st, sf, tc, tr, ow, ti, fd, ft, fk, upd fn (6 * k + (d - 1)) (nI (i + 1)), fh, fl, fv, rs, nt), (q, wp, tn, sl, 1, nd, co, ca, cb, le, he, kl, upd tu t (tu t + 1), uy, tl, ul, tm, gc, ga, gp, ss, st, sf, fd, tc, tr, ow, ti, ft, upd fn (6 * k + (d - 1)) (nI (i + 1)), fh, fp, fz, fl, fv, rs, au), pr_top (i' := i + 1) (h' := h) G (rc_up C) (fun y hy => pk_un hy) pk_us (fun _ _ => rfl) efh hH hV (Or.inr ⟨rfl, Or.inr (by decide)⟩), Or.inl (fun post hp => ?_), fun post hp => ?_⟩
  · exact xe_23 B hp
  · exact yl_sa _ B hn hl (by decide) (by decide) (fun post' hq => ⟨vx, nm_e (br_t rfl (br_f (by decide) (br_t (by decide) hq)))⟩) hp
theorem xl_al {post : SX → Prop} {x t h : Nat} (hx : x < 36) (ht : t < 4) (eft : ft x = nI t) (hh : fh x = nI (h + 1)) (h8 : h < 8)
    (hp1 : ¬ fv (8 * x + h) < 0 → ¬ (ul t).toInt64 < (ux t).toInt64 + (fv (8 * x + h)).toInt64 → post (q, tn, sl, pc, wp, he, co, ca, cb, fs, fc, ts, tu, upd ux t (ux t + fv (8 * x + h)), tl, ul, tm, gc, ga, gp, ss, st, sf, tc, tr, ow, ti, fd, ft, fk, fn, upd (upd fh x (nI h)) x (nI (h + 1)), fl, upd fv (8 * x + h) 1, rs, nt))
    (hp0 : (fv (8 * x + h) < 0 ∨ (ul t).toInt64 < (ux t).toInt64 + (fv (8 * x + h)).toInt64) → post (q, tn, sl, pc, wp, he, co, ca, cb, fs, fc, ts, tu, ux, tl, ul, tm, gc, ga, gp, ss, st, sf, tc, tr, ow, ti, fd, ft, fk, fn, upd (upd fh x (nI h)) x (nI (h + 1)), fl, upd fv (8 * x + h) 0, rs, nt)) : wpX_allocUnits post (q, tn, sl, pc, wp, he, co, ca, cb, fs, fc, ts, tu, ux, tl, ul, tm, gc, ga, gp, ss, st, sf, tc, tr, ow, ti, fd, ft, fk, fn, fh, fl, fv, rs, nt) (nI x) := by
  have ex : (nI x).toNatClampNeg = x := nI_clamp (by omega)
  have vx : vp_in (nI x) 36 := vp_in_nI hx (by decide)
  have et : (nI t).toNatClampNeg = t := nI_clamp (by omega)
  have vt : vp_in (nI t) 4 := vp_in_nI ht (by decide)
  have q0 : ∀ w : Int64, (fv (8 * x + h) < 0 ∨ (ul t).toInt64 < (ux t).toInt64 + (fv (8 * x + h)).toInt64) → wX_allocUnits_46 post (nI x) (nI t) w q tn sl pc wp he co ca cb fs fc ts tu ux tl ul tm gc ga gp ss st sf tc tr ow ti fd ft fk fn (upd fh x (nI h)) fl fv rs nt := by
    intro w z
    unfold wX_allocUnits_46
    refine br_t rfl (br_t rfl ?_)
    unfold wX_allocUnits_75
    exact xl_push (h := h) hx pk_us (by omega) (hp0 z)
  refine ⟨vx, nm_r (e' := nI t) (by rw [ex, eft]) (xl_pop (h := h) hx hh h8 ⟨vt, nm_e ?_⟩)⟩
  rw [et]
  by_cases c1 : fv (8 * x + h) < 0
  · exact br_t c1 (q0 _ (Or.inl c1))
  · by_cases c2 : (ul t).toInt64 < (ux t).toInt64 + (fv (8 * x + h)).toInt64
    · exact br_f c1 ⟨vt, br_t c2 (q0 _ (Or.inr c2))⟩
    · refine br_f c1 ⟨vt, br_f c2 (br_f (by decide) ⟨vt, nm_r (e' := upd ux t (ux t + fv (8 * x + h))) (by rw [et, ix_ai]) (br_f (by decide) ?_)⟩)⟩
      unfold wX_allocUnits_75
      exact xl_push (h := h) hx pk_us (by omega) (hp1 c1 c2)
theorem yl_al {post : SY → Prop} {k x t h : Nat} {a : Int32} (hx : x < 36) (ht : t < 4) (eft : ft x = nI t) (hh : fh x = nI (h + 1)) (h8 : h < 8)
    (hp1 : ¬ fv (8 * x + h) < 0 → ¬ (ul t).toInt64 < (uy t).toInt64 + (fv (8 * x + h)).toInt64 → post (q, wp, tn, sl, yd, nd, co, ca, cb, le, he, kl, tu, upd uy t (uy t + fv (8 * x + h)), tl, ul, tm, gc, ga, gp, ss, st, sf, fd, tc, tr, ow, ti, ft, fn, upd (upd fh x (nI h)) x (nI (h + 1)), fp, fz, fl, upd fv (8 * x + h) 1, rs, au))
    (hp0 : (fv (8 * x + h) < 0 ∨ (ul t).toInt64 < (uy t).toInt64 + (fv (8 * x + h)).toInt64) → post (q, wp, tn, sl, yd, nd, co, ca, cb, le, he, kl, tu, uy, tl, ul, tm, gc, ga, gp, ss, st, sf, fd, tc, tr, ow, ti, ft, fn, upd (upd fh x (nI h)) x (nI (h + 1)), fp, fz, fl, upd fv (8 * x + h) 0, rs, au)) : wpY_act post (q, wp, tn, sl, yd, nd, co, ca, cb, le, he, kl, tu, uy, tl, ul, tm, gc, ga, gp, ss, st, sf, fd, tc, tr, ow, ti, ft, fn, fh, fp, fz, fl, fv, rs, au) (nI k) (nI x) (nI 19) a := by
  have et : (nI t).toNatClampNeg = t := nI_clamp (by omega)
  have vt : vp_in (nI t) 4 := vp_in_nI ht (by decide)
  have q0 : (fv (8 * x + h) < 0 ∨ (ul t).toInt64 < (uy t).toInt64 + (fv (8 * x + h)).toInt64) → wY_act_210 post (nI x) (nI t) (fv (8 * x + h)) q wp tn sl yd nd co ca cb le he kl tu uy tl ul tm gc ga gp ss st sf fd tc tr ow ti ft fn (upd fh x (nI h)) fp fz fl fv rs au := by
    intro z
    unfold wY_act_210
    refine br_t rfl (br_t rfl ?_)
    unfold wY_act_242
    exact yl_push (h := h) hx pk_us (by omega) (hp0 z)
  refine yl_ac (h := h) hx eft (by decide) (by decide) hh h8 ?_
  refine br_f (by decide) (br_f (by decide) (br_f (by decide) (br_f (by decide) (br_f (by decide) (br_f (by decide) (br_f (by decide) (br_t (by decide) (?_))))))))
  by_cases c1 : fv (8 * x + h) < 0
  · exact br_t c1 (q0 (Or.inl c1))
  · by_cases c2 : (ul t).toInt64 < (uy t).toInt64 + (fv (8 * x + h)).toInt64
    · exact br_f c1 ⟨vt, vt, br_t (by rw [et]; exact c2) (q0 (Or.inr c2))⟩
    · refine br_f c1 ⟨vt, vt, br_f (by rw [et]; exact c2) (br_f (by decide) ⟨vt, vt, nm_r (e' := upd uy t (uy t + fv (8 * x + h))) (by rw [et]) (br_f (by decide) ?_)⟩)⟩
      unfold wY_act_242
      exact yl_push (h := h) hx pk_us (by omega) (hp1 c1 c2)
theorem sx_19 {M : Nat} {H : Nat → Nat → Nat → Prop} {k s d t i h n c : Nat} (G : sg_R M H k s d t i h 19 n c q tn sl pc wp yd nd he co ca cb fs fc ts tu ux tl ul tm gc ga gp ss st sf tc tr ow ti fd ft fk fn fh fl fv rs nt le kl uy fp fz au) : sr_R M k s (q, tn, sl, pc, wp, he, co, ca, cb, fs, fc, ts, tu, ux, tl, ul, tm, gc, ga, gp, ss, st, sf, tc, tr, ow, ti, fd, ft, fk, fn, fh, fl, fv, rs, nt) (q, wp, tn, sl, yd, nd, co, ca, cb, le, he, kl, tu, uy, tl, ul, tm, gc, ga, gp, ss, st, sf, fd, tc, tr, ow, ti, ft, fn, fh, fp, fz, fl, fv, rs, au) := by
  have G' := G
  obtain ⟨C, htn, hsl, hyd, htc, B, hlo, hO, hK, hV, hn, hl, hh8, hle, hn64, hfc, hc4, z1, z2, z3, z4, z5, z6, z7, z8⟩ := G'
  have hk := B.1
  have hd0 := B.2.1
  have hd6 := B.2.2.1
  have ed := B.2.2.2.1
  have ht := B.2.2.2.2.1
  have eft := B.2.2.2.2.2.1
  have efh := B.2.2.2.2.2.2.2.1
  have hx : 6 * k + (d - 1) < 36 := by omega
  have ex : (nI (6 * k + (d - 1))).toNatClampNeg = 6 * k + (d - 1) := nI_clamp (by omega)
  have vx : vp_in (nI (6 * k + (d - 1))) 36 := vp_in_nI hx (by decide)
  have et : (nI t).toNatClampNeg = t := nI_clamp (by omega)
  have vt : vp_in (nI t) 4 := vp_in_nI ht (by decide)
  rw [po_19] at z5 z6
  rw [pu_19] at z6
  have hH := (z7 (by decide) (by decide) (by decide)).2
  rw [po_19, pu_19] at hH
  obtain ⟨g, rfl⟩ : ∃ g, h = g + 1 := ⟨h - 1, by omega⟩
  rw [show g + 1 - 1 + 1 = g + 1 by omega] at hH
  have eu : ux t = uy t := hV t ht (fun z => sg_nf G z.2)
  by_cases cc : ¬ fv (8 * (6 * k + (d - 1)) + g) < 0 ∧ ¬ (ul t).toInt64 < (ux t).toInt64 + (fv (8 * (6 * k + (d - 1)) + g)).toInt64
  · refine ⟨(q, tn, sl, pc, wp, he, co, ca, cb, fs, fc, ts, upd tu t (tu t + 1), upd ux t (ux t + fv (8 * (6 * k + (d - 1)) + g)), tl, ul, tm, gc, ga, gp, ss, st, sf, tc, tr, ow, ti, fd, ft, fk, upd fn (6 * k + (d - 1)) (nI (i + 1)), upd (upd fh (6 * k + (d - 1)) (nI g)) (6 * k + (d - 1)) (nI (g + 1)), fl, upd fv (8 * (6 * k + (d - 1)) + g) 1, rs, nt), (q, wp, tn, sl, yd, nd, co, ca, cb, le, he, kl, upd tu t (tu t + 1), upd uy t (uy t + fv (8 * (6 * k + (d - 1)) + g)), tl, ul, tm, gc, ga, gp, ss, st, sf, fd, tc, tr, ow, ti, ft, upd fn (6 * k + (d - 1)) (nI (i + 1)), upd (upd fh (6 * k + (d - 1)) (nI g)) (6 * k + (d - 1)) (nI (g + 1)), fp, fz, fl, upd fv (8 * (6 * k + (d - 1)) + g) 1, rs, au), pr_top (i' := i + 1) (h' := g + 1) G (rc_up C) (fun y hy => pk_un hy) pk_us (fun y hy => by rw [pk_un hy, pk_un hy]) pk_us hH ?_ (Or.inl ⟨hsl, htc, hyd⟩), Or.inl (fun post hp => ?_), fun post hp => ?_⟩
    · intro s' hs' z
      by_cases cs : s' = t
      · subst cs; rw [pk_us, pk_us, eu]
      · rw [pk_un cs, pk_un cs]; exact hV s' hs' z
    · exact xe_19 B _ (fun post' hq => xl_al hx ht eft efh (by omega) (fun _ _ => hq) (fun z => absurd z (fun y => y.elim cc.1 cc.2))) hp
    · exact yl_sa _ B hn hl (by decide) (by decide) (fun post' hq => yl_al hx ht eft efh (by omega) (fun _ _ => hq) (fun z => absurd z (fun y => y.elim cc.1 (by rw [← eu]; exact cc.2)))) hp
  · have cor : fv (8 * (6 * k + (d - 1)) + g) < 0 ∨ (ul t).toInt64 < (ux t).toInt64 + (fv (8 * (6 * k + (d - 1)) + g)).toInt64 := by
      by_cases c1 : fv (8 * (6 * k + (d - 1)) + g) < 0
      · exact Or.inl c1
      · exact Or.inr (Classical.byContradiction (fun c2 => cc ⟨c1, c2⟩))
    refine ⟨(q, tn, sl, pc, wp, he, co, ca, cb, fs, fc, ts, upd tu t (tu t + 1), ux, tl, ul, tm, gc, ga, gp, ss, st, sf, tc, tr, ow, ti, fd, ft, fk, upd fn (6 * k + (d - 1)) (nI (i + 1)), upd (upd fh (6 * k + (d - 1)) (nI g)) (6 * k + (d - 1)) (nI (g + 1)), fl, upd fv (8 * (6 * k + (d - 1)) + g) 0, rs, nt), (q, wp, tn, sl, yd, nd, co, ca, cb, le, he, kl, upd tu t (tu t + 1), uy, tl, ul, tm, gc, ga, gp, ss, st, sf, fd, tc, tr, ow, ti, ft, upd fn (6 * k + (d - 1)) (nI (i + 1)), upd (upd fh (6 * k + (d - 1)) (nI g)) (6 * k + (d - 1)) (nI (g + 1)), fp, fz, fl, upd fv (8 * (6 * k + (d - 1)) + g) 0, rs, au), pr_top (i' := i + 1) (h' := g + 1) G (rc_up C) (fun y hy => pk_un hy) pk_us (fun y hy => by rw [pk_un hy, pk_un hy]) pk_us hH hV (Or.inl ⟨hsl, htc, hyd⟩), Or.inl (fun post hp => ?_), fun post hp => ?_⟩
    · exact xe_19 B _ (fun post' hq => xl_al hx ht eft efh (by omega) (fun z1 z2 => absurd ⟨z1, z2⟩ cc) (fun _ => hq)) hp
    · exact yl_sa _ B hn hl (by decide) (by decide) (fun post' hq => yl_al hx ht eft efh (by omega) (fun z1 z2 => absurd ⟨z1, by rw [eu]; exact z2⟩ cc) (fun _ => hq)) hp
def fe_v (u w : Int32) : Int32 := if w ≤ u then u - w else 0
theorem fe_y {u w : Int32} : fe_v u w = if u ≤ w then 0 else u - w := by
  unfold fe_v
  by_cases c1 : w ≤ u
  · rw [if_pos c1]
    by_cases c2 : u ≤ w
    · rw [if_pos c2, Int32.le_antisymm c2 c1, Int32.sub_self]
    · rw [if_neg c2]
  · rw [if_neg c1]
    by_cases c2 : u ≤ w
    · rw [if_pos c2]
    · exact absurd (Int32.le_of_lt (Int32.not_le.mp c2)) c1
theorem xl_fe {post : SX → Prop} {x t h : Nat} (hx : x < 36) (ht : t < 4) (eft : ft x = nI t) (hh : fh x = nI (h + 1)) (h8 : h < 8)
    (hp1 : ¬ fv (8 * x + h) < 0 → post (q, tn, sl, pc, wp, he, co, ca, cb, fs, fc, ts, tu, upd ux t (fe_v (ux t) (fv (8 * x + h))), tl, ul, tm, gc, ga, gp, ss, st, sf, tc, tr, ow, ti, fd, ft, fk, fn, upd fh x (nI h), fl, fv, rs, nt))
    (hp0 : fv (8 * x + h) < 0 → post (q, tn, sl, pc, wp, he, co, ca, cb, fs, fc, ts, tu, ux, tl, ul, tm, gc, ga, gp, ss, st, sf, tc, tr, ow, ti, fd, ft, fk, fn, upd fh x (nI h), fl, fv, rs, nt)) : wpX_freeUnits post (q, tn, sl, pc, wp, he, co, ca, cb, fs, fc, ts, tu, ux, tl, ul, tm, gc, ga, gp, ss, st, sf, tc, tr, ow, ti, fd, ft, fk, fn, fh, fl, fv, rs, nt) (nI x) := by
  have ex : (nI x).toNatClampNeg = x := nI_clamp (by omega)
  have vx : vp_in (nI x) 36 := vp_in_nI hx (by decide)
  have et : (nI t).toNatClampNeg = t := nI_clamp (by omega)
  have vt : vp_in (nI t) 4 := vp_in_nI ht (by decide)
  refine ⟨vx, nm_r (e' := nI t) (by rw [ex, eft]) (xl_pop (h := h) hx hh h8 ?_)⟩
  by_cases c1 : fv (8 * x + h) < 0
  · exact br_t c1 (hp0 c1)
  · have hp := hp1 c1
    unfold fe_v at hp
    refine br_f c1 ⟨vt, ?_⟩
    rw [et]
    by_cases c2 : fv (8 * x + h) ≤ ux t
    · rw [if_pos c2] at hp
      exact br_t c2 ⟨vt, vt, nm_e hp⟩
    · rw [if_neg c2] at hp
      exact br_f c2 ⟨vt, nm_e hp⟩
theorem yl_fe {post : SY → Prop} {k x t h : Nat} {a : Int32} (hx : x < 36) (ht : t < 4) (eft : ft x = nI t) (hh : fh x = nI (h + 1)) (h8 : h < 8)
    (hp1 : ¬ fv (8 * x + h) < 0 → post (q, wp, tn, sl, yd, nd, co, ca, cb, le, he, kl, tu, upd uy t (fe_v (uy t) (fv (8 * x + h))), tl, ul, tm, gc, ga, gp, ss, st, sf, fd, tc, tr, ow, ti, ft, fn, upd fh x (nI h), fp, fz, fl, fv, rs, au))
    (hp0 : fv (8 * x + h) < 0 → post (q, wp, tn, sl, yd, nd, co, ca, cb, le, he, kl, tu, uy, tl, ul, tm, gc, ga, gp, ss, st, sf, fd, tc, tr, ow, ti, ft, fn, upd fh x (nI h), fp, fz, fl, fv, rs, au)) : wpY_act post (q, wp, tn, sl, yd, nd, co, ca, cb, le, he, kl, tu, uy, tl, ul, tm, gc, ga, gp, ss, st, sf, fd, tc, tr, ow, ti, ft, fn, fh, fp, fz, fl, fv, rs, au) (nI k) (nI x) (nI 20) a := by
  have et : (nI t).toNatClampNeg = t := nI_clamp (by omega)
  have vt : vp_in (nI t) 4 := vp_in_nI ht (by decide)
  refine yl_ac (h := h) hx eft (by decide) (by decide) hh h8 ?_
  refine br_f (by decide) (br_f (by decide) (br_f (by decide) (br_f (by decide) (br_f (by decide) (br_f (by decide) (br_f (by decide) (br_f (by decide) (br_t (by decide) (?_)))))))))
  by_cases c1 : fv (8 * x + h) < 0
  · exact br_t c1 (hp0 c1)
  · have hp := hp1 c1
    rw [fe_y] at hp
    refine br_f c1 ⟨vt, ?_⟩
    rw [et]
    by_cases c2 : uy t ≤ fv (8 * x + h)
    · rw [if_pos c2] at hp
      exact br_t c2 ⟨vt, nm_e hp⟩
    · rw [if_neg c2] at hp
      exact br_f c2 ⟨vt, vt, nm_e hp⟩
theorem sx_20 {M : Nat} {H : Nat → Nat → Nat → Prop} {k s d t i h n c : Nat} (G : sg_R M H k s d t i h 20 n c q tn sl pc wp yd nd he co ca cb fs fc ts tu ux tl ul tm gc ga gp ss st sf tc tr ow ti fd ft fk fn fh fl fv rs nt le kl uy fp fz au) : sr_R M k s (q, tn, sl, pc, wp, he, co, ca, cb, fs, fc, ts, tu, ux, tl, ul, tm, gc, ga, gp, ss, st, sf, tc, tr, ow, ti, fd, ft, fk, fn, fh, fl, fv, rs, nt) (q, wp, tn, sl, yd, nd, co, ca, cb, le, he, kl, tu, uy, tl, ul, tm, gc, ga, gp, ss, st, sf, fd, tc, tr, ow, ti, ft, fn, fh, fp, fz, fl, fv, rs, au) := by
  have G' := G
  obtain ⟨C, htn, hsl, hyd, htc, B, hlo, hO, hK, hV, hn, hl, hh8, hle, hn64, hfc, hc4, z1, z2, z3, z4, z5, z6, z7, z8⟩ := G'
  have hk := B.1
  have hd0 := B.2.1
  have hd6 := B.2.2.1
  have ed := B.2.2.2.1
  have ht := B.2.2.2.2.1
  have eft := B.2.2.2.2.2.1
  have efh := B.2.2.2.2.2.2.2.1
  have hx : 6 * k + (d - 1) < 36 := by omega
  have ex : (nI (6 * k + (d - 1))).toNatClampNeg = 6 * k + (d - 1) := nI_clamp (by omega)
  have vx : vp_in (nI (6 * k + (d - 1))) 36 := vp_in_nI hx (by decide)
  have et : (nI t).toNatClampNeg = t := nI_clamp (by omega)
  have vt : vp_in (nI t) 4 := vp_in_nI ht (by decide)
  rw [po_20] at z5 z6
  rw [pu_20] at z6
  have hH := (z7 (by decide) (by decide) (by decide)).2
  rw [po_20, pu_20] at hH
  obtain ⟨g, rfl⟩ : ∃ g, h = g + 1 := ⟨h - 1, by omega⟩
  rw [show g + 1 - 1 + 0 = g by omega] at hH
  have eu : ux t = uy t := hV t ht (fun z => sg_nf G z.2)
  by_cases cc : fv (8 * (6 * k + (d - 1)) + g) < 0
  · refine ⟨(q, tn, sl, pc, wp, he, co, ca, cb, fs, fc, ts, upd tu t (tu t + 1), ux, tl, ul, tm, gc, ga, gp, ss, st, sf, tc, tr, ow, ti, fd, ft, fk, upd fn (6 * k + (d - 1)) (nI (i + 1)), upd fh (6 * k + (d - 1)) (nI g), fl, fv, rs, nt), (q, wp, tn, sl, yd, nd, co, ca, cb, le, he, kl, upd tu t (tu t + 1), uy, tl, ul, tm, gc, ga, gp, ss, st, sf, fd, tc, tr, ow, ti, ft, upd fn (6 * k + (d - 1)) (nI (i + 1)), upd fh (6 * k + (d - 1)) (nI g), fp, fz, fl, fv, rs, au), pr_top (i' := i + 1) (h' := g) G (rc_up C) (fun y hy => pk_un hy) pk_us (fun y hy => pk_un hy) pk_us hH hV (Or.inl ⟨hsl, htc, hyd⟩), Or.inl (fun post hp => ?_), fun post hp => ?_⟩
    · exact xe_20 B _ (fun post' hq => xl_fe hx ht eft efh (by omega) (fun z => absurd cc z) (fun _ => hq)) hp
    · exact yl_sa _ B hn hl (by decide) (by decide) (fun post' hq => yl_fe hx ht eft efh (by omega) (fun z => absurd cc z) (fun _ => hq)) hp
  · refine ⟨(q, tn, sl, pc, wp, he, co, ca, cb, fs, fc, ts, upd tu t (tu t + 1), upd ux t (fe_v (ux t) (fv (8 * (6 * k + (d - 1)) + g))), tl, ul, tm, gc, ga, gp, ss, st, sf, tc, tr, ow, ti, fd, ft, fk, upd fn (6 * k + (d - 1)) (nI (i + 1)), upd fh (6 * k + (d - 1)) (nI g), fl, fv, rs, nt), (q, wp, tn, sl, yd, nd, co, ca, cb, le, he, kl, upd tu t (tu t + 1), upd uy t (fe_v (uy t) (fv (8 * (6 * k + (d - 1)) + g))), tl, ul, tm, gc, ga, gp, ss, st, sf, fd, tc, tr, ow, ti, ft, upd fn (6 * k + (d - 1)) (nI (i + 1)), upd fh (6 * k + (d - 1)) (nI g), fp, fz, fl, fv, rs, au), pr_top (i' := i + 1) (h' := g) G (rc_up C) (fun y hy => pk_un hy) pk_us (fun y hy => pk_un hy) pk_us hH ?_ (Or.inl ⟨hsl, htc, hyd⟩), Or.inl (fun post hp => ?_), fun post hp => ?_⟩
    · intro s' hs' z
      by_cases cs : s' = t
      · subst cs; rw [pk_us, pk_us, eu]
      · rw [pk_un cs, pk_un cs]; exact hV s' hs' z
    · exact xe_20 B _ (fun post' hq => xl_fe hx ht eft efh (by omega) (fun _ => hq) (fun z => absurd z cc)) hp
    · exact yl_sa _ B hn hl (by decide) (by decide) (fun post' hq => yl_fe hx ht eft efh (by omega) (fun _ => hq) (fun z => absurd z cc)) hp
theorem ix_or (a : Int32) : ∃ j : Nat, 10 ≤ j ∧ j < 26 ∧ 10 + (a &&& 15) = nI j := by
  obtain ⟨j, hj, e⟩ := pk_andE a (m := 15) 4 (by decide)
  exact ⟨10 + j, by omega, by omega, by rw [e]; exact ix_a 10 rfl j⟩
theorem sx_22 {M : Nat} {H : Nat → Nat → Nat → Prop} {k s d t i h n c : Nat} (G : sg_R M H k s d t i h 22 n c q tn sl pc wp yd nd he co ca cb fs fc ts tu ux tl ul tm gc ga gp ss st sf tc tr ow ti fd ft fk fn fh fl fv rs nt le kl uy fp fz au) : sr_R M k s (q, tn, sl, pc, wp, he, co, ca, cb, fs, fc, ts, tu, ux, tl, ul, tm, gc, ga, gp, ss, st, sf, tc, tr, ow, ti, fd, ft, fk, fn, fh, fl, fv, rs, nt) (q, wp, tn, sl, yd, nd, co, ca, cb, le, he, kl, tu, uy, tl, ul, tm, gc, ga, gp, ss, st, sf, fd, tc, tr, ow, ti, ft, fn, fh, fp, fz, fl, fv, rs, au) := by
  have G' := G
  obtain ⟨C, htn, hsl, hyd, htc, B, hlo, hO, hK, hV, hn, hl, hh8, hle, hn64, hfc, hc4, z1, z2, z3, z4, z5, z6, z7, z8⟩ := G'
  have hk := B.1
  have hd0 := B.2.1
  have hd6 := B.2.2.1
  have ed := B.2.2.2.1
  have ht := B.2.2.2.2.1
  have eft := B.2.2.2.2.2.1
  have efh := B.2.2.2.2.2.2.2.1
  have hx : 6 * k + (d - 1) < 36 := by omega
  have ex : (nI (6 * k + (d - 1))).toNatClampNeg = 6 * k + (d - 1) := nI_clamp (by omega)
  have vx : vp_in (nI (6 * k + (d - 1))) 36 := vp_in_nI hx (by decide)
  have et : (nI t).toNatClampNeg = t := nI_clamp (by omega)
  have vt : vp_in (nI t) 4 := vp_in_nI ht (by decide)
  rw [po_22] at z5 z6
  rw [pu_22] at z6
  have efh' : fh (6 * k + (d - 1)) = nI (h - 1 + 1) := by rw [efh]; exact congrArg nI (by omega)
  obtain ⟨j, j1, j2, ej⟩ := ix_or (fv (8 * (6 * k + (d - 1)) + (h - 1)))
  obtain ⟨u2, v2, r1, r2, r3⟩ := rs_all (q := q) (tn := tn) (sl := sl) (pc := pc) (wp := wp) (yd := yd) (nd := nd) (he := he) (co := co) (ca := ca) (cb := cb) (fs := fs) (fc := fc) (ts := ts) (ux := ux) (tl := tl) (ul := ul) (tm := tm) (gc := gc) (ga := ga) (gp := gp) (ss := ss) (st := st) (sf := sf) (tc := tc) (tr := tr) (ow := ow) (ti := ti) (fd := fd) (ft := ft) (fk := fk) (fl := fl) (fv := fv) (rs := rs) (nt := nt) (le := le) (kl := kl) (uy := uy) (fp := fp) (fz := fz) (au := au) (tu := upd tu t (tu t + 1)) (fn := upd fn (6 * k + (d - 1)) (nI (i + 1))) (fh := upd fh (6 * k + (d - 1)) (nI (h - 1))) (f := 10 + (fv (8 * (6 * k + (d - 1)) + (h - 1)) &&& 15)) (rc_up C) htn hsl hyd (by rw [ej]; exact ix_neg j (by omega)) hk htc hK hd0 hd6 ed
    (tl_cg hd0 hlo (fun _ _ => rfl) (fun y hy => pk_un (by omega)) (fun y hy => pk_un (by omega)) (fun _ _ => rfl))
    (fun k' hk' ck => th_cg (hO k' hk' ck) (fun _ _ => rfl) (fun y hy => pk_un (by omega)) (fun y hy => pk_un (by omega)) (fun _ _ => rfl) rfl rfl) hV
  refine ⟨u2, v2, r1, Or.inr ⟨_, _, by rw [ej]; exact nI_ne0 (by omega) (by omega), fun post hp => xe_22 B (by omega) hh8 hp, r2⟩, fun post hp => ?_⟩
  refine yl_sa _ B hn hl (by decide) (by decide) (fun post' hq => ?_) hp
  refine yl_ac (h := h - 1) hx eft (by decide) (by decide) efh' (by omega) ?_
  refine br_f (by decide) (br_f (by decide) (br_f (by decide) (br_f (by decide) (br_f (by decide) (br_f (by decide) (br_f (by decide) (br_f (by decide) (br_f (by decide) (br_f (by decide) (br_t (by decide) (?_)))))))))))
  refine r3 _ ?_
  obtain ⟨y0, y1, y2, y3, y4, y5, y6, y7, y8, y9, y10, y11, y12, y13, y14, y15, y16, y17, y18, y19, y20, y21, y22, y23, y24, y25, y26, y27, y28, y29, y30, y31, y32, y33, y34, y35, y36⟩ := v2
  exact hq
end
