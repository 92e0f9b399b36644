/-- an instruction o at (i, h) of a sound bundle -/
def bu_at (ca cb : Nat → Int32) (b n c : Nat) (H : Nat → Nat → Prop) (i h o : Nat) : Prop :=
  (o = 10 ∨ o = 11 → ∃ a : Nat, a < 4 ∧ ca (b + i) = nI a) ∧
  (o = 14 ∨ o = 15 ∨ o = 17 → ∃ f : Nat, f < c ∧ ca (b + i) = nI f) ∧
  (o = 16 → ∃ s : Nat, s < 4 ∧ ca (b + i) = nI s) ∧
  (o = 18 → (∃ a : Nat, a < 4 ∧ ca (b + i) = nI a) ∧ (∃ p : Nat, p < 84 ∧ cb (b + i) = nI p)) ∧
  st_po o (ca (b + i)) ≤ h ∧ h - st_po o (ca (b + i)) + st_pu o (ca (b + i)) ≤ 8 ∧
  (o ≠ 12 → o ≠ 21 → o ≠ 22 → i + 1 < n ∧ H (i + 1) (h - st_po o (ca (b + i)) + st_pu o (ca (b + i)))) ∧
  (o = 12 ∨ o = 13 → ∃ j : Nat, ca (b + i) = nI j ∧ H j (h - st_po o (ca (b + i)) + st_pu o (ca (b + i))))
theorem bu_get {co ca cb : Nat → Int32} {b n c : Nat} {H : Nat → Nat → Prop} {i h : Nat} (z : bu_ok co ca cb b n c H i h) : i < n ∧ h ≤ 8 ∧ ∃ o : Nat, o < 24 ∧ co (b + i) = nI o ∧ bu_at ca cb b n c H i h o := by
  obtain ⟨z1, z2, o, z3, z4, z5⟩ := z
  exact ⟨z1, z2, o, z3, z4, z5⟩
def sg_R (M : Nat) (H : Nat → Nat → Nat → Prop) (k s d t i h o n c : Nat) (q tn sl pc wp yd nd : Int32) (he co ca cb fs fc ts tu ux tl ul tm gc ga gp ss st sf tc tr ow ti fd ft fk fn fh fl fv rs nt le kl uy fp fz au : Nat → Int32) : Prop :=
  rl_C M H q pc nd le fc ts kl fs co ca cb gc gp st sf au nt ∧ tn = nI k ∧ sl = nI s ∧ yd = 0 ∧ tc k = -1 ∧ bs_R k d t i h o fd ft fn fh co ∧ th_lo H ft fn fh fz k d ∧ (∀ k', k' < 6 → k' ≠ k → th_ok H ft fn fh fz tc fd k') ∧ rl_k fk fp fz ∧ rl_v ux uy kl fd ft ∧
  (kl t = 0 ∨ ¬ pl_P o i (ca (64 * t + i))) ∧ tu t < tl t ∧ h ≤ 8 ∧ le t = nI n ∧ n ≤ 64 ∧ fc t = nI c ∧ c ≤ 4 ∧ bu_at ca cb (64 * t) n c (H t) i h o
section
variable {q tn sl pc wp yd nd : Int32} {he co ca cb fs fc ts tu ux tl ul tm gc ga gp ss st sf tc tr ow ti fd ft fk fn fh fl fv rs nt le kl uy fp fz au : Nat → Int32}
theorem rc_up {M : Nat} {H : Nat → Nat → Nat → Prop} (C : rl_C M H q pc nd le fc ts kl fs co ca cb gc gp st sf au nt) : rl_C (M + 1) H q pc nd le fc ts kl fs co ca cb gc gp st sf au nt :=
  ⟨C.1, C.2.1, C.2.2.1, C.2.2.2.1, C.2.2.2.2.1, rl_nU C.2.2.2.2.2 (by omega)⟩
theorem pr_top {M : Nat} {H : Nat → Nat → Nat → Prop} {k s d t i h o n c i' h' : Nat} {nd' slx yd' : Int32} {fn' fh' fl' fv' tu' ux' uy' rs' nt' au' : Nat → Int32} (G : sg_R M H k s d t i h o n c q tn sl pc wp yd nd he co ca cb fs fc ts tu ux tl ul tm gc ga gp ss st sf tc tr ow ti fd ft fk fn fh fl fv rs nt le kl uy fp fz au) (C' : rl_C (M + 1) H q pc nd' le fc ts kl fs co ca cb gc gp st sf au' nt')
    (e1 : ∀ y, y ≠ 6 * k + (d - 1) → fn' y = fn y) (e2 : fn' (6 * k + (d - 1)) = nI i') (e3 : ∀ y, y ≠ 6 * k + (d - 1) → fh' y = fh y) (e4 : fh' (6 * k + (d - 1)) = nI h') (hH : H t i' h') (hV' : rl_v ux' uy' kl fd ft) (hs : slx = nI s ∧ tc k = -1 ∧ yd' = 0 ∨ slx = 0 ∧ (tc k ≠ -1 ∨ yd' ≠ 0)) :
    md_R (M + 1) k s (q, tn, slx, pc, wp, he, co, ca, cb, fs, fc, ts, tu', ux', tl, ul, tm, gc, ga, gp, ss, st, sf, tc, tr, ow, ti, fd, ft, fk, fn', fh', fl', fv', rs', nt') (q, wp, tn, sl, yd', nd', co, ca, cb, le, he, kl, tu', uy', tl, ul, tm, gc, ga, gp, ss, st, sf, fd, tc, tr, ow, ti, ft, fn', fh', fp, fz, fl', fv', rs', au') := by
  obtain ⟨C, htn, hsl, hyd, htc, ⟨hk, hd0, hd6, ed, ht, eft, efn, efh, hi, ho, eo⟩, hlo, hO, hK, hV, g⟩ := G
  refine mk_md C' htn hsl hs ?_ hK hV'
  intro k' hk'
  by_cases ck : k' = k
  · subst ck
    refine ⟨d, hd6, ed, ⟨fun _ => hd0, fun _ => htc⟩, fun _ => ⟨tl_cg hd0 hlo (fun _ _ => rfl) (fun j hj => e1 _ (by omega)) (fun j hj => e3 _ (by omega)) (fun _ _ => rfl), t, i', h', ht, eft, e2, e4, hH⟩⟩
  · exact th_cg (hO k' hk' ck) (fun _ _ => rfl) (fun j hj => e1 _ (by omega)) (fun j hj => e3 _ (by omega)) (fun _ _ => rfl) rfl rfl

theorem xl_cv {post : Int32 → SX → Prop} {k d t i h o : Nat} (u1 : SX) (B : bs_R k d t i h o fd ft fn fh co) (ho : o < 12) (hr : ∀ post' : SX → Prop, post' u1 → wpX_computeValues post' (q, tn, sl, pc, wp, he, co, ca, cb, fs, fc, ts, upd tu t (tu t + 1), ux, tl, ul, tm, gc, ga, gp, ss, st, sf, tc, tr, ow, ti, fd, ft, fk, upd fn (6 * k + (d - 1)) (nI (i + 1)), fh, fl, fv, rs, nt) (nI (6 * k + (d - 1))) (nI o) (ca (64 * t + i))) (hp : post 0 u1) : wpX_execute post (q, tn, sl, pc, wp, he, co, ca, cb, fs, fc, ts, tu, ux, tl, ul, tm, gc, ga, gp, ss, st, sf, tc, tr, ow, ti, fd, ft, fk, fn, fh, fl, fv, rs, nt) (nI k) := by
  obtain ⟨hk, hd0, hd6, ed, ht, eft, efn, efh, hi, ho24, eo⟩ := B
  have ex : (nI (6 * k + (d - 1))).toNatClampNeg = 6 * k + (d - 1) := nI_clamp (by omega)
  have vx : vp_in (nI (6 * k + (d - 1))) 36 := vp_in_nI (by omega) (by decide)
  have et : (nI t).toNatClampNeg = t := nI_clamp (by omega)
  have vt : vp_in (nI t) 4 := vp_in_nI ht (by decide)
  have e1 : nI t * 64 + nI i = nI (64 * t + i) := ix_r 64 rfl t i
  have e2 : (nI (64 * t + i)).toNatClampNeg = 64 * t + i := nI_clamp (by omega)
  have v320 : vp_in (nI (64 * t + i)) 320 := vp_in_nI (by omega) (by decide)
  unfold wpX_execute; dsimp only
  refine xl_top hk hd0 ed ⟨vx, nm_r (e' := nI t) (by rw [ex, eft]) ⟨vx, nm_r (e' := nI (64 * t + i)) (by rw [ex, efn, e1]) ⟨v320, nm_r (e' := nI o) (by rw [e2, eo]) ⟨v320, nm_r (e' := ca (64 * t + i)) (by rw [e2]) ⟨vt, vt, nm_r (e' := upd tu t (tu t + 1)) (by rw [et]) ⟨vx, vx, nm_r (e' := upd fn (6 * k + (d - 1)) (nI (i + 1))) (by rw [ex, efn, nI_1]) ?_⟩⟩⟩⟩⟩⟩
  refine br_t (nI_lt (b := 12) ho (by decide)) (hr _ ?_)
  obtain ⟨y0, y1, y2, y3, y4, y5, y6, y7, y8, y9, y10, y11, y12, y13, y14, y15, y16, y17, y18, y19, y20, y21, y22, y23, y24, y25, y26, y27, y28, y29, y30, y31, y32, y33, y34, y35⟩ := u1
  exact hp
theorem xe_12 {post : Int32 → SX → Prop} {k d t i h : Nat} (B : bs_R k d t i h 12 fd ft fn fh co) (hp : post 0 (q, tn, sl, pc, wp, he, co, ca, cb, fs, fc, ts, upd tu t (tu t + 1), ux, tl, ul, tm, gc, ga, gp, ss, st, sf, tc, tr, ow, ti, fd, ft, fk, upd (upd fn (6 * k + (d - 1)) (nI (i + 1))) (6 * k + (d - 1)) (ca (64 * t + i)), fh, fl, fv, rs, nt)) : wpX_execute post (q, tn, sl, pc, wp, he, co, ca, cb, fs, fc, ts, tu, ux, tl, ul, tm, gc, ga, gp, ss, st, sf, tc, tr, ow, ti, fd, ft, fk, fn, fh, fl, fv, rs, nt) (nI k) := by
  obtain ⟨hk, hd0, hd6, ed, ht, eft, efn, efh, hi, ho24, eo⟩ := B
  have ex : (nI (6 * k + (d - 1))).toNatClampNeg = 6 * k + (d - 1) := nI_clamp (by omega)
  have vx : vp_in (nI (6 * k + (d - 1))) 36 := vp_in_nI (by omega) (by decide)
  have et : (nI t).toNatClampNeg = t := nI_clamp (by omega)
  have vt : vp_in (nI t) 4 := vp_in_nI ht (by decide)
  have e1 : nI t * 64 + nI i = nI (64 * t + i) := ix_r 64 rfl t i
  have e2 : (nI (64 * t + i)).toNatClampNeg = 64 * t + i := nI_clamp (by omega)
  have v320 : vp_in (nI (64 * t + i)) 320 := vp_in_nI (by omega) (by decide)
  unfold wpX_execute; dsimp only
  refine xl_top hk hd0 ed ⟨vx, nm_r (e' := nI t) (by rw [ex, eft]) ⟨vx, nm_r (e' := nI (64 * t + i)) (by rw [ex, efn, e1]) ⟨v320, nm_r (e' := nI 12) (by rw [e2, eo]) ⟨v320, nm_r (e' := ca (64 * t + i)) (by rw [e2]) ⟨vt, vt, nm_r (e' := upd tu t (tu t + 1)) (by rw [et]) ⟨vx, vx, nm_r (e' := upd fn (6 * k + (d - 1)) (nI (i + 1))) (by rw [ex, efn, nI_1]) ?_⟩⟩⟩⟩⟩⟩
  refine br_f (by decide) (br_f (by decide) (br_t (by decide) (?_)))
  exact ⟨vx, nm_r (by rw [ex]) hp⟩
theorem xe_13 {post : Int32 → SX → Prop} {k d t i h : Nat} (B : bs_R k d t i h 13 fd ft fn fh co) (h0 : 0 < h) (h8 : h ≤ 8) (hp0 : fv (8 * (6 * k + (d - 1)) + (h - 1)) = 0 → post 0 (q, tn, sl, pc, wp, he, co, ca, cb, fs, fc, ts, upd tu t (tu t + 1), ux, tl, ul, tm, gc, ga, gp, ss, st, sf, tc, tr, ow, ti, fd, ft, fk, upd (upd fn (6 * k + (d - 1)) (nI (i + 1))) (6 * k + (d - 1)) (ca (64 * t + i)), upd fh (6 * k + (d - 1)) (nI (h - 1)), fl, fv, rs, nt)) (hp1 : ¬ fv (8 * (6 * k + (d - 1)) + (h - 1)) = 0 → post 0 (q, tn, sl, pc, wp, he, co, ca, cb, fs, fc, ts, upd tu t (tu t + 1), ux, tl, ul, tm, gc, ga, gp, ss, st, sf, tc, tr, ow, ti, fd, ft, fk, upd fn (6 * k + (d - 1)) (nI (i + 1)), upd fh (6 * k + (d - 1)) (nI (h - 1)), fl, fv, rs, nt)) : wpX_execute post (q, tn, sl, pc, wp, he, co, ca, cb, fs, fc, ts, tu, ux, tl, ul, tm, gc, ga, gp, ss, st, sf, tc, tr, ow, ti, fd, ft, fk, fn, fh, fl, fv, rs, nt) (nI k) := by
  obtain ⟨hk, hd0, hd6, ed, ht, eft, efn, efh, hi, ho24, eo⟩ := B
  have ex : (nI (6 * k + (d - 1))).toNatClampNeg = 6 * k + (d - 1) := nI_clamp (by omega)
  have vx : vp_in (nI (6 * k + (d - 1))) 36 := vp_in_nI (by omega) (by decide)
  have et : (nI t).toNatClampNeg = t := nI_clamp (by omega)
  have vt : vp_in (nI t) 4 := vp_in_nI ht (by decide)
  have e1 : nI t * 64 + nI i = nI (64 * t + i) := ix_r 64 rfl t i
  have e2 : (nI (64 * t + i)).toNatClampNeg = 64 * t + i := nI_clamp (by omega)
  have v320 : vp_in (nI (64 * t + i)) 320 := vp_in_nI (by omega) (by decide)
  unfold wpX_execute; dsimp only
  refine xl_top hk hd0 ed ⟨vx, nm_r (e' := nI t) (by rw [ex, eft]) ⟨vx, nm_r (e' := nI (64 * t + i)) (by rw [ex, efn, e1]) ⟨v320, nm_r (e' := nI 13) (by rw [e2, eo]) ⟨v320, nm_r (e' := ca (64 * t + i)) (by rw [e2]) ⟨vt, vt, nm_r (e' := upd tu t (tu t + 1)) (by rw [et]) ⟨vx, vx, nm_r (e' := upd fn (6 * k + (d - 1)) (nI (i + 1))) (by rw [ex, efn, nI_1]) ?_⟩⟩⟩⟩⟩⟩
  refine br_f (by decide) (br_f (by decide) (br_f (by decide) (br_t (by decide) (?_))))
  refine xl_pop (h := h - 1) (by omega) (by rw [efh]; exact congrArg nI (by omega)) (by omega) ?_
  by_cases c : fv (8 * (6 * k + (d - 1)) + (h - 1)) = 0
  · exact br_t c ⟨vx, nm_r (by rw [ex]) (hp0 c)⟩
  · exact br_f c ⟨vx, vx, nm_r (by rw [ex, ix_self]) (hp1 c)⟩
theorem xe_14 {post : Int32 → SX → Prop} {k d t i h : Nat} (B : bs_R k d t i h 14 fd ft fn fh co) (u1 : SX) (r : Int32) (hr : ∀ post' : Int32 → SX → Prop, post' r u1 → wpX_callFunction post' (q, tn, sl, pc, wp, he, co, ca, cb, fs, fc, ts, upd tu t (tu t + 1), ux, tl, ul, tm, gc, ga, gp, ss, st, sf, tc, tr, ow, ti, fd, ft, fk, upd fn (6 * k + (d - 1)) (nI (i + 1)), fh, fl, fv, rs, nt) (nI k) (ca (64 * t + i)) 0) (hp : post r u1) : wpX_execute post (q, tn, sl, pc, wp, he, co, ca, cb, fs, fc, ts, tu, ux, tl, ul, tm, gc, ga, gp, ss, st, sf, tc, tr, ow, ti, fd, ft, fk, fn, fh, fl, fv, rs, nt) (nI k) := by
  obtain ⟨hk, hd0, hd6, ed, ht, eft, efn, efh, hi, ho24, eo⟩ := B
  have ex : (nI (6 * k + (d - 1))).toNatClampNeg = 6 * k + (d - 1) := nI_clamp (by omega)
  have vx : vp_in (nI (6 * k + (d - 1))) 36 := vp_in_nI (by omega) (by decide)
  have et : (nI t).toNatClampNeg = t := nI_clamp (by omega)
  have vt : vp_in (nI t) 4 := vp_in_nI ht (by decide)
  have e1 : nI t * 64 + nI i = nI (64 * t + i) := ix_r 64 rfl t i
  have e2 : (nI (64 * t + i)).toNatClampNeg = 64 * t + i := nI_clamp (by omega)
  have v320 : vp_in (nI (64 * t + i)) 320 := vp_in_nI (by omega) (by decide)
  unfold wpX_execute; dsimp only
  refine xl_top hk hd0 ed ⟨vx, nm_r (e' := nI t) (by rw [ex, eft]) ⟨vx, nm_r (e' := nI (64 * t + i)) (by rw [ex, efn, e1]) ⟨v320, nm_r (e' := nI 14) (by rw [e2, eo]) ⟨v320, nm_r (e' := ca (64 * t + i)) (by rw [e2]) ⟨vt, vt, nm_r (e' := upd tu t (tu t + 1)) (by rw [et]) ⟨vx, vx, nm_r (e' := upd fn (6 * k + (d - 1)) (nI (i + 1))) (by rw [ex, efn, nI_1]) ?_⟩⟩⟩⟩⟩⟩
  refine br_f (by decide) (br_f (by decide) (br_f (by decide) (br_f (by decide) (br_t (by decide) (?_)))))
  refine hr _ ?_
  obtain ⟨y0, y1, y2, y3, y4, y5, y6, y7, y8, y9, y10, y11, y12, y13, y14, y15, y16, y17, y18, y19, y20, y21, y22, y23, y24, y25, y26, y27, y28, y29, y30, y31, y32, y33, y34, y35⟩ := u1
  exact hp
theorem xe_15 {post : Int32 → SX → Prop} {k d t i h : Nat} (B : bs_R k d t i h 15 fd ft fn fh co) (u1 : SX) (r : Int32) (hr : ∀ post' : Int32 → SX → Prop, post' r u1 → wpX_callFunction post' (q, tn, sl, pc, wp, he, co, ca, cb, fs, fc, ts, upd tu t (tu t + 1), ux, tl, ul, tm, gc, ga, gp, ss, st, sf, tc, tr, ow, ti, fd, ft, fk, upd fn (6 * k + (d - 1)) (nI (i + 1)), fh, fl, fv, rs, nt) (nI k) (ca (64 * t + i)) 1) (hp : post r u1) : wpX_execute post (q, tn, sl, pc, wp, he, co, ca, cb, fs, fc, ts, tu, ux, tl, ul, tm, gc, ga, gp, ss, st, sf, tc, tr, ow, ti, fd, ft, fk, fn, fh, fl, fv, rs, nt) (nI k) := by
  obtain ⟨hk, hd0, hd6, ed, ht, eft, efn, efh, hi, ho24, eo⟩ := B
  have ex : (nI (6 * k + (d - 1))).toNatClampNeg = 6 * k + (d - 1) := nI_clamp (by omega)
  have vx : vp_in (nI (6 * k + (d - 1))) 36 := vp_in_nI (by omega) (by decide)
  have et : (nI t).toNatClampNeg = t := nI_clamp (by omega)
  have vt : vp_in (nI t) 4 := vp_in_nI ht (by decide)
  have e1 : nI t * 64 + nI i = nI (64 * t + i) := ix_r 64 rfl t i
  have e2 : (nI (64 * t + i)).toNatClampNeg = 64 * t + i := nI_clamp (by omega)
  have v320 : vp_in (nI (64 * t + i)) 320 := vp_in_nI (by omega) (by decide)
  unfold wpX_execute; dsimp only
  refine xl_top hk hd0 ed ⟨vx, nm_r (e' := nI t) (by rw [ex, eft]) ⟨vx, nm_r (e' := nI (64 * t + i)) (by rw [ex, efn, e1]) ⟨v320, nm_r (e' := nI 15) (by rw [e2, eo]) ⟨v320, nm_r (e' := ca (64 * t + i)) (by rw [e2]) ⟨vt, vt, nm_r (e' := upd tu t (tu t + 1)) (by rw [et]) ⟨vx, vx, nm_r (e' := upd fn (6 * k + (d - 1)) (nI (i + 1))) (by rw [ex, efn, nI_1]) ?_⟩⟩⟩⟩⟩⟩
  refine br_f (by decide) (br_f (by decide) (br_f (by decide) (br_f (by decide) (br_f (by decide) (br_t (by decide) (?_))))))
  refine hr _ ?_
  obtain ⟨y0, y1, y2, y3, y4, y5, y6, y7, y8, y9, y10, y11, y12, y13, y14, y15, y16, y17, y18, y19, y20, y21, y22, y23, y24, y25, y26, y27, y28, y29, y30, y31, y32, y33, y34, y35⟩ := u1
  exact hp
theorem xe_16 {post : Int32 → SX → Prop} {k d t i h : Nat} (B : bs_R k d t i h 16 fd ft fn fh co) (u1 : SX) (r : Int32) (hr : ∀ post' : Int32 → SX → Prop, post' r u1 → wpX_sendToSlot post' (q, tn, sl, pc, wp, he, co, ca, cb, fs, fc, ts, upd tu t (tu t + 1), ux, tl, ul, tm, gc, ga, gp, ss, st, sf, tc, tr, ow, ti, fd, ft, fk, upd fn (6 * k + (d - 1)) (nI (i + 1)), fh, fl, fv, rs, nt) (nI k) (ca (64 * t + i))) (hp : post r u1) : wpX_execute post (q, tn, sl, pc, wp, he, co, ca, cb, fs, fc, ts, tu, ux, tl, ul, tm, gc, ga, gp, ss, st, sf, tc, tr, ow, ti, fd, ft, fk, fn, fh, fl, fv, rs, nt) (nI k) := by
  obtain ⟨hk, hd0, hd6, ed, ht, eft, efn, efh, hi, ho24, eo⟩ := B
  have ex : (nI (6 * k + (d - 1))).toNatClampNeg = 6 * k + (d - 1) := nI_clamp (by omega)
  have vx : vp_in (nI (6 * k + (d - 1))) 36 := vp_in_nI (by omega) (by decide)
  have et : (nI t).toNatClampNeg = t := nI_clamp (by omega)
  have vt : vp_in (nI t) 4 := vp_in_nI ht (by decide)
  have e1 : nI t * 64 + nI i = nI (64 * t + i) := ix_r 64 rfl t i
  have e2 : (nI (64 * t + i)).toNatClampNeg = 64 * t + i := nI_clamp (by omega)
  have v320 : vp_in (nI (64 * t + i)) 320 := vp_in_nI (by omega) (by decide)
  unfold wpX_execute; dsimp only
  refine xl_top hk hd0 ed ⟨vx, nm_r (e' := nI t) (by rw [ex, eft]) ⟨vx, nm_r (e' := nI (64 * t + i)) (by rw [ex, efn, e1]) ⟨v320, nm_r (e' := nI 16) (by rw [e2, eo]) ⟨v320, nm_r (e' := ca (64 * t + i)) (by rw [e2]) ⟨vt, vt, nm_r (e' := upd tu t (tu t + 1)) (by rw [et]) ⟨vx, vx, nm_r (e' := upd fn (6 * k + (d - 1)) (nI (i + 1))) (by rw [ex, efn, nI_1]) ?_⟩⟩⟩⟩⟩⟩
  refine br_f (by decide) (br_f (by decide) (br_f (by decide) (br_f (by decide) (br_f (by decide) (br_f (by decide) (br_t (by decide) (?_)))))))
  refine hr _ ?_
  obtain ⟨y0, y1, y2, y3, y4, y5, y6, y7, y8, y9, y10, y11, y12, y13, y14, y15, y16, y17, y18, y19, y20, y21, y22, y23, y24, y25, y26, y27, y28, y29, y30, y31, y32, y33, y34, y35⟩ := u1
  exact hp
theorem xe_17 {post : Int32 → SX → Prop} {k d t i h : Nat} (B : bs_R k d t i h 17 fd ft fn fh co) (u1 : SX) (hr : ∀ post' : SX → Prop, post' u1 → wpX_spawnThread post' (q, tn, sl, pc, wp, he, co, ca, cb, fs, fc, ts, upd tu t (tu t + 1), ux, tl, ul, tm, gc, ga, gp, ss, st, sf, tc, tr, ow, ti, fd, ft, fk, upd fn (6 * k + (d - 1)) (nI (i + 1)), fh, fl, fv, rs, nt) (nI k) (ca (64 * t + i))) (hp : post 0 u1) : wpX_execute post (q, tn, sl, pc, wp, he, co, ca, cb, fs, fc, ts, tu, ux, tl, ul, tm, gc, ga, gp, ss, st, sf, tc, tr, ow, ti, fd, ft, fk, fn, fh, fl, fv, rs, nt) (nI k) := by
  obtain ⟨hk, hd0, hd6, ed, ht, eft, efn, efh, hi, ho24, eo⟩ := B
  have ex : (nI (6 * k + (d - 1))).toNatClampNeg = 6 * k + (d - 1) := nI_clamp (by omega)
  have vx : vp_in (nI (6 * k + (d - 1))) 36 := vp_in_nI (by omega) (by decide)
  have et : (nI t).toNatClampNeg = t := nI_clamp (by omega)
  have vt : vp_in (nI t) 4 := vp_in_nI ht (by decide)
  have e1 : nI t * 64 + nI i = nI (64 * t + i) := ix_r 64 rfl t i
  have e2 : (nI (64 * t + i)).toNatClampNeg = 64 * t + i := nI_clamp (by omega)
  have v320 : vp_in (nI (64 * t + i)) 320 := vp_in_nI (by omega) (by decide)
  unfold wpX_execute; dsimp only
  refine xl_top hk hd0 ed ⟨vx, nm_r (e' := nI t) (by rw [ex, eft]) ⟨vx, nm_r (e' := nI (64 * t + i)) (by rw [ex, efn, e1]) ⟨v320, nm_r (e' := nI 17) (by rw [e2, eo]) ⟨v320, nm_r (e' := ca (64 * t + i)) (by rw [e2]) ⟨vt, vt, nm_r (e' := upd tu t (tu t + 1)) (by rw [et]) ⟨vx, vx, nm_r (e' := upd fn (6 * k + (d - 1)) (nI (i + 1))) (by rw [ex, efn, nI_1]) ?_⟩⟩⟩⟩⟩⟩
  refine br_f (by decide) (br_f (by decide) (br_f (by decide) (br_f (by decide) (br_f (by decide) (br_f (by decide) (br_f (by decide) (br_t (by decide) (?_))))))))
  refine hr _ ?_
  obtain ⟨y0, y1, y2, y3, y4, y5, y6, y7, y8, y9, y10, y11, y12, y13, y14, y15, y16, y17, y18, y19, y20, y21, y22, y23, y24, y25, y26, y27, y28, y29, y30, y31, y32, y33, y34, y35⟩ := u1
  exact hp
theorem xe_18 {post : Int32 → SX → Prop} {k d t i h : Nat} (B : bs_R k d t i h 18 fd ft fn fh co) (u1 : SX) (r : Int32) (hr : ∀ post' : Int32 → SX → Prop, post' r u1 → wpX_guardPath post' (q, tn, sl, pc, wp, he, co, ca, cb, fs, fc, ts, upd tu t (tu t + 1), ux, tl, ul, tm, gc, ga, gp, ss, st, sf, tc, tr, ow, ti, fd, ft, fk, upd fn (6 * k + (d - 1)) (nI (i + 1)), fh, fl, fv, rs, nt) (nI k) (ca (64 * t + i)) (cb (64 * t + i))) (hp : post r u1) : wpX_execute post (q, tn, sl, pc, wp, he, co, ca, cb, fs, fc, ts, tu, ux, tl, ul, tm, gc, ga, gp, ss, st, sf, tc, tr, ow, ti, fd, ft, fk, fn, fh, fl, fv, rs, nt) (nI k) := by
  obtain ⟨hk, hd0, hd6, ed, ht, eft, efn, efh, hi, ho24, eo⟩ := B
  have ex : (nI (6 * k + (d - 1))).toNatClampNeg = 6 * k + (d - 1) := nI_clamp (by omega)
  have vx : vp_in (nI (6 * k + (d - 1))) 36 := vp_in_nI (by omega) (by decide)
  have et : (nI t).toNatClampNeg = t := nI_clamp (by omega)
  have vt : vp_in (nI t) 4 := vp_in_nI ht (by decide)
  have e1 : nI t * 64 + nI i = nI (64 * t + i) := ix_r 64 rfl t i
  have e2 : (nI (64 * t + i)).toNatClampNeg = 64 * t + i := nI_clamp (by omega)
  have v320 : vp_in (nI (64 * t + i)) 320 := vp_in_nI (by omega) (by decide)
  unfold wpX_execute; dsimp only
  refine xl_top hk hd0 ed ⟨vx, nm_r (e' := nI t) (by rw [ex, eft]) ⟨vx, nm_r (e' := nI (64 * t + i)) (by rw [ex, efn, e1]) ⟨v320, nm_r (e' := nI 18) (by rw [e2, eo]) ⟨v320, nm_r (e' := ca (64 * t + i)) (by rw [e2]) ⟨vt, vt, nm_r (e' := upd tu t (tu t + 1)) (by rw [et]) ⟨vx, vx, nm_r (e' := upd fn (6 * k + (d - 1)) (nI (i + 1))) (by rw [ex, efn, nI_1]) ?_⟩⟩⟩⟩⟩⟩
  refine br_f (by decide) (br_f (by decide) (br_f (by decide) (br_f (by decide) (br_f (by decide) (br_f (by decide) (br_f (by decide) (br_f (by decide) (br_t (by decide) (?_)))))))))
  rw [e2]
  refine ⟨v320, hr _ ?_⟩
  obtain ⟨y0, y1, y2, y3, y4, y5, y6, y7, y8, y9, y10, y11, y12, y13, y14, y15, y16, y17, y18, y19, y20, y21, y22, y23, y24, y25, y26, y27, y28, y29, y30, y31, y32, y33, y34, y35⟩ := u1
  exact hp
theorem xe_19 {post : Int32 → SX → Prop} {k d t i h : Nat} (B : bs_R k d t i h 19 fd ft fn fh co) (u1 : SX) (hr : ∀ post' : SX → Prop, post' u1 → wpX_allocUnits post' (q, tn, sl, pc, wp, he, co, ca, cb, fs, fc, ts, upd tu t (tu t + 1), ux, tl, ul, tm, gc, ga, gp, ss, st, sf, tc, tr, ow, ti, fd, ft, fk, upd fn (6 * k + (d - 1)) (nI (i + 1)), fh, fl, fv, rs, nt) (nI (6 * k + (d - 1)))) (hp : post 0 u1) : wpX_execute post (q, tn, sl, pc, wp, he, co, ca, cb, fs, fc, ts, tu, ux, tl, ul, tm, gc, ga, gp, ss, st, sf, tc, tr, ow, ti, fd, ft, fk, fn, fh, fl, fv, rs, nt) (nI k) := by
  obtain ⟨hk, hd0, hd6, ed, ht, eft, efn, efh, hi, ho24, eo⟩ := B
  have ex : (nI (6 * k + (d - 1))).toNatClampNeg = 6 * k + (d - 1) := nI_clamp (by omega)
  have vx : vp_in (nI (6 * k + (d - 1))) 36 := vp_in_nI (by omega) (by decide)
  have et : (nI t).toNatClampNeg = t := nI_clamp (by omega)
  have vt : vp_in (nI t) 4 := vp_in_nI ht (by decide)
  have e1 : nI t * 64 + nI i = nI (64 * t + i) := ix_r 64 rfl t i
  have e2 : (nI (64 * t + i)).toNatClampNeg = 64 * t + i := nI_clamp (by omega)
  have v320 : vp_in (nI (64 * t + i)) 320 := vp_in_nI (by omega) (by decide)
  unfold wpX_execute; dsimp only
  refine xl_top hk hd0 ed ⟨vx, nm_r (e' := nI t) (by rw [ex, eft]) ⟨vx, nm_r (e' := nI (64 * t + i)) (by rw [ex, efn, e1]) ⟨v320, nm_r (e' := nI 19) (by rw [e2, eo]) ⟨v320, nm_r (e' := ca (64 * t + i)) (by rw [e2]) ⟨vt, vt, nm_r (e' := upd tu t (tu t + 1)) (by rw [et]) ⟨vx, vx, nm_r (e' := upd fn (6 * k + (d - 1)) (nI (i + 1))) (by rw [ex, efn, nI_1]) ?_⟩⟩⟩⟩⟩⟩
  refine br_f (by decide) (br_f (by decide) (br_f (by decide) (br_f (by decide) (br_f (by decide) (br_f (by decide) (br_f (by decide) (br_f (by decide) (br_f (by decide) (br_t (by decide) (?_))))))))))
  refine hr _ ?_
  obtain ⟨y0, y1, y2, y3, y4, y5, y6, y7, y8, y9, y10, y11, y12, y13, y14, y15, y16, y17, y18, y19, y20, y21, y22, y23, y24, y25, y26, y27, y28, y29, y30, y31, y32, y33, y34, y35⟩ := u1
  exact hp
theorem xe_20 {post : Int32 → SX → Prop} {k d t i h : Nat} (B : bs_R k d t i h 20 fd ft fn fh co) (u1 : SX) (hr : ∀ post' : SX → Prop, post' u1 → wpX_freeUnits post' (q, tn, sl, pc, wp, he, co, ca, cb, fs, fc, ts, upd tu t (tu t + 1), ux, tl, ul, tm, gc, ga, gp, ss, st, sf, tc, tr, ow, ti, fd, ft, fk, upd fn (6 * k + (d - 1)) (nI (i + 1)), fh, fl, fv, rs, nt) (nI (6 * k + (d - 1)))) (hp : post 0 u1) : wpX_execute post (q, tn, sl, pc, wp, he, co, ca, cb, fs, fc, ts, tu, ux, tl, ul, tm, gc, ga, gp, ss, st, sf, tc, tr, ow, ti, fd, ft, fk, fn, fh, fl, fv, rs, nt) (nI k) := by
  obtain ⟨hk, hd0, hd6, ed, ht, eft, efn, efh, hi, ho24, eo⟩ := B
  have ex : (nI (6 * k + (d - 1))).toNatClampNeg = 6 * k + (d - 1) := nI_clamp (by omega)
  have vx : vp_in (nI (6 * k + (d - 1))) 36 := vp_in_nI (by omega) (by decide)
  have et : (nI t).toNatClampNeg = t := nI_clamp (by omega)
  have vt : vp_in (nI t) 4 := vp_in_nI ht (by decide)
  have e1 : nI t * 64 + nI i = nI (64 * t + i) := ix_r 64 rfl t i
  have e2 : (nI (64 * t + i)).toNatClampNeg = 64 * t + i := nI_clamp (by omega)
  have v320 : vp_in (nI (64 * t + i)) 320 := vp_in_nI (by omega) (by decide)
  unfold wpX_execute; dsimp only
  refine xl_top hk hd0 ed ⟨vx, nm_r (e' := nI t) (by rw [ex, eft]) ⟨vx, nm_r (e' := nI (64 * t + i)) (by rw [ex, efn, e1]) ⟨v320, nm_r (e' := nI 20) (by rw [e2, eo]) ⟨v320, nm_r (e' := ca (64 * t + i)) (by rw [e2]) ⟨vt, vt, nm_r (e' := upd tu t (tu t + 1)) (by rw [et]) ⟨vx, vx, nm_r (e' := upd fn (6 * k + (d - 1)) (nI (i + 1))) (by rw [ex, efn, nI_1]) ?_⟩⟩⟩⟩⟩⟩
  refine br_f (by decide) (br_f (by decide) (br_f (by decide) (br_f (by decide) (br_f (by decide) (br_f (by decide) (br_f (by decide) (br_f (by decide) (br_f (by decide) (br_f (by decide) (br_t (by decide) (?_)))))))))))
  refine hr _ ?_
  obtain ⟨y0, y1, y2, y3, y4, y5, y6, y7, y8, y9, y10, y11, y12, y13, y14, y15, y16, y17, y18, y19, y20, y21, y22, y23, y24, y25, y26, y27, y28, y29, y30, y31, y32, y33, y34, y35⟩ := u1
  exact hp
theorem xe_21 {post : Int32 → SX → Prop} {k d t i h : Nat} (B : bs_R k d t i h 21 fd ft fn fh co) (u1 : SX) (hr : ∀ post' : SX → Prop, post' u1 → wpX_returnValue post' (q, tn, sl, pc, wp, he, co, ca, cb, fs, fc, ts, upd tu t (tu t + 1), ux, tl, ul, tm, gc, ga, gp, ss, st, sf, tc, tr, ow, ti, fd, ft, fk, upd fn (6 * k + (d - 1)) (nI (i + 1)), fh, fl, fv, rs, nt) (nI k)) (hp : post 0 u1) : wpX_execute post (q, tn, sl, pc, wp, he, co, ca, cb, fs, fc, ts, tu, ux, tl, ul, tm, gc, ga, gp, ss, st, sf, tc, tr, ow, ti, fd, ft, fk, fn, fh, fl, fv, rs, nt) (nI k) := by
  obtain ⟨hk, hd0, hd6, ed, ht, eft, efn, efh, hi, ho24, eo⟩ := B
  have ex : (nI (6 * k + (d - 1))).toNatClampNeg = 6 * k + (d - 1) := nI_clamp (by omega)
  have vx : vp_in (nI (6 * k + (d - 1))) 36 := vp_in_nI (by omega) (by decide)
  have et : (nI t).toNatClampNeg = t := nI_clamp (by omega)
  have vt : vp_in (nI t) 4 := vp_in_nI ht (by decide)
  have e1 : nI t * 64 + nI i = nI (64 * t + i) := ix_r 64 rfl t i
  have e2 : (nI (64 * t + i)).toNatClampNeg = 64 * t + i := nI_clamp (by omega)
  have v320 : vp_in (nI (64 * t + i)) 320 := vp_in_nI (by omega) (by decide)
  unfold wpX_execute; dsimp only
  refine xl_top hk hd0 ed ⟨vx, nm_r (e' := nI t) (by rw [ex, eft]) ⟨vx, nm_r (e' := nI (64 * t + i)) (by rw [ex, efn, e1]) ⟨v320, nm_r (e' := nI 21) (by rw [e2, eo]) ⟨v320, nm_r (e' := ca (64 * t + i)) (by rw [e2]) ⟨vt, vt, nm_r (e' := upd tu t (tu t + 1)) (by rw [et]) ⟨vx, vx, nm_r (e' := upd fn (6 * k + (d - 1)) (nI (i + 1))) (by rw [ex, efn, nI_1]) ?_⟩⟩⟩⟩⟩⟩
  refine br_f (by decide) (br_f (by decide) (br_f (by decide) (br_f (by decide) (br_f (by decide) (br_f (by decide) (br_f (by decide) (br_f (by decide) (br_f (by decide) (br_f (by decide) (br_f (by decide) (br_t (by decide) (?_))))))))))))
  refine hr _ ?_
  obtain ⟨y0, y1, y2, y3, y4, y5, y6, y7, y8, y9, y10, y11, y12, y13, y14, y15, y16, y17, y18, y19, y20, y21, y22, y23, y24, y25, y26, y27, y28, y29, y30, y31, y32, y33, y34, y35⟩ := u1
  exact hp
theorem xe_22 {post : Int32 → SX → Prop} {k d t i h : Nat} (B : bs_R k d t i h 22 fd ft fn fh co) (h0 : 0 < h) (h8 : h ≤ 8) (hp : post (10 + (fv (8 * (6 * k + (d - 1)) + (h - 1)) &&& 15)) (q, tn, sl, pc, wp, he, co, ca, cb, fs, fc, ts, upd tu t (tu t + 1), ux, tl, ul, tm, gc, ga, gp, ss, st, sf, tc, tr, ow, ti, fd, ft, fk, upd fn (6 * k + (d - 1)) (nI (i + 1)), upd fh (6 * k + (d - 1)) (nI (h - 1)), fl, fv, rs, nt)) : wpX_execute post (q, tn, sl, pc, wp, he, co, ca, cb, fs, fc, ts, tu, ux, tl, ul, tm, gc, ga, gp, ss, st, sf, tc, tr, ow, ti, fd, ft, fk, fn, fh, fl, fv, rs, nt) (nI k) := by
  obtain ⟨hk, hd0, hd6, ed, ht, eft, efn, efh, hi, ho24, eo⟩ := B
  have ex : (nI (6 * k + (d - 1))).toNatClampNeg = 6 * k + (d - 1) := nI_clamp (by omega)
  have vx : vp_in (nI (6 * k + (d - 1))) 36 := vp_in_nI (by omega) (by decide)
  have et : (nI t).toNatClampNeg = t := nI_clamp (by omega)
  have vt : vp_in (nI t) 4 := vp_in_nI ht (by decide)
  have e1 : nI t * 64 + nI i = nI (64 * t + i) := ix_r 64 rfl t i
  have e2 : (nI (64 * t + i)).toNatClampNeg = 64 * t + i := nI_clamp (by omega)
  have v320 : vp_in (nI (64 * t + i)) 320 := vp_in_nI (by omega) (by decide)
  unfold wpX_execute; dsimp only
  refine xl_top hk hd0 ed ⟨vx, nm_r (e' := nI t) (by rw [ex, eft]) ⟨vx, nm_r (e' := nI (64 * t + i)) (by rw [ex, efn, e1]) ⟨v320, nm_r (e' := nI 22) (by rw [e2, eo]) ⟨v320, nm_r (e' := ca (64 * t + i)) (by rw [e2]) ⟨vt, vt, nm_r (e' := upd tu t (tu t + 1)) (by rw [et]) ⟨vx, vx, nm_r (e' := upd fn (6 * k + (d - 1)) (nI (i + 1))) (by rw [ex, efn, nI_1]) ?_⟩⟩⟩⟩⟩⟩
  refine br_f (by decide) (br_f (by decide) (br_f (by decide) (br_f (by decide) (br_f (by decide) (br_f (by decide) (br_f (by decide) (br_f (by decide) (br_f (by decide) (br_f (by decide) (br_f (by decide) (br_f (by decide) (br_t (by decide) (?_)))))))))))))
  exact xl_pop (h := h - 1) (by omega) (by rw [efh]; exact congrArg nI (by omega)) (by omega) hp
theorem xe_23 {post : Int32 → SX → Prop} {k d t i h : Nat} (B : bs_R k d t i h 23 fd ft fn fh co) (hp : post 0 (q, tn, 0, pc, wp, he, co, ca, cb, fs, fc, ts, upd tu t (tu t + 1), ux, tl, ul, tm, gc, ga, gp, ss, st, sf, tc, tr, ow, ti, fd, ft, fk, upd fn (6 * k + (d - 1)) (nI (i + 1)), fh, fl, fv, rs, nt)) : wpX_execute post (q, tn, sl, pc, wp, he, co, ca, cb, fs, fc, ts, tu, ux, tl, ul, tm, gc, ga, gp, ss, st, sf, tc, tr, ow, ti, fd, ft, fk, fn, fh, fl, fv, rs, nt) (nI k) := by
  obtain ⟨hk, hd0, hd6, ed, ht, eft, efn, efh, hi, ho24, eo⟩ := B
  have ex : (nI (6 * k + (d - 1))).toNatClampNeg = 6 * k + (d - 1) := nI_clamp (by omega)
  have vx : vp_in (nI (6 * k + (d - 1))) 36 := vp_in_nI (by omega) (by decide)
  have et : (nI t).toNatClampNeg = t := nI_clamp (by omega)
  have vt : vp_in (nI t) 4 := vp_in_nI ht (by decide)
  have e1 : nI t * 64 + nI i = nI (64 * t + i) := ix_r 64 rfl t i
  have e2 : (nI (64 * t + i)).toNatClampNeg = 64 * t + i := nI_clamp (by omega)
  have v320 : vp_in (nI (64 * t + i)) 320 := vp_in_nI (by omega) (by decide)
  unfold wpX_execute; dsimp only
  refine xl_top hk hd0 ed ⟨vx, nm_r (e' := nI t) (by rw [ex, eft]) ⟨vx, nm_r (e' := nI (64 * t + i)) (by rw [ex, efn, e1]) ⟨v320, nm_r (e' := nI 23) (by rw [e2, eo]) ⟨v320, nm_r (e' := ca (64 * t + i)) (by rw [e2]) ⟨vt, vt, nm_r (e' := upd tu t (tu t + 1)) (by rw [et]) ⟨vx, vx, nm_r (e' := upd fn (6 * k + (d - 1)) (nI (i + 1))) (by rw [ex, efn, nI_1]) ?_⟩⟩⟩⟩⟩⟩
  refine br_f (by decide) (br_f (by decide) (br_f (by decide) (br_f (by decide) (br_f (by decide) (br_f (by decide) (br_f (by decide) (br_f (by decide) (br_f (by decide) (br_f (by decide) (br_f (by decide) (br_f (by decide) (br_f (by decide) (br_t (by decide) (?_))))))))))))))
  exact hp
theorem xl_dup {post : SX → Prop} {x h : Nat} (hx : x < 36) (hh : fh x = nI (h + 1)) (h8 : h + 1 < 8) (hp : post (q, tn, sl, pc, wp, he, co, ca, cb, fs, fc, ts, tu, ux, tl, ul, tm, gc, ga, gp, ss, st, sf, tc, tr, ow, ti, fd, ft, fk, fn, upd (upd (upd fh x (nI h)) x (nI (h + 1))) x (nI (h + 1 + 1)), fl, upd (upd fv (8 * x + h) (fv (8 * x + h))) (8 * x + (h + 1)) (fv (8 * x + h)), rs, nt)) : wpX_duplicateTop post (q, tn, sl, pc, wp, he, co, ca, cb, fs, fc, ts, tu, ux, tl, ul, tm, gc, ga, gp, ss, st, sf, tc, tr, ow, ti, fd, ft, fk, fn, fh, fl, fv, rs, nt) (nI x) := by
  unfold wpX_duplicateTop; dsimp only
  refine xl_pop (h := h) hx hh (by omega) ?_
  refine xl_push (h := h) hx pk_us (by omega) ?_
  exact xl_push (h := h + 1) hx pk_us (by omega) hp
theorem xl_swap {post : SX → Prop} {x h : Nat} (hx : x < 36) (hh : fh x = nI (h + 1 + 1)) (h8 : h + 1 < 8) (hp : post (q, tn, sl, pc, wp, he, co, ca, cb, fs, fc, ts, tu, ux, tl, ul, tm, gc, ga, gp, ss, st, sf, tc, tr, ow, ti, fd, ft, fk, fn, upd (upd (upd (upd fh x (nI (h + 1))) x (nI h)) x (nI (h + 1))) x (nI (h + 1 + 1)), fl, upd (upd fv (8 * x + h) (fv (8 * x + (h + 1)))) (8 * x + (h + 1)) (fv (8 * x + h)), rs, nt)) : wpX_swapTop post (q, tn, sl, pc, wp, he, co, ca, cb, fs, fc, ts, tu, ux, tl, ul, tm, gc, ga, gp, ss, st, sf, tc, tr, ow, ti, fd, ft, fk, fn, fh, fl, fv, rs, nt) (nI x) := by
  unfold wpX_swapTop; dsimp only
  refine xl_pop (h := h + 1) hx hh (by omega) ?_
  refine xl_pop (h := h) hx pk_us (by omega) ?_
  refine xl_push (h := h) hx pk_us (by omega) ?_
  exact xl_push (h := h + 1) hx pk_us (by omega) hp
def cm_v (o : Nat) (l r : Int32) : Int32 := if o = 5 then l + r else if o = 6 then l - r else if o = 7 then l * r else if o = 8 then (if r ≤ l then 0 else 1) else (if l = r then 1 else 0)
theorem xl_cm5 {post : SX → Prop} {x h : Nat} (hx : x < 36) (hh : fh x = nI (h + 1 + 1)) (h8 : h + 1 < 8) (hp : post (q, tn, sl, pc, wp, he, co, ca, cb, fs, fc, ts, tu, ux, tl, ul, tm, gc, ga, gp, ss, st, sf, tc, tr, ow, ti, fd, ft, fk, fn, upd (upd (upd fh x (nI (h + 1))) x (nI h)) x (nI (h + 1)), fl, upd fv (8 * x + h) (cm_v 5 (fv (8 * x + h)) (fv (8 * x + (h + 1)))), rs, nt)) : wpX_combineTwo post (q, tn, sl, pc, wp, he, co, ca, cb, fs, fc, ts, tu, ux, tl, ul, tm, gc, ga, gp, ss, st, sf, tc, tr, ow, ti, fd, ft, fk, fn, fh, fl, fv, rs, nt) (nI x) (nI 5) := by
  unfold wpX_combineTwo; dsimp only
  refine xl_pop (h := h + 1) hx hh (by omega) ?_
  refine xl_pop (h := h) hx pk_us (by omega) ?_
  refine br_f (by decide) (br_f (by decide) (br_t (by decide) (nm_e ?_)))
  unfold wX_combineTwo_104
  exact xl_push (h := h) hx pk_us (by omega) hp
theorem xl_cm6 {post : SX → Prop} {x h : Nat} (hx : x < 36) (hh : fh x = nI (h + 1 + 1)) (h8 : h + 1 < 8) (hp : post (q, tn, sl, pc, wp, he, co, ca, cb, fs, fc, ts, tu, ux, tl, ul, tm, gc, ga, gp, ss, st, sf, tc, tr, ow, ti, fd, ft, fk, fn, upd (upd (upd fh x (nI (h + 1))) x (nI h)) x (nI (h + 1)), fl, upd fv (8 * x + h) (cm_v 6 (fv (8 * x + h)) (fv (8 * x + (h + 1)))), rs, nt)) : wpX_combineTwo post (q, tn, sl, pc, wp, he, co, ca, cb, fs, fc, ts, tu, ux, tl, ul, tm, gc, ga, gp, ss, st, sf, tc, tr, ow, ti, fd, ft, fk, fn, fh, fl, fv, rs, nt) (nI x) (nI 6) := by
  unfold wpX_combineTwo; dsimp only
  refine xl_pop (h := h + 1) hx hh (by omega) ?_
  refine xl_pop (h := h) hx pk_us (by omega) ?_
  refine br_f (by decide) (br_f (by decide) (br_f (by decide) (br_t (by decide) (nm_e ?_))))
  unfold wX_combineTwo_104
  exact xl_push (h := h) hx pk_us (by omega) hp
theorem xl_cm7 {post : SX → Prop} {x h : Nat} (hx : x < 36) (hh : fh x = nI (h + 1 + 1)) (h8 : h + 1 < 8) (hp : post (q, tn, sl, pc, wp, he, co, ca, cb, fs, fc, ts, tu, ux, tl, ul, tm, gc, ga, gp, ss, st, sf, tc, tr, ow, ti, fd, ft, fk, fn, upd (upd (upd fh x (nI (h + 1))) x (nI h)) x (nI (h + 1)), fl, upd fv (8 * x + h) (cm_v 7 (fv (8 * x + h)) (fv (8 * x + (h + 1)))), rs, nt)) : wpX_combineTwo post (q, tn, sl, pc, wp, he, co, ca, cb, fs, fc, ts, tu, ux, tl, ul, tm, gc, ga, gp, ss, st, sf, tc, tr, ow, ti, fd, ft, fk, fn, fh, fl, fv, rs, nt) (nI x) (nI 7) := by
  unfold wpX_combineTwo; dsimp only
  refine xl_pop (h := h + 1) hx hh (by omega) ?_
  refine xl_pop (h := h) hx pk_us (by omega) ?_
  refine br_f (by decide) (br_f (by decide) (br_f (by decide) (br_f (by decide) (br_t (by decide) (nm_e ?_)))))
  unfold wX_combineTwo_104
  exact xl_push (h := h) hx pk_us (by omega) hp
theorem xl_cm8 {post : SX → Prop} {x h : Nat} (hx : x < 36) (hh : fh x = nI (h + 1 + 1)) (h8 : h + 1 < 8) (hp : post (q, tn, sl, pc, wp, he, co, ca, cb, fs, fc, ts, tu, ux, tl, ul, tm, gc, ga, gp, ss, st, sf, tc, tr, ow, ti, fd, ft, fk, fn, upd (upd (upd fh x (nI (h + 1))) x (nI h)) x (nI (h + 1)), fl, upd fv (8 * x + h) (cm_v 8 (fv (8 * x + h)) (fv (8 * x + (h + 1)))), rs, nt)) : wpX_combineTwo post (q, tn, sl, pc, wp, he, co, ca, cb, fs, fc, ts, tu, ux, tl, ul, tm, gc, ga, gp, ss, st, sf, tc, tr, ow, ti, fd, ft, fk, fn, fh, fl, fv, rs, nt) (nI x) (nI 8) := by
  unfold wpX_combineTwo; dsimp only
  refine xl_pop (h := h + 1) hx hh (by omega) ?_
  refine xl_pop (h := h) hx pk_us (by omega) ?_
  by_cases c : fv (8 * x + (h + 1)) ≤ fv (8 * x + h)
  · have e : cm_v 8 (fv (8 * x + h)) (fv (8 * x + (h + 1))) = 0 := by simp only [cm_v]; simp [c]
    rw [e] at hp
    refine br_f (by decide) (br_f (by decide) (br_f (by decide) (br_f (by decide) (br_f (by decide) (br_t (by decide) (br_t c ?_))))))
    unfold wX_combineTwo_86 wX_combineTwo_104
    exact xl_push (h := h) hx pk_us (by omega) hp
  · have e : cm_v 8 (fv (8 * x + h)) (fv (8 * x + (h + 1))) = 1 := by simp only [cm_v]; simp [c]
    rw [e] at hp
    refine br_f (by decide) (br_f (by decide) (br_f (by decide) (br_f (by decide) (br_f (by decide) (br_t (by decide) (br_f c ?_))))))
    unfold wX_combineTwo_86 wX_combineTwo_104
    exact xl_push (h := h) hx pk_us (by omega) hp
theorem xl_cm9 {post : SX → Prop} {x h : Nat} (hx : x < 36) (hh : fh x = nI (h + 1 + 1)) (h8 : h + 1 < 8) (hp : post (q, tn, sl, pc, wp, he, co, ca, cb, fs, fc, ts, tu, ux, tl, ul, tm, gc, ga, gp, ss, st, sf, tc, tr, ow, ti, fd, ft, fk, fn, upd (upd (upd fh x (nI (h + 1))) x (nI h)) x (nI (h + 1)), fl, upd fv (8 * x + h) (cm_v 9 (fv (8 * x + h)) (fv (8 * x + (h + 1)))), rs, nt)) : wpX_combineTwo post (q, tn, sl, pc, wp, he, co, ca, cb, fs, fc, ts, tu, ux, tl, ul, tm, gc, ga, gp, ss, st, sf, tc, tr, ow, ti, fd, ft, fk, fn, fh, fl, fv, rs, nt) (nI x) (nI 9) := by
  unfold wpX_combineTwo; dsimp only
  refine xl_pop (h := h + 1) hx hh (by omega) ?_
  refine xl_pop (h := h) hx pk_us (by omega) ?_
  by_cases c : fv (8 * x + h) = fv (8 * x + (h + 1))
  · have e : cm_v 9 (fv (8 * x + h)) (fv (8 * x + (h + 1))) = 1 := by simp only [cm_v]; simp [c]
    rw [e] at hp
    refine br_f (by decide) (br_t (by decide) (br_t c ?_))
    unfold wX_combineTwo_102 wX_combineTwo_104
    exact xl_push (h := h) hx pk_us (by omega) hp
  · have e : cm_v 9 (fv (8 * x + h)) (fv (8 * x + (h + 1))) = 0 := by simp only [cm_v]; simp [c]
    rw [e] at hp
    refine br_f (by decide) (br_t (by decide) (br_f c ?_))
    unfold wX_combineTwo_102 wX_combineTwo_104
    exact xl_push (h := h) hx pk_us (by omega) hp
theorem xc_0 {post : SX → Prop} {x : Nat} {a : Int32} (hx : x < 36)  (hp : post (q, tn, sl, pc, wp, he, co, ca, cb, fs, fc, ts, tu, ux, tl, ul, tm, gc, ga, gp, ss, st, sf, tc, tr, ow, ti, fd, ft, fk, fn, fh, fl, fv, rs, nt)) : wpX_computeValues post (q, tn, sl, pc, wp, he, co, ca, cb, fs, fc, ts, tu, ux, tl, ul, tm, gc, ga, gp, ss, st, sf, tc, tr, ow, ti, fd, ft, fk, fn, fh, fl, fv, rs, nt) (nI x) (nI 0) a := by
  exact br_t (by decide) hp
theorem yc_0 {post : SY → Prop} {x : Nat} {a : Int32} (hx : x < 36)  (hp : post (q, wp, tn, sl, yd, nd, co, ca, cb, le, he, kl, tu, uy, tl, ul, tm, gc, ga, gp, ss, st, sf, fd, tc, tr, ow, ti, ft, fn, fh, fp, fz, fl, fv, rs, au)) : wpY_calculate post (q, wp, tn, sl, yd, nd, co, ca, cb, le, he, kl, tu, uy, tl, ul, tm, gc, ga, gp, ss, st, sf, fd, tc, tr, ow, ti, ft, fn, fh, fp, fz, fl, fv, rs, au) (nI x) (nI 0) a := by
  unfold wpY_calculate; dsimp only
  refine yl_pops (o := 0) (by decide) ?_
  rw [po_0]
  refine br_t (by decide) (br_t (by decide) ?_)
  exact br_f (by decide) (br_f (by decide) (br_t (by decide) (hp)))
theorem xc_1 {post : SX → Prop} {x h : Nat} {a : Int32} (hx : x < 36) (hh : fh x = nI h) (h8 : h < 8) (hp : post (q, tn, sl, pc, wp, he, co, ca, cb, fs, fc, ts, tu, ux, tl, ul, tm, gc, ga, gp, ss, st, sf, tc, tr, ow, ti, fd, ft, fk, fn, upd fh x (nI (h + 1)), fl, upd fv (8 * x + h) a, rs, nt)) : wpX_computeValues post (q, tn, sl, pc, wp, he, co, ca, cb, fs, fc, ts, tu, ux, tl, ul, tm, gc, ga, gp, ss, st, sf, tc, tr, ow, ti, fd, ft, fk, fn, fh, fl, fv, rs, nt) (nI x) (nI 1) a := by
  exact br_f (by decide) (br_f (by decide) (br_t (by decide) (xl_push (h := h) hx hh h8 hp)))
theorem yc_1 {post : SY → Prop} {x h : Nat} {a : Int32} (hx : x < 36) (hh : fh x = nI h) (h8 : h < 8) (hp : post (q, wp, tn, sl, yd, nd, co, ca, cb, le, he, kl, tu, uy, tl, ul, tm, gc, ga, gp, ss, st, sf, fd, tc, tr, ow, ti, ft, fn, upd fh x (nI (h + 1)), fp, fz, fl, upd fv (8 * x + h) a, rs, au)) : wpY_calculate post (q, wp, tn, sl, yd, nd, co, ca, cb, le, he, kl, tu, uy, tl, ul, tm, gc, ga, gp, ss, st, sf, fd, tc, tr, ow, ti, ft, fn, fh, fp, fz, fl, fv, rs, au) (nI x) (nI 1) a := by
  unfold wpY_calculate; dsimp only
  refine yl_pops (o := 1) (by decide) ?_
  rw [po_1]
  refine br_t (by decide) (br_t (by decide) ?_)
  exact br_f (by decide) (br_f (by decide) (br_f (by decide) (br_t (by decide) (yl_push (h := h) hx hh h8 hp))))
theorem xc_2 {post : SX → Prop} {x h : Nat} {a : Int32} (hx : x < 36) (hh : fh x = nI (h + 1)) (h8 : h + 1 < 8) (hp : post (q, tn, sl, pc, wp, he, co, ca, cb, fs, fc, ts, tu, ux, tl, ul, tm, gc, ga, gp, ss, st, sf, tc, tr, ow, ti, fd, ft, fk, fn, upd (upd (upd fh x (nI h)) x (nI (h + 1))) x (nI (h + 1 + 1)), fl, upd (upd fv (8 * x + h) (fv (8 * x + h))) (8 * x + (h + 1)) (fv (8 * x + h)), rs, nt)) : wpX_computeValues post (q, tn, sl, pc, wp, he, co, ca, cb, fs, fc, ts, tu, ux, tl, ul, tm, gc, ga, gp, ss, st, sf, tc, tr, ow, ti, fd, ft, fk, fn, fh, fl, fv, rs, nt) (nI x) (nI 2) a := by
  exact br_f (by decide) (br_f (by decide) (br_f (by decide) (br_t (by decide) (xl_dup hx hh h8 hp))))
theorem yc_2 {post : SY → Prop} {x h : Nat} {a : Int32} (hx : x < 36) (hh : fh x = nI (h + 1)) (h8 : h + 1 < 8) (hp : post (q, wp, tn, sl, yd, nd, co, ca, cb, le, he, kl, tu, uy, tl, ul, tm, gc, ga, gp, ss, st, sf, fd, tc, tr, ow, ti, ft, fn, upd (upd (upd fh x (nI h)) x (nI (h + 1))) x (nI (h + 1 + 1)), fp, fz, fl, upd (upd fv (8 * x + h) (fv (8 * x + h))) (8 * x + (h + 1)) (fv (8 * x + h)), rs, au)) : wpY_calculate post (q, wp, tn, sl, yd, nd, co, ca, cb, le, he, kl, tu, uy, tl, ul, tm, gc, ga, gp, ss, st, sf, fd, tc, tr, ow, ti, ft, fn, fh, fp, fz, fl, fv, rs, au) (nI x) (nI 2) a := by
  unfold wpY_calculate; dsimp only
  refine yl_pops (o := 2) (by decide) ?_
  rw [po_2]
  refine br_f (by decide) (yl_pop (h := h) hx hh (by omega) (br_t (by decide) ?_))
  refine br_f (by decide) (br_f (by decide) (br_f (by decide) (br_f (by decide) (br_t (by decide) (yl_push (h := h) hx pk_us (by omega) ?_)))))
  exact yl_push (h := h + 1) hx pk_us (by omega) hp
theorem xc_3 {post : SX → Prop} {x h : Nat} {a : Int32} (hx : x < 36) (hh : fh x = nI (h + 1)) (h8 : h < 8) (hp : post (q, tn, sl, pc, wp, he, co, ca, cb, fs, fc, ts, tu, ux, tl, ul, tm, gc, ga, gp, ss, st, sf, tc, tr, ow, ti, fd, ft, fk, fn, upd fh x (nI h), fl, fv, rs, nt)) : wpX_computeValues post (q, tn, sl, pc, wp, he, co, ca, cb, fs, fc, ts, tu, ux, tl, ul, tm, gc, ga, gp, ss, st, sf, tc, tr, ow, ti, fd, ft, fk, fn, fh, fl, fv, rs, nt) (nI x) (nI 3) a := by
  exact br_f (by decide) (br_f (by decide) (br_f (by decide) (br_f (by decide) (br_t (by decide) (xl_pop (h := h) hx hh h8 hp)))))
theorem yc_3 {post : SY → Prop} {x h : Nat} {a : Int32} (hx : x < 36) (hh : fh x = nI (h + 1)) (h8 : h < 8) (hp : post (q, wp, tn, sl, yd, nd, co, ca, cb, le, he, kl, tu, uy, tl, ul, tm, gc, ga, gp, ss, st, sf, fd, tc, tr, ow, ti, ft, fn, upd fh x (nI h), fp, fz, fl, fv, rs, au)) : wpY_calculate post (q, wp, tn, sl, yd, nd, co, ca, cb, le, he, kl, tu, uy, tl, ul, tm, gc, ga, gp, ss, st, sf, fd, tc, tr, ow, ti, ft, fn, fh, fp, fz, fl, fv, rs, au) (nI x) (nI 3) a := by
  unfold wpY_calculate; dsimp only
  refine yl_pops (o := 3) (by decide) ?_
  rw [po_3]
  refine br_f (by decide) (yl_pop (h := h) hx hh (by omega) (br_t (by decide) ?_))
  exact br_f (by decide) (br_f (by decide) (br_f (by decide) (br_f (by decide) (br_f (by decide) (br_t (by decide) (hp))))))
theorem xc_4 {post : SX → Prop} {x h : Nat} {a : Int32} (hx : x < 36) (hh : fh x = nI (h + 1 + 1)) (h8 : h + 1 < 8) (hp : post (q, tn, sl, pc, wp, he, co, ca, cb, fs, fc, ts, tu, ux, tl, ul, tm, gc, ga, gp, ss, st, sf, tc, tr, ow, ti, fd, ft, fk, fn, upd (upd (upd (upd fh x (nI (h + 1))) x (nI h)) x (nI (h + 1))) x (nI (h + 1 + 1)), fl, upd (upd fv (8 * x + h) (fv (8 * x + (h + 1)))) (8 * x + (h + 1)) (fv (8 * x + h)), rs, nt)) : wpX_computeValues post (q, tn, sl, pc, wp, he, co, ca, cb, fs, fc, ts, tu, ux, tl, ul, tm, gc, ga, gp, ss, st, sf, tc, tr, ow, ti, fd, ft, fk, fn, fh, fl, fv, rs, nt) (nI x) (nI 4) a := by
  exact br_f (by decide) (br_f (by decide) (br_f (by decide) (br_f (by decide) (br_f (by decide) (br_t (by decide) (xl_swap hx hh h8 hp))))))
theorem yc_4 {post : SY → Prop} {x h : Nat} {a : Int32} (hx : x < 36) (hh : fh x = nI (h + 1 + 1)) (h8 : h + 1 < 8) (hp : post (q, wp, tn, sl, yd, nd, co, ca, cb, le, he, kl, tu, uy, tl, ul, tm, gc, ga, gp, ss, st, sf, fd, tc, tr, ow, ti, ft, fn, upd (upd (upd (upd fh x (nI (h + 1))) x (nI h)) x (nI (h + 1))) x (nI (h + 1 + 1)), fp, fz, fl, upd (upd fv (8 * x + h) (fv (8 * x + (h + 1)))) (8 * x + (h + 1)) (fv (8 * x + h)), rs, au)) : wpY_calculate post (q, wp, tn, sl, yd, nd, co, ca, cb, le, he, kl, tu, uy, tl, ul, tm, gc, ga, gp, ss, st, sf, fd, tc, tr, ow, ti, ft, fn, fh, fp, fz, fl, fv, rs, au) (nI x) (nI 4) a := by
  unfold wpY_calculate; dsimp only
  refine yl_pops (o := 4) (by decide) ?_
  rw [po_4]
  refine br_f (by decide) (yl_pop (h := h + 1) hx hh (by omega) (br_f (by decide) (yl_pop (h := h) hx pk_us (by omega) ?_)))
  refine br_f (by decide) (br_f (by decide) (br_f (by decide) (br_f (by decide) (br_f (by decide) (br_f (by decide) (br_t (by decide) (yl_push (h := h) hx pk_us (by omega) ?_)))))))
  exact yl_push (h := h + 1) hx pk_us (by omega) hp
theorem xc_5 {post : SX → Prop} {x h : Nat} {a : Int32} (hx : x < 36) (hh : fh x = nI (h + 1 + 1)) (h8 : h + 1 < 8) (hp : post (q, tn, sl, pc, wp, he, co, ca, cb, fs, fc, ts, tu, ux, tl, ul, tm, gc, ga, gp, ss, st, sf, tc, tr, ow, ti, fd, ft, fk, fn, upd (upd (upd fh x (nI (h + 1))) x (nI h)) x (nI (h + 1)), fl, upd fv (8 * x + h) (cm_v 5 (fv (8 * x + h)) (fv (8 * x + (h + 1)))), rs, nt)) : wpX_computeValues post (q, tn, sl, pc, wp, he, co, ca, cb, fs, fc, ts, tu, ux, tl, ul, tm, gc, ga, gp, ss, st, sf, tc, tr, ow, ti, fd, ft, fk, fn, fh, fl, fv, rs, nt) (nI x) (nI 5) a := by
  refine br_f (by decide) (br_f (by decide) (br_f (by decide) (br_f (by decide) (br_f (by decide) (br_f (by decide) (br_t (by decide) (?_)))))))
  unfold wX_computeValues_130
  exact xl_cm5 hx hh h8 hp
theorem yc_5 {post : SY → Prop} {x h : Nat} {a : Int32} (hx : x < 36) (hh : fh x = nI (h + 1 + 1)) (h8 : h + 1 < 8) (hp : post (q, wp, tn, sl, yd, nd, co, ca, cb, le, he, kl, tu, uy, tl, ul, tm, gc, ga, gp, ss, st, sf, fd, tc, tr, ow, ti, ft, fn, upd (upd (upd fh x (nI (h + 1))) x (nI h)) x (nI (h + 1)), fp, fz, fl, upd fv (8 * x + h) (cm_v 5 (fv (8 * x + h)) (fv (8 * x + (h + 1)))), rs, au)) : wpY_calculate post (q, wp, tn, sl, yd, nd, co, ca, cb, le, he, kl, tu, uy, tl, ul, tm, gc, ga, gp, ss, st, sf, fd, tc, tr, ow, ti, ft, fn, fh, fp, fz, fl, fv, rs, au) (nI x) (nI 5) a := by
  unfold wpY_calculate; dsimp only
  refine yl_pops (o := 5) (by decide) ?_
  rw [po_5]
  refine br_f (by decide) (yl_pop (h := h + 1) hx hh (by omega) (br_f (by decide) (yl_pop (h := h) hx pk_us (by omega) ?_)))
  exact br_f (by decide) (br_f (by decide) (br_f (by decide) (br_f (by decide) (br_f (by decide) (br_f (by decide) (br_f (by decide) (br_t (by decide) (yl_push (h := h) hx pk_us (by omega) hp))))))))
theorem xc_6 {post : SX → Prop} {x h : Nat} {a : Int32} (hx : x < 36) (hh : fh x = nI (h + 1 + 1)) (h8 : h + 1 < 8) (hp : post (q, tn, sl, pc, wp, he, co, ca, cb, fs, fc, ts, tu, ux, tl, ul, tm, gc, ga, gp, ss, st, sf, tc, tr, ow, ti, fd, ft, fk, fn, upd (upd (upd fh x (nI (h + 1))) x (nI h)) x (nI (h + 1)), fl, upd fv (8 * x + h) (cm_v 6 (fv (8 * x + h)) (fv (8 * x + (h + 1)))), rs, nt)) : wpX_computeValues post (q, tn, sl, pc, wp, he, co, ca, cb, fs, fc, ts, tu, ux, tl, ul, tm, gc, ga, gp, ss, st, sf, tc, tr, ow, ti, fd, ft, fk, fn, fh, fl, fv, rs, nt) (nI x) (nI 6) a := by
  refine br_f (by decide) (br_f (by decide) (br_f (by decide) (br_f (by decide) (br_f (by decide) (br_f (by decide) (br_f (by decide) (br_t (by decide) (?_))))))))
  unfold wX_computeValues_130
  exact xl_cm6 hx hh h8 hp
theorem yc_6 {post : SY → Prop} {x h : Nat} {a : Int32} (hx : x < 36) (hh : fh x = nI (h + 1 + 1)) (h8 : h + 1 < 8) (hp : post (q, wp, tn, sl, yd, nd, co, ca, cb, le, he, kl, tu, uy, tl, ul, tm, gc, ga, gp, ss, st, sf, fd, tc, tr, ow, ti, ft, fn, upd (upd (upd fh x (nI (h + 1))) x (nI h)) x (nI (h + 1)), fp, fz, fl, upd fv (8 * x + h) (cm_v 6 (fv (8 * x + h)) (fv (8 * x + (h + 1)))), rs, au)) : wpY_calculate post (q, wp, tn, sl, yd, nd, co, ca, cb, le, he, kl, tu, uy, tl, ul, tm, gc, ga, gp, ss, st, sf, fd, tc, tr, ow, ti, ft, fn, fh, fp, fz, fl, fv, rs, au) (nI x) (nI 6) a := by
  unfold wpY_calculate; dsimp only
  refine yl_pops (o := 6) (by decide) ?_
  rw [po_6]
  refine br_f (by decide) (yl_pop (h := h + 1) hx hh (by omega) (br_f (by decide) (yl_pop (h := h) hx pk_us (by omega) ?_)))
  exact br_f (by decide) (br_f (by decide) (br_f (by decide) (br_f (by decide) (br_f (by decide) (br_f (by decide) (br_f (by decide) (br_f (by decide) (br_t (by decide) (yl_push (h := h) hx pk_us (by omega) hp)))))))))
theorem xc_7 {post : SX → Prop} {x h : Nat} {a : Int32} (hx : x < 36) (hh : fh x = nI (h + 1 + 1)) (h8 : h + 1 < 8) (hp : post (q, tn, sl, pc, wp, he, co, ca, cb, fs, fc, ts, tu, ux, tl, ul, tm, gc, ga, gp, ss, st, sf, tc, tr, ow, ti, fd, ft, fk, fn, upd (upd (upd fh x (nI (h + 1))) x (nI h)) x (nI (h + 1)), fl, upd fv (8 * x + h) (cm_v 7 (fv (8 * x + h)) (fv (8 * x + (h + 1)))), rs, nt)) : wpX_computeValues post (q, tn, sl, pc, wp, he, co, ca, cb, fs, fc, ts, tu, ux, tl, ul, tm, gc, ga, gp, ss, st, sf, tc, tr, ow, ti, fd, ft, fk, fn, fh, fl, fv, rs, nt) (nI x) (nI 7) a := by
  refine br_f (by decide) (br_f (by decide) (br_f (by decide) (br_f (by decide) (br_f (by decide) (br_f (by decide) (br_f (by decide) (br_f (by decide) (br_t (by decide) (?_)))))))))
  unfold wX_computeValues_130
  exact xl_cm7 hx hh h8 hp
theorem yc_7 {post : SY → Prop} {x h : Nat} {a : Int32} (hx : x < 36) (hh : fh x = nI (h + 1 + 1)) (h8 : h + 1 < 8) (hp : post (q, wp, tn, sl, yd, nd, co, ca, cb, le, he, kl, tu, uy, tl, ul, tm, gc, ga, gp, ss, st, sf, fd, tc, tr, ow, ti, ft, fn, upd (upd (upd fh x (nI (h + 1))) x (nI h)) x (nI (h + 1)), fp, fz, fl, upd fv (8 * x + h) (cm_v 7 (fv (8 * x + h)) (fv (8 * x + (h + 1)))), rs, au)) : wpY_calculate post (q, wp, tn, sl, yd, nd, co, ca, cb, le, he, kl, tu, uy, tl, ul, tm, gc, ga, gp, ss, st, sf, fd, tc, tr, ow, ti, ft, fn, fh, fp, fz, fl, fv, rs, au) (nI x) (nI 7) a := by
  unfold wpY_calculate; dsimp only
  refine yl_pops (o := 7) (by decide) ?_
  rw [po_7]
  refine br_f (by decide) (yl_pop (h := h + 1) hx hh (by omega) (br_f (by decide) (yl_pop (h := h) hx pk_us (by omega) ?_)))
  exact br_f (by decide) (br_f (by decide) (br_f (by decide) (br_f (by decide) (br_f (by decide) (br_f (by decide) (br_f (by decide) (br_f (by decide) (br_f (by decide) (br_t (by decide) (yl_push (h := h) hx pk_us (by omega) hp))))))))))
theorem xc_8 {post : SX → Prop} {x h : Nat} {a : Int32} (hx : x < 36) (hh : fh x = nI (h + 1 + 1)) (h8 : h + 1 < 8) (hp : post (q, tn, sl, pc, wp, he, co, ca, cb, fs, fc, ts, tu, ux, tl, ul, tm, gc, ga, gp, ss, st, sf, tc, tr, ow, ti, fd, ft, fk, fn, upd (upd (upd fh x (nI (h + 1))) x (nI h)) x (nI (h + 1)), fl, upd fv (8 * x + h) (cm_v 8 (fv (8 * x + h)) (fv (8 * x + (h + 1)))), rs, nt)) : wpX_computeValues post (q, tn, sl, pc, wp, he, co, ca, cb, fs, fc, ts, tu, ux, tl, ul, tm, gc, ga, gp, ss, st, sf, tc, tr, ow, ti, fd, ft, fk, fn, fh, fl, fv, rs, nt) (nI x) (nI 8) a := by
  refine br_f (by decide) (br_f (by decide) (br_f (by decide) (br_f (by decide) (br_f (by decide) (br_f (by decide) (br_f (by decide) (br_f (by decide) (br_f (by decide) (br_t (by decide) (?_))))))))))
  unfold wX_computeValues_130
  exact xl_cm8 hx hh h8 hp
theorem yc_8 {post : SY → Prop} {x h : Nat} {a : Int32} (hx : x < 36) (hh : fh x = nI (h + 1 + 1)) (h8 : h + 1 < 8) (hp : post (q, wp, tn, sl, yd, nd, co, ca, cb, le, he, kl, tu, uy, tl, ul, tm, gc, ga, gp, ss, st, sf, fd, tc, tr, ow, ti, ft, fn, upd (upd (upd fh x (nI (h + 1))) x (nI h)) x (nI (h + 1)), fp, fz, fl, upd fv (8 * x + h) (cm_v 8 (fv (8 * x + h)) (fv (8 * x + (h + 1)))), rs, au)) : wpY_calculate post (q, wp, tn, sl, yd, nd, co, ca, cb, le, he, kl, tu, uy, tl, ul, tm, gc, ga, gp, ss, st, sf, fd, tc, tr, ow, ti, ft, fn, fh, fp, fz, fl, fv, rs, au) (nI x) (nI 8) a := by
  unfold wpY_calculate; dsimp only
  refine yl_pops (o := 8) (by decide) ?_
  rw [po_8]
  refine br_f (by decide) (yl_pop (h := h + 1) hx hh (by omega) (br_f (by decide) (yl_pop (h := h) hx pk_us (by omega) ?_)))
  by_cases c : fv (8 * x + (h + 1)) ≤ fv (8 * x + h)
  · have e : cm_v 8 (fv (8 * x + h)) (fv (8 * x + (h + 1))) = 0 := by simp only [cm_v]; simp [c]
    rw [e] at hp
    refine br_f (by decide) (br_f (by decide) (br_f (by decide) (br_f (by decide) (br_f (by decide) (br_f (by decide) (br_f (by decide) (br_f (by decide) (br_f (by decide) (br_f (by decide) (br_t (by decide) (br_t c ?_)))))))))))
    unfold wY_calculate_207
    exact yl_push (h := h) hx pk_us (by omega) hp
  · have e : cm_v 8 (fv (8 * x + h)) (fv (8 * x + (h + 1))) = 1 := by simp only [cm_v]; simp [c]
    rw [e] at hp
    refine br_f (by decide) (br_f (by decide) (br_f (by decide) (br_f (by decide) (br_f (by decide) (br_f (by decide) (br_f (by decide) (br_f (by decide) (br_f (by decide) (br_f (by decide) (br_t (by decide) (br_f c ?_)))))))))))
    unfold wY_calculate_207
    exact yl_push (h := h) hx pk_us (by omega) hp
theorem xc_9 {post : SX → Prop} {x h : Nat} {a : Int32} (hx : x < 36) (hh : fh x = nI (h + 1 + 1)) (h8 : h + 1 < 8) (hp : post (q, tn, sl, pc, wp, he, co, ca, cb, fs, fc, ts, tu, ux, tl, ul, tm, gc, ga, gp, ss, st, sf, tc, tr, ow, ti, fd, ft, fk, fn, upd (upd (upd fh x (nI (h + 1))) x (nI h)) x (nI (h + 1)), fl, upd fv (8 * x + h) (cm_v 9 (fv (8 * x + h)) (fv (8 * x + (h + 1)))), rs, nt)) : wpX_computeValues post (q, tn, sl, pc, wp, he, co, ca, cb, fs, fc, ts, tu, ux, tl, ul, tm, gc, ga, gp, ss, st, sf, tc, tr, ow, ti, fd, ft, fk, fn, fh, fl, fv, rs, nt) (nI x) (nI 9) a := by
  refine br_f (by decide) (br_f (by decide) (br_f (by decide) (br_f (by decide) (br_f (by decide) (br_f (by decide) (br_f (by decide) (br_f (by decide) (br_f (by decide) (br_f (by decide) (br_t (by decide) (?_)))))))))))
  unfold wX_computeValues_130
  exact xl_cm9 hx hh h8 hp
theorem yc_9 {post : SY → Prop} {x h : Nat} {a : Int32} (hx : x < 36) (hh : fh x = nI (h + 1 + 1)) (h8 : h + 1 < 8) (hp : post (q, wp, tn, sl, yd, nd, co, ca, cb, le, he, kl, tu, uy, tl, ul, tm, gc, ga, gp, ss, st, sf, fd, tc, tr, ow, ti, ft, fn, upd (upd (upd fh x (nI (h + 1))) x (nI h)) x (nI (h + 1)), fp, fz, fl, upd fv (8 * x + h) (cm_v 9 (fv (8 * x + h)) (fv (8 * x + (h + 1)))), rs, au)) : wpY_calculate post (q, wp, tn, sl, yd, nd, co, ca, cb, le, he, kl, tu, uy, tl, ul, tm, gc, ga, gp, ss, st, sf, fd, tc, tr, ow, ti, ft, fn, fh, fp, fz, fl, fv, rs, au) (nI x) (nI 9) a := by
  unfold wpY_calculate; dsimp only
  refine yl_pops (o := 9) (by decide) ?_
  rw [po_9]
  refine br_f (by decide) (yl_pop (h := h + 1) hx hh (by omega) (br_f (by decide) (yl_pop (h := h) hx pk_us (by omega) ?_)))
  by_cases c : fv (8 * x + h) = fv (8 * x + (h + 1))
  · have e : cm_v 9 (fv (8 * x + h)) (fv (8 * x + (h + 1))) = 1 := by simp only [cm_v]; simp [c]
    rw [e] at hp
    refine br_f (by decide) (br_f (by decide) (br_f (by decide) (br_f (by decide) (br_f (by decide) (br_f (by decide) (br_f (by decide) (br_f (by decide) (br_f (by decide) (br_f (by decide) (br_f (by decide) (br_t (by decide) (br_t c ?_))))))))))))
    unfold wY_calculate_227
    exact yl_push (h := h) hx pk_us (by omega) hp
  · have e : cm_v 9 (fv (8 * x + h)) (fv (8 * x + (h + 1))) = 0 := by simp only [cm_v]; simp [c]
    rw [e] at hp
    refine br_f (by decide) (br_f (by decide) (br_f (by decide) (br_f (by decide) (br_f (by decide) (br_f (by decide) (br_f (by decide) (br_f (by decide) (br_f (by decide) (br_f (by decide) (br_f (by decide) (br_t (by decide) (br_f c ?_))))))))))))
    unfold wY_calculate_227
    exact yl_push (h := h) hx pk_us (by omega) hp
theorem xc_10 {post : SX → Prop} {x h p : Nat} (hx : x < 36) (hh : fh x = nI h) (h8 : h < 8) (ha : p < 4) (hp : post (q, tn, sl, pc, wp, he, co, ca, cb, fs, fc, ts, tu, ux, tl, ul, tm, gc, ga, gp, ss, st, sf, tc, tr, ow, ti, fd, ft, fk, fn, upd fh x (nI (h + 1)), fl, upd fv (8 * x + h) (fl (4 * x + p)), rs, nt)) : wpX_computeValues post (q, tn, sl, pc, wp, he, co, ca, cb, fs, fc, ts, tu, ux, tl, ul, tm, gc, ga, gp, ss, st, sf, tc, tr, ow, ti, fd, ft, fk, fn, fh, fl, fv, rs, nt) (nI x) (nI 10) (nI p) := by
  have e1 : nI x * 4 + nI p = nI (4 * x + p) := ix_r 4 rfl x p
  have e2 : (nI (4 * x + p)).toNatClampNeg = 4 * x + p := nI_clamp (by omega)
  have v1 : vp_in (nI x * 4 + nI p) 144 := by rw [e1]; exact vp_in_nI (by omega) (by decide)
  refine br_f (by decide) (br_f (by decide) (br_f (by decide) (br_f (by decide) (br_f (by decide) (br_f (by decide) (br_f (by decide) (br_f (by decide) (br_f (by decide) (br_f (by decide) (br_f (by decide) (br_t (by decide) (⟨v1, ?_⟩))))))))))))
  rw [e1, e2]
  exact xl_push (h := h) hx hh h8 hp
theorem yc_10 {post : SY → Prop} {x h p : Nat} (hx : x < 36) (hh : fh x = nI h) (h8 : h < 8) (ha : p < 4) (hp : post (q, wp, tn, sl, yd, nd, co, ca, cb, le, he, kl, tu, uy, tl, ul, tm, gc, ga, gp, ss, st, sf, fd, tc, tr, ow, ti, ft, fn, upd fh x (nI (h + 1)), fp, fz, fl, upd fv (8 * x + h) (fl (4 * x + p)), rs, au)) : wpY_calculate post (q, wp, tn, sl, yd, nd, co, ca, cb, le, he, kl, tu, uy, tl, ul, tm, gc, ga, gp, ss, st, sf, fd, tc, tr, ow, ti, ft, fn, fh, fp, fz, fl, fv, rs, au) (nI x) (nI 10) (nI p) := by
  unfold wpY_calculate; dsimp only
  refine yl_pops (o := 10) (by decide) ?_
  rw [po_10]
  refine br_t (by decide) (br_t (by decide) ?_)
  have e1 : 4 * nI x + nI p = nI (4 * x + p) := ix_l 4 rfl x p
  have e2 : (nI (4 * x + p)).toNatClampNeg = 4 * x + p := nI_clamp (by omega)
  have v1 : vp_in (4 * nI x + nI p) 144 := by rw [e1]; exact vp_in_nI (by omega) (by decide)
  refine br_f (by decide) (br_f (by decide) (br_f (by decide) (br_f (by decide) (br_f (by decide) (br_f (by decide) (br_f (by decide) (br_f (by decide) (br_f (by decide) (br_f (by decide) (br_f (by decide) (br_f (by decide) (br_t (by decide) (⟨v1, ?_⟩)))))))))))))
  rw [e1, e2]
  exact yl_push (h := h) hx hh h8 hp
theorem xc_11 {post : SX → Prop} {x h p : Nat} (hx : x < 36) (hh : fh x = nI (h + 1)) (h8 : h < 8) (ha : p < 4) (hp : post (q, tn, sl, pc, wp, he, co, ca, cb, fs, fc, ts, tu, ux, tl, ul, tm, gc, ga, gp, ss, st, sf, tc, tr, ow, ti, fd, ft, fk, fn, upd fh x (nI h), upd fl (4 * x + p) (fv (8 * x + h)), fv, rs, nt)) : wpX_computeValues post (q, tn, sl, pc, wp, he, co, ca, cb, fs, fc, ts, tu, ux, tl, ul, tm, gc, ga, gp, ss, st, sf, tc, tr, ow, ti, fd, ft, fk, fn, fh, fl, fv, rs, nt) (nI x) (nI 11) (nI p) := by
  have e1 : nI x * 4 + nI p = nI (4 * x + p) := ix_r 4 rfl x p
  have e2 : (nI (4 * x + p)).toNatClampNeg = 4 * x + p := nI_clamp (by omega)
  have v1 : vp_in (nI x * 4 + nI p) 144 := by rw [e1]; exact vp_in_nI (by omega) (by decide)
  refine br_f (by decide) (br_f (by decide) (br_f (by decide) (br_f (by decide) (br_f (by decide) (br_f (by decide) (br_f (by decide) (br_f (by decide) (br_f (by decide) (br_f (by decide) (br_f (by decide) (br_f (by decide) (br_t (by decide) (xl_pop (h := h) hx hh h8 ⟨v1, nm_r (by rw [e1, e2]) hp⟩)))))))))))))
theorem yc_11 {post : SY → Prop} {x h p : Nat} (hx : x < 36) (hh : fh x = nI (h + 1)) (h8 : h < 8) (ha : p < 4) (hp : post (q, wp, tn, sl, yd, nd, co, ca, cb, le, he, kl, tu, uy, tl, ul, tm, gc, ga, gp, ss, st, sf, fd, tc, tr, ow, ti, ft, fn, upd fh x (nI h), fp, fz, upd fl (4 * x + p) (fv (8 * x + h)), fv, rs, au)) : wpY_calculate post (q, wp, tn, sl, yd, nd, co, ca, cb, le, he, kl, tu, uy, tl, ul, tm, gc, ga, gp, ss, st, sf, fd, tc, tr, ow, ti, ft, fn, fh, fp, fz, fl, fv, rs, au) (nI x) (nI 11) (nI p) := by
  unfold wpY_calculate; dsimp only
  refine yl_pops (o := 11) (by decide) ?_
  rw [po_11]
  refine br_f (by decide) (yl_pop (h := h) hx hh (by omega) (br_t (by decide) ?_))
  have e1 : 4 * nI x + nI p = nI (4 * x + p) := ix_l 4 rfl x p
  have e2 : (nI (4 * x + p)).toNatClampNeg = 4 * x + p := nI_clamp (by omega)
  have v1 : vp_in (4 * nI x + nI p) 144 := by rw [e1]; exact vp_in_nI (by omega) (by decide)
  exact br_f (by decide) (br_f (by decide) (br_f (by decide) (br_f (by decide) (br_f (by decide) (br_f (by decide) (br_f (by decide) (br_f (by decide) (br_f (by decide) (br_f (by decide) (br_f (by decide) (br_f (by decide) (br_f (by decide) (br_t (by decide) (⟨v1, nm_r (by rw [e1, e2]) hp⟩))))))))))))))
theorem yc_12 {post : SY → Prop} {x : Nat} {a : Int32} (hx : x < 36) (hp : post (q, wp, tn, sl, yd, nd, co, ca, cb, le, he, kl, tu, uy, tl, ul, tm, gc, ga, gp, ss, st, sf, fd, tc, tr, ow, ti, ft, upd fn x a, fh, fp, fz, fl, fv, rs, au)) : wpY_calculate post (q, wp, tn, sl, yd, nd, co, ca, cb, le, he, kl, tu, uy, tl, ul, tm, gc, ga, gp, ss, st, sf, fd, tc, tr, ow, ti, ft, fn, fh, fp, fz, fl, fv, rs, au) (nI x) (nI 12) a := by
  have ex : (nI x).toNatClampNeg = x := nI_clamp (by omega)
  unfold wpY_calculate; dsimp only
  refine yl_pops (o := 12) (by decide) ?_
  rw [po_12]
  refine br_t (by decide) (br_t (by decide) ?_)
  exact br_f (by decide) (br_f (by decide) (br_f (by decide) (br_f (by decide) (br_f (by decide) (br_f (by decide) (br_f (by decide) (br_f (by decide) (br_f (by decide) (br_f (by decide) (br_f (by decide) (br_f (by decide) (br_f (by decide) (br_f (by decide) (br_t (by decide) (⟨vp_in_nI hx (by decide), nm_r (by rw [ex]) hp⟩)))))))))))))))
theorem yc_13 {post : SY → Prop} {x h : Nat} {a : Int32} (hx : x < 36) (hh : fh x = nI (h + 1)) (h8 : h < 8) (hp0 : fv (8 * x + h) = 0 → post (q, wp, tn, sl, yd, nd, co, ca, cb, le, he, kl, tu, uy, tl, ul, tm, gc, ga, gp, ss, st, sf, fd, tc, tr, ow, ti, ft, upd fn x a, upd fh x (nI h), fp, fz, fl, fv, rs, au)) (hp1 : ¬ fv (8 * x + h) = 0 → post (q, wp, tn, sl, yd, nd, co, ca, cb, le, he, kl, tu, uy, tl, ul, tm, gc, ga, gp, ss, st, sf, fd, tc, tr, ow, ti, ft, fn, upd fh x (nI h), fp, fz, fl, fv, rs, au)) : wpY_calculate post (q, wp, tn, sl, yd, nd, co, ca, cb, le, he, kl, tu, uy, tl, ul, tm, gc, ga, gp, ss, st, sf, fd, tc, tr, ow, ti, ft, fn, fh, fp, fz, fl, fv, rs, au) (nI x) (nI 13) a := by
  have ex : (nI x).toNatClampNeg = x := nI_clamp (by omega)
  unfold wpY_calculate; dsimp only
  refine yl_pops (o := 13) (by decide) ?_
  rw [po_13]
  refine br_f (by decide) (yl_pop (h := h) hx hh (by omega) (br_t (by decide) ?_))
  refine br_f (by decide) (br_t (by decide) (?_))
  by_cases c : fv (8 * x + h) = 0
  · exact br_t c ⟨vp_in_nI hx (by decide), nm_r (by rw [ex]) (hp0 c)⟩
  · exact br_f c (hp1 c)
end
