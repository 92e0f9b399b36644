section
variable {q tn sl pc wp yd nd : Int32} {he co ca cb fs fc ts tu ux tl ul tm gc ga gp ss st sf tc tr ow ti fd ft fk fn fh fl fv rs nt le kl uy fp fz au : Nat → Int32}
theorem i_vc_grant {k : Nat} {u : SX} {v : SY} (I : i_Rel k u v) (hk : k + 5 ≤ 2561) (v1 : Int32) (v2 : Int32) (v3 : Int32) : wpX_grant (fun r u' => wpY_grant (fun r' v' => r' = r ∧ i_Rel (k + 5) u' v') v v1 v2 v3) u v1 v2 v3 := by
  have I5 := i_up I
  obtain ⟨H, q, tn, sl, pc, wp, yd, nd, he, co, ca, cb, fs, fc, ts, tu, ux, tl, ul, tm, gc, ga, gp, ss, st, sf, tc, tr, ow, ti, fd, ft, fk, fn, fh, fl, fv, rs, nt, le, kl, uy, fp, fz, au, rfl, rfl, a1, a2, a3, a4, a5, a6, a7, a8, a9, a10⟩ := I
  have n0 : ¬ (1 : Int32) = 0 := by decide
  have fin : ∀ (r : Int32) (u' : SX) (v' : SY), i_Rel (k + 5) u' v' → (∀ post : Int32 → SX → Prop, post r u' → wpX_grant post (q, tn, sl, pc, wp, he, co, ca, cb, fs, fc, ts, tu, ux, tl, ul, tm, gc, ga, gp, ss, st, sf, tc, tr, ow, ti, fd, ft, fk, fn, fh, fl, fv, rs, nt) v1 v2 v3) → (∀ post : Int32 → SY → Prop, post r v' → wpY_grant post (q, wp, tn, sl, yd, nd, co, ca, cb, le, he, kl, tu, uy, tl, ul, tm, gc, ga, gp, ss, st, sf, fd, tc, tr, ow, ti, ft, fn, fh, fp, fz, fl, fv, rs, au) v1 v2 v3) →
      wpX_grant (fun r u' => wpY_grant (fun r' v' => r' = r ∧ i_Rel (k + 5) u' v') (q, wp, tn, sl, yd, nd, co, ca, cb, le, he, kl, tu, uy, tl, ul, tm, gc, ga, gp, ss, st, sf, fd, tc, tr, ow, ti, ft, fn, fh, fp, fz, fl, fv, rs, au) v1 v2 v3) (q, tn, sl, pc, wp, he, co, ca, cb, fs, fc, ts, tu, ux, tl, ul, tm, gc, ga, gp, ss, st, sf, tc, tr, ow, ti, fd, ft, fk, fn, fh, fl, fv, rs, nt) v1 v2 v3 := fun r u' v' h1 h2 h3 => h2 _ (h3 _ ⟨rfl, h1⟩)
  rcases ten_c v1 with c | ⟨t, ht, rfl⟩
  · refine fin (-1) _ _ I5 (fun post h => ?_) (fun post h => ?_)
    · unfold wpX_grant; dsimp only
      exact xl_ten0 c (br_t rfl h)
    · unfold wpY_grant; dsimp only
      exact yl_ten0 c (br_t rfl h)
  by_cases c1 : v2 < 1
  · refine fin (-1) _ _ I5 (fun post h => ?_) (fun post h => ?_)
    · unfold wpX_grant; dsimp only
      exact xl_ten1 ht (br_f n0 (br_t c1 h))
    · unfold wpY_grant; dsimp only
      exact yl_ten1 ht (br_f n0 (br_t c1 h))
  have c0 : ¬ v2 < 0 := fun z => c1 (Int32.lt_trans z (by decide))
  obtain ⟨a, ha, rfl⟩ := nI_of c0
  by_cases c2 : a < 16
  · have c2x : ¬ (16 : Int32) ≤ nI a := ix_ge 16 rfl c2 (by decide)
    have c2y : ¬ (15 : Int32) < nI a := nI_nlt (a := 15) (b := a) (by omega) (by decide)
    rcases ix_c v3 (n := 512) (N := 512) (N1 := 511) rfl rfl (by decide) (by decide) with c | ⟨d1, d2, d3, d4, d5⟩ | ⟨m, hm, rfl⟩
    · refine fin (-1) _ _ I5 (fun post h => ?_) (fun post h => ?_)
      · unfold wpX_grant; dsimp only
        refine xl_ten1 ht (br_f n0 (br_f c1 (br_f c2x ?_)))
        exact xp_no (Or.inl c) (br_t rfl h)
      · unfold wpY_grant; dsimp only
        refine yl_ten1 ht (br_f n0 (br_f c1 (br_f c2y ?_)))
        exact yp_no (Or.inl c) (br_t rfl h)
    · refine fin (-1) _ _ I5 (fun post h => ?_) (fun post h => ?_)
      · unfold wpX_grant; dsimp only
        refine xl_ten1 ht (br_f n0 (br_f c1 (br_f c2x ?_)))
        exact xp_no (Or.inr d4) (br_t rfl h)
      · unfold wpY_grant; dsimp only
        refine yl_ten1 ht (br_f n0 (br_f c1 (br_f c2y ?_)))
        exact yp_no (Or.inr d3) (br_t rfl h)
    · by_cases pv : pt_v (pt_d m 0) (pt_d m 1) (pt_d m 2)
      · obtain ⟨g, hg, eg, hq⟩ := a5 t ht
        have ec : (nI t).toNatClampNeg = t := nI_clamp (by omega)
        have e1 : nI t * 6 + nI g = nI (6 * t + g) := ix_r 6 rfl t g
        have e2 : 6 * nI t + nI g = nI (6 * t + g) := ix_l 6 rfl t g
        have vt : vp_in (nI t) 4 := vp_in_nI ht (by decide)
        by_cases cg : g < 6
        · have l6 : nI g < 6 := nI_lt (b := 6) cg (by decide)
          have n6 : ¬ nI g = 6 := ix_ne 6 rfl (by omega) (by omega) (by decide)
          have vi : vp_in (nI (6 * t + g)) 24 := vp_in_nI (by omega) (by decide)
          have e3 : (nI (6 * t + g)).toNatClampNeg = 6 * t + g := nI_clamp (by omega)
          refine fin (nI g) (q, tn, sl, pc, wp, he, co, ca, cb, fs, fc, ts, tu, ux, tl, ul, tm, upd gc t (nI (g + 1)), upd ga (6 * t + g) (nI a), upd gp (6 * t + g) (nI m), ss, st, sf, tc, tr, ow, ti, fd, ft, fk, fn, fh, fl, fv, rs, nt) (q, wp, tn, sl, yd, nd, co, ca, cb, le, he, kl, tu, uy, tl, ul, tm, upd gc t (nI (g + 1)), upd ga (6 * t + g) (nI a), upd gp (6 * t + g) (nI m), ss, st, sf, fd, tc, tr, ow, ti, ft, fn, fh, fp, fz, fl, fv, rs, au) (mk_rel ⟨a1, a2, a3, a4, ?_, a6, a7, a8, a9, rl_nU a10 (by omega)⟩) (fun post h => ?_) (fun post h => ?_)
          · intro s hs
            by_cases cs : s = t
            · subst cs
              refine ⟨g + 1, by omega, pk_us, fun j hj => ?_⟩
              by_cases cj : j = g
              · subst cj
                rw [pk_us]
                exact ⟨m, hm, rfl, pv⟩
              · rw [pk_un (by omega)]
                exact hq j (by omega)
            · obtain ⟨g', h1, h2, h3⟩ := a5 s hs
              refine ⟨g', h1, by rw [pk_un cs]; exact h2, fun j hj => ?_⟩
              rw [pk_un (by omega)]
              exact h3 j hj
          · unfold wpX_grant; dsimp only
            refine xl_ten1 ht (br_f n0 (br_f c1 (br_f c2x ?_)))
            refine xp_ok hm (fun _ => ?_) (fun z => absurd pv z)
            refine br_f n0 ⟨vt, nm_r (e' := nI g) (by rw [ec, eg]) (br_t l6 ?_)⟩
            rw [e1, e3, ec, nI_1]
            exact ⟨vi, nm_e ⟨vi, nm_e ⟨vt, nm_e h⟩⟩⟩
          · unfold wpY_grant; dsimp only
            refine yl_ten1 ht (br_f n0 (br_f c1 (br_f c2y ?_)))
            refine yp_ok hm (fun _ => ?_) (fun z => absurd pv z)
            rw [ec, eg, e2, e3, nI_1]
            exact br_f n0 ⟨vt, br_f n6 ⟨vt, vi, nm_e ⟨vt, vi, nm_e ⟨vt, vt, nm_e h⟩⟩⟩⟩
        · have e6 : g = 6 := by omega
          subst e6
          refine fin (-1) _ _ I5 (fun post h => ?_) (fun post h => ?_)
          · unfold wpX_grant; dsimp only
            refine xl_ten1 ht (br_f n0 (br_f c1 (br_f c2x ?_)))
            refine xp_ok hm (fun _ => ?_) (fun z => absurd pv z)
            exact br_f n0 ⟨vt, nm_r (e' := nI 6) (by rw [ec, eg]) (br_f (by decide) h)⟩
          · unfold wpY_grant; dsimp only
            refine yl_ten1 ht (br_f n0 (br_f c1 (br_f c2y ?_)))
            refine yp_ok hm (fun _ => ?_) (fun z => absurd pv z)
            rw [ec, eg]
            exact br_f n0 ⟨vt, br_t rfl h⟩
      · refine fin (-1) _ _ I5 (fun post h => ?_) (fun post h => ?_)
        · unfold wpX_grant; dsimp only
          refine xl_ten1 ht (br_f n0 (br_f c1 (br_f c2x ?_)))
          exact xp_ok hm (fun z => absurd z pv) (fun _ => br_t rfl h)
        · unfold wpY_grant; dsimp only
          refine yl_ten1 ht (br_f n0 (br_f c1 (br_f c2y ?_)))
          exact yp_ok hm (fun z => absurd z pv) (fun _ => br_t rfl h)
  · refine fin (-1) _ _ I5 (fun post h => ?_) (fun post h => ?_)
    · unfold wpX_grant; dsimp only
      exact xl_ten1 ht (br_f n0 (br_f c1 (br_t (ix_le 16 rfl (by omega) ha) h)))
    · unfold wpY_grant; dsimp only
      exact yl_ten1 ht (br_f n0 (br_f c1 (br_t (nI_lt (a := 15) (by omega) ha) h)))
theorem wd_loop (P : Int32 → Prop) {t g lo : Nat} (ht : t < 4) (hg : g ≤ 6) (h0 : 0 < g) (eg : gc t = nI g) : ∀ d i e : Nat, i + d = e → e = 6 * t + (g - 1) → lo ≤ i → ∀ ga gp : Nat → Int32,
    (∀ j, lo ≤ j → j < i → P (gp j)) → (∀ j, i < j → j ≤ e → P (gp j)) →
    ∃ ga' gp' : Nat → Int32, (∀ j, lo ≤ j → j < e → P (gp' j)) ∧ (∀ j, (j < i ∨ e < j) → gp' j = gp j) ∧
      (∀ post : Int32 → SX → Prop, post 1 (q, tn, sl, pc, wp, he, co, ca, cb, fs, fc, ts, tu, ux, tl, ul, tm, upd gc t (nI (g - 1)), ga', gp', ss, st, sf, tc, tr, ow, ti, fd, ft, fk, fn, fh, fl, fv, rs, nt) → wX_withdraw_45 post (nI t) (nI e) q tn sl pc wp (d + 1) (nI i) he co ca cb fs fc ts tu ux tl ul tm gc ga gp ss st sf tc tr ow ti fd ft fk fn fh fl fv rs nt) ∧
      (∀ post : Int32 → SY → Prop, post 1 (q, wp, tn, sl, yd, nd, co, ca, cb, le, he, kl, tu, uy, tl, ul, tm, upd gc t (nI (g - 1)), ga', gp', ss, st, sf, fd, tc, tr, ow, ti, ft, fn, fh, fp, fz, fl, fv, rs, au) → wY_withdraw_41 post (nI t) q wp tn sl yd nd (d + 1) (nI i) co ca cb le he kl tu uy tl ul tm (upd gc t (nI (g - 1))) ga gp ss st sf fd tc tr ow ti ft fn fh fp fz fl fv rs au) := by
  have ec : (nI t).toNatClampNeg = t := nI_clamp (by omega)
  have vt : vp_in (nI t) 4 := vp_in_nI ht (by decide)
  have eY : 6 * nI t + nI (g - 1) = nI (6 * t + (g - 1)) := ix_l 6 rfl t (g - 1)
  intro d
  induction d with
  | zero =>
    intro i e hi he hlo ga gp p1 p2
    have hie : i = e := by omega
    subst hie
    refine ⟨ga, gp, p1, fun _ _ => rfl, fun post hp => ?_, fun post hp => ?_⟩
    · refine br_t (nI_le (Nat.le_refl _) (by omega)) ⟨vt, vt, nm_r (e' := upd gc t (nI (g - 1))) ?_ hp⟩
      rw [ec, eg, ix_p h0]
    · refine ⟨vt, br_t ?_ hp⟩
      rw [ec, pk_us, eY, he]
      exact nI_le (Nat.le_refl _) (by omega)
  | succ d ih =>
    intro i e hi he hlo ga gp p1 p2
    have ei : (nI i).toNatClampNeg = i := nI_clamp (by omega)
    have ei1 : (nI (i + 1)).toNatClampNeg = i + 1 := nI_clamp (by omega)
    have vi : vp_in (nI i) 24 := vp_in_nI (by omega) (by decide)
    have vi1 : vp_in (nI (i + 1)) 24 := vp_in_nI (by omega) (by decide)
    have cl : ¬ nI e ≤ nI i := nI_ge (by omega) (by omega)
    obtain ⟨ga', gp', r1, r2, r3, r4⟩ := ih (i + 1) e (by omega) he (by omega) (upd ga i (ga (i + 1))) (upd gp i (gp (i + 1)))
      (fun j h1 h2 => by
        by_cases cj : j = i
        · subst cj; rw [pk_us]; exact p2 (j + 1) (by omega) (by omega)
        · rw [pk_un cj]; exact p1 j h1 (by omega))
      (fun j h1 h2 => by rw [pk_un (by omega)]; exact p2 j (by omega) h2)
    refine ⟨ga', gp', r1, fun j hj => ?_, fun post hp => ?_, fun post hp => ?_⟩
    · rw [r2 j (by omega), pk_un (by omega)]
    · have z := r3 post hp
      rw [← nI_1] at z vi1 ei1
      refine br_f cl ⟨vi1, vi, nm_r (e' := upd ga i (ga (i + 1))) (by rw [ei, ei1]) ⟨vi1, vi, nm_r (e' := upd gp i (gp (i + 1))) (by rw [ei, ei1]) (nm_e z)⟩⟩
    · have z := r4 post hp
      rw [← nI_1] at z vi1 ei1
      refine ⟨vt, br_f ?_ ⟨vi1, vi, nm_r (e' := upd ga i (ga (i + 1))) (by rw [ei, ei1]) ⟨vi1, vi, nm_r (e' := upd gp i (gp (i + 1))) (by rw [ei, ei1]) (nm_e z)⟩⟩⟩
      rw [ec, pk_us, eY, ← he]
      exact cl
theorem i_vc_withdraw {k : Nat} {u : SX} {v : SY} (I : i_Rel k u v) (hk : k + 5 ≤ 2561) (v1 : Int32) (v2 : Int32) : wpX_withdraw (fun r u' => wpY_withdraw (fun r' v' => r' = r ∧ i_Rel (k + 5) u' v') v v1 v2) u v1 v2 := by
  have I5 := i_up I
  obtain ⟨H, q, tn, sl, pc, wp, yd, nd, he, co, ca, cb, fs, fc, ts, tu, ux, tl, ul, tm, gc, ga, gp, ss, st, sf, tc, tr, ow, ti, fd, ft, fk, fn, fh, fl, fv, rs, nt, le, kl, uy, fp, fz, au, rfl, rfl, a1, a2, a3, a4, a5, a6, a7, a8, a9, a10⟩ := I
  have n0 : ¬ (1 : Int32) = 0 := by decide
  have fin : ∀ (r : Int32) (u' : SX) (v' : SY), i_Rel (k + 5) u' v' → (∀ post : Int32 → SX → Prop, post r u' → wpX_withdraw post (q, tn, sl, pc, wp, he, co, ca, cb, fs, fc, ts, tu, ux, tl, ul, tm, gc, ga, gp, ss, st, sf, tc, tr, ow, ti, fd, ft, fk, fn, fh, fl, fv, rs, nt) v1 v2) → (∀ post : Int32 → SY → Prop, post r v' → wpY_withdraw post (q, wp, tn, sl, yd, nd, co, ca, cb, le, he, kl, tu, uy, tl, ul, tm, gc, ga, gp, ss, st, sf, fd, tc, tr, ow, ti, ft, fn, fh, fp, fz, fl, fv, rs, au) v1 v2) →
      wpX_withdraw (fun r u' => wpY_withdraw (fun r' v' => r' = r ∧ i_Rel (k + 5) u' v') (q, wp, tn, sl, yd, nd, co, ca, cb, le, he, kl, tu, uy, tl, ul, tm, gc, ga, gp, ss, st, sf, fd, tc, tr, ow, ti, ft, fn, fh, fp, fz, fl, fv, rs, au) v1 v2) (q, tn, sl, pc, wp, he, co, ca, cb, fs, fc, ts, tu, ux, tl, ul, tm, gc, ga, gp, ss, st, sf, tc, tr, ow, ti, fd, ft, fk, fn, fh, fl, fv, rs, nt) v1 v2 := fun r u' v' h1 h2 h3 => h2 _ (h3 _ ⟨rfl, h1⟩)
  rcases ten_c v1 with c | ⟨t, ht, rfl⟩
  · refine fin 0 _ _ I5 (fun post h => ?_) (fun post h => ?_)
    · unfold wpX_withdraw; dsimp only
      exact xl_ten0 c (br_t rfl h)
    · unfold wpY_withdraw; dsimp only
      exact yl_ten0 c (br_t rfl h)
  by_cases c1 : v2 < 0
  · refine fin 0 _ _ I5 (fun post h => ?_) (fun post h => ?_)
    · unfold wpX_withdraw; dsimp only
      exact xl_ten1 ht (br_f n0 (br_t c1 h))
    · unfold wpY_withdraw; dsimp only
      exact yl_ten1 ht (br_f n0 (br_t c1 h))
  obtain ⟨g, hg, eg, hq⟩ := a5 t ht
  have ec : (nI t).toNatClampNeg = t := nI_clamp (by omega)
  have vt : vp_in (nI t) 4 := vp_in_nI ht (by decide)
  obtain ⟨j, hj, rfl⟩ := nI_of c1
  by_cases c2 : j < g
  · have l : nI j < gc (nI t).toNatClampNeg := by rw [ec, eg]; exact nI_lt c2 (by omega)
    obtain ⟨ga', gp', r1, r2, r3, r4⟩ := wd_loop (q := q) (tn := tn) (sl := sl) (pc := pc) (wp := wp) (yd := yd) (nd := nd) (he := he) (co := co) (ca := ca) (cb := cb) (fs := fs) (fc := fc) (ts := ts) (tu := tu) (ux := ux) (tl := tl) (ul := ul) (tm := tm) (gc := gc) (ss := ss) (st := st) (sf := sf) (tc := tc) (tr := tr) (ow := ow) (ti := ti) (fd := fd) (ft := ft) (fk := fk) (fn := fn) (fh := fh) (fl := fl) (fv := fv) (rs := rs) (nt := nt) (le := le) (kl := kl) (uy := uy) (fp := fp) (fz := fz) (au := au) pt_ok (t := t) (g := g) (lo := 6 * t) ht hg (by omega) eg (g - 1 - j) (6 * t + j) (6 * t + (g - 1)) (by omega) rfl (by omega) ga gp
      (fun i h1 h2 => by
        have := hq (i - 6 * t) (by omega)
        rwa [show 6 * t + (i - 6 * t) = i by omega] at this)
      (fun i h1 h2 => by
        have := hq (i - 6 * t) (by omega)
        rwa [show 6 * t + (i - 6 * t) = i by omega] at this)
    refine fin 1 (q, tn, sl, pc, wp, he, co, ca, cb, fs, fc, ts, tu, ux, tl, ul, tm, upd gc t (nI (g - 1)), ga', gp', ss, st, sf, tc, tr, ow, ti, fd, ft, fk, fn, fh, fl, fv, rs, nt) (q, wp, tn, sl, yd, nd, co, ca, cb, le, he, kl, tu, uy, tl, ul, tm, upd gc t (nI (g - 1)), ga', gp', ss, st, sf, fd, tc, tr, ow, ti, ft, fn, fh, fp, fz, fl, fv, rs, au) (mk_rel ⟨a1, a2, a3, a4, ?_, a6, a7, a8, a9, rl_nU a10 (by omega)⟩) (fun post h => ?_) (fun post h => ?_)
    case refine_2 =>
      unfold wpX_withdraw; dsimp only
      refine xl_ten1 ht (br_f n0 (br_f c1 ⟨vt, br_t l ⟨vt, nm_r (e' := nI (6 * t + (g - 1))) ?_ (nm_r (e' := nI (6 * t + j)) (ix_r 6 rfl t j) ⟨_, r3 _ h⟩)⟩⟩))
      rw [ec, eg, ix_r (M := 6) 6 rfl, ix_p (by omega)]
      exact congrArg nI (by omega)
    case refine_3 =>
      unfold wpY_withdraw; dsimp only
      exact yl_ten1 ht (br_f n0 (br_f c1 ⟨vt, br_t l ⟨vt, vt, nm_r (e' := upd gc t (nI (g - 1))) (by rw [ec, eg, ix_p (by omega)]) (nm_r (e' := nI (6 * t + j)) (ix_l 6 rfl t j) ⟨_, r4 _ h⟩)⟩⟩))
    intro s hs
    by_cases cs : s = t
    · subst cs
      exact ⟨g - 1, by omega, pk_us, fun i hi => r1 _ (by omega) (by omega)⟩
    · obtain ⟨g', h1, h2, h3⟩ := a5 s hs
      refine ⟨g', h1, by rw [pk_un cs]; exact h2, fun i hi => ?_⟩
      rw [r2 _ (by omega)]
      exact h3 i hi
  · have l : ¬ nI j < gc (nI t).toNatClampNeg := by rw [ec, eg]; exact nI_nlt (by omega) hj
    refine fin 0 _ _ I5 (fun post h => ?_) (fun post h => ?_)
    · unfold wpX_withdraw; dsimp only
      exact xl_ten1 ht (br_f n0 (br_f c1 ⟨vt, br_f l h⟩))
    · unfold wpY_withdraw; dsimp only
      exact yl_ten1 ht (br_f n0 (br_f c1 ⟨vt, br_f l h⟩))
theorem lm_c (x : Int32) : (∀ post : Int32 → Prop, post 0 → wpX_isLimit post x) ∧ (∀ (post : Int32 → Prop) (v : SY), post 0 → wpY_limit post v x) ∨ (∀ post : Int32 → Prop, post 1 → wpX_isLimit post x) ∧ (∀ (post : Int32 → Prop) (v : SY), post 1 → wpY_limit post v x) := by
  by_cases c : x < 0
  · exact Or.inl ⟨fun _ h => br_t c h, fun _ _ h => br_t c h⟩
  · by_cases c2 : (1000000 : Int32) < x
    · exact Or.inl ⟨fun _ h => br_f c (br_t c2 h), fun _ _ h => br_f c (br_t c2 h)⟩
    · exact Or.inr ⟨fun _ h => br_f c (br_f c2 h), fun _ _ h => br_f c (br_f c2 h)⟩
theorem sl_a {post : Int32 → Prop} {p : Int32} (c : p < 0) (h : post 0) : wpX_isSlot post p := br_t c h
theorem sl_b {post : Int32 → Prop} {p : Int32} (c : ¬ p < 0) (d : (4 : Int32) ≤ p) (h : post 0) : wpX_isSlot post p := br_f c (br_t d h)
theorem sl_c {post : Int32 → Prop} {p : Int32} (c : ¬ p < 0) (d : ¬ (4 : Int32) ≤ p) (h : post 1) : wpX_isSlot post p := br_f c (br_f d h)
theorem i_vc_limits {k : Nat} {u : SX} {v : SY} (I : i_Rel k u v) (hk : k + 5 ≤ 2561) (v1 : Int32) (v2 : Int32) (v3 : Int32) (v4 : Int32) : wpX_limits (fun r u' => wpY_limits (fun r' v' => r' = r ∧ i_Rel (k + 5) u' v') v v1 v2 v3 v4) u v1 v2 v3 v4 := by
  have I5 := i_up I
  obtain ⟨H, q, tn, sl, pc, wp, yd, nd, he, co, ca, cb, fs, fc, ts, tu, ux, tl, ul, tm, gc, ga, gp, ss, st, sf, tc, tr, ow, ti, fd, ft, fk, fn, fh, fl, fv, rs, nt, le, kl, uy, fp, fz, au, rfl, rfl, a1, a2, a3, a4, a5, a6, a7, a8, a9, a10⟩ := I
  have n0 : ¬ (1 : Int32) = 0 := by decide
  have fin : ∀ (r : Int32) (u' : SX) (v' : SY), i_Rel (k + 5) u' v' → (∀ post : Int32 → SX → Prop, post r u' → wpX_limits post (q, tn, sl, pc, wp, he, co, ca, cb, fs, fc, ts, tu, ux, tl, ul, tm, gc, ga, gp, ss, st, sf, tc, tr, ow, ti, fd, ft, fk, fn, fh, fl, fv, rs, nt) v1 v2 v3 v4) → (∀ post : Int32 → SY → Prop, post r v' → wpY_limits post (q, wp, tn, sl, yd, nd, co, ca, cb, le, he, kl, tu, uy, tl, ul, tm, gc, ga, gp, ss, st, sf, fd, tc, tr, ow, ti, ft, fn, fh, fp, fz, fl, fv, rs, au) v1 v2 v3 v4) →
      wpX_limits (fun r u' => wpY_limits (fun r' v' => r' = r ∧ i_Rel (k + 5) u' v') (q, wp, tn, sl, yd, nd, co, ca, cb, le, he, kl, tu, uy, tl, ul, tm, gc, ga, gp, ss, st, sf, fd, tc, tr, ow, ti, ft, fn, fh, fp, fz, fl, fv, rs, au) v1 v2 v3 v4) (q, tn, sl, pc, wp, he, co, ca, cb, fs, fc, ts, tu, ux, tl, ul, tm, gc, ga, gp, ss, st, sf, tc, tr, ow, ti, fd, ft, fk, fn, fh, fl, fv, rs, nt) v1 v2 v3 v4 := fun r u' v' h1 h2 h3 => h2 _ (h3 _ ⟨rfl, h1⟩)
  rcases ten_c v1 with c | ⟨t, ht, rfl⟩
  · refine fin 0 _ _ I5 (fun post h => ?_) (fun post h => ?_)
    · unfold wpX_limits; dsimp only
      exact xl_ten0 c (br_t rfl h)
    · unfold wpY_limits; dsimp only
      exact yl_ten0 c (br_t rfl h)
  have vt : vp_in (nI t) 4 := vp_in_nI ht (by decide)
  rcases lm_c v2 with ⟨x2, y2⟩ | ⟨x2, y2⟩
  · refine fin 0 _ _ I5 (fun post h => ?_) (fun post h => ?_)
    · unfold wpX_limits; dsimp only
      exact xl_ten1 ht (br_f n0 (x2 _ (br_t rfl h)))
    · unfold wpY_limits; dsimp only
      exact yl_ten1 ht (br_f n0 (y2 _ _ (br_t rfl h)))
  rcases lm_c v3 with ⟨x3, y3⟩ | ⟨x3, y3⟩
  · refine fin 0 _ _ I5 (fun post h => ?_) (fun post h => ?_)
    · unfold wpX_limits; dsimp only
      exact xl_ten1 ht (br_f n0 (x2 _ (br_f n0 (x3 _ (br_t rfl h)))))
    · unfold wpY_limits; dsimp only
      exact yl_ten1 ht (br_f n0 (y2 _ _ (br_f n0 (y3 _ _ (br_t rfl h)))))
  rcases lm_c v4 with ⟨x4, y4⟩ | ⟨x4, y4⟩
  · refine fin 0 _ _ I5 (fun post h => ?_) (fun post h => ?_)
    · unfold wpX_limits; dsimp only
      exact xl_ten1 ht (br_f n0 (x2 _ (br_f n0 (x3 _ (br_f n0 (x4 _ (br_t rfl h)))))))
    · unfold wpY_limits; dsimp only
      exact yl_ten1 ht (br_f n0 (y2 _ _ (br_f n0 (y3 _ _ (br_f n0 (y4 _ _ (br_t rfl h)))))))
  have ec : (nI t).toNatClampNeg = t := nI_clamp (by omega)
  refine fin 1 (q, tn, sl, pc, wp, he, co, ca, cb, fs, fc, ts, tu, ux, upd tl t v2, upd ul t v3, upd tm t v4, gc, ga, gp, ss, st, sf, tc, tr, ow, ti, fd, ft, fk, fn, fh, fl, fv, rs, nt) (q, wp, tn, sl, yd, nd, co, ca, cb, le, he, kl, tu, uy, upd tl t v2, upd ul t v3, upd tm t v4, gc, ga, gp, ss, st, sf, fd, tc, tr, ow, ti, ft, fn, fh, fp, fz, fl, fv, rs, au) (mk_rel ⟨a1, a2, a3, a4, a5, a6, a7, a8, a9, rl_nU a10 (by omega)⟩) (fun post h => ?_) (fun post h => ?_)
  · unfold wpX_limits; dsimp only
    exact xl_ten1 ht (br_f n0 (x2 _ (br_f n0 (x3 _ (br_f n0 (x4 _ (br_f n0 ⟨vt, nm_r (by rw [ec]) ⟨vt, nm_r (by rw [ec]) ⟨vt, nm_r (by rw [ec]) h⟩⟩⟩)))))))
  · unfold wpY_limits; dsimp only
    exact yl_ten1 ht (br_f n0 (y2 _ _ (br_f n0 (y3 _ _ (br_f n0 (y4 _ _ (br_f n0 ⟨vt, nm_r (by rw [ec]) ⟨vt, nm_r (by rw [ec]) ⟨vt, nm_r (by rw [ec]) h⟩⟩⟩)))))))
theorem i_vc_capability {k : Nat} {u : SX} {v : SY} (I : i_Rel k u v) (hk : k + 5 ≤ 2561) (v1 : Int32) (v2 : Int32) (v3 : Int32) (v4 : Int32) : wpX_capability (fun r u' => wpY_capability (fun r' v' => r' = r ∧ i_Rel (k + 5) u' v') v v1 v2 v3 v4) u v1 v2 v3 v4 := by
  have I5 := i_up I
  obtain ⟨H, q, tn, sl, pc, wp, yd, nd, he, co, ca, cb, fs, fc, ts, tu, ux, tl, ul, tm, gc, ga, gp, ss, st, sf, tc, tr, ow, ti, fd, ft, fk, fn, fh, fl, fv, rs, nt, le, kl, uy, fp, fz, au, rfl, rfl, a1, a2, a3, a4, a5, a6, a7, a8, a9, a10⟩ := I
  have n0 : ¬ (1 : Int32) = 0 := by decide
  have fin : ∀ (r : Int32) (u' : SX) (v' : SY), i_Rel (k + 5) u' v' → (∀ post : Int32 → SX → Prop, post r u' → wpX_capability post (q, tn, sl, pc, wp, he, co, ca, cb, fs, fc, ts, tu, ux, tl, ul, tm, gc, ga, gp, ss, st, sf, tc, tr, ow, ti, fd, ft, fk, fn, fh, fl, fv, rs, nt) v1 v2 v3 v4) → (∀ post : Int32 → SY → Prop, post r v' → wpY_capability post (q, wp, tn, sl, yd, nd, co, ca, cb, le, he, kl, tu, uy, tl, ul, tm, gc, ga, gp, ss, st, sf, fd, tc, tr, ow, ti, ft, fn, fh, fp, fz, fl, fv, rs, au) v1 v2 v3 v4) →
      wpX_capability (fun r u' => wpY_capability (fun r' v' => r' = r ∧ i_Rel (k + 5) u' v') (q, wp, tn, sl, yd, nd, co, ca, cb, le, he, kl, tu, uy, tl, ul, tm, gc, ga, gp, ss, st, sf, fd, tc, tr, ow, ti, ft, fn, fh, fp, fz, fl, fv, rs, au) v1 v2 v3 v4) (q, tn, sl, pc, wp, he, co, ca, cb, fs, fc, ts, tu, ux, tl, ul, tm, gc, ga, gp, ss, st, sf, tc, tr, ow, ti, fd, ft, fk, fn, fh, fl, fv, rs, nt) v1 v2 v3 v4 := fun r u' v' h1 h2 h3 => h2 _ (h3 _ ⟨rfl, h1⟩)
  rcases ten_c v1 with c | ⟨t, ht, rfl⟩
  · refine fin 0 _ _ I5 (fun post h => ?_) (fun post h => ?_)
    · unfold wpX_capability; dsimp only
      exact xl_ten0 c (br_t rfl h)
    · unfold wpY_capability; dsimp only
      exact yl_ten0 c (br_t rfl h)
  rcases ix_c v2 (n := 4) (N := 4) (N1 := 3) rfl rfl (by decide) (by decide) with c | ⟨d1, d2, d3, d4, d5⟩ | ⟨s, hs, rfl⟩
  · refine fin 0 _ _ I5 (fun post h => ?_) (fun post h => ?_)
    · unfold wpX_capability; dsimp only
      exact xl_ten1 ht (br_f n0 (sl_a c (br_t rfl h)))
    · unfold wpY_capability; dsimp only
      exact yl_ten1 ht (br_f n0 (br_t c h))
  · refine fin 0 _ _ I5 (fun post h => ?_) (fun post h => ?_)
    · unfold wpX_capability; dsimp only
      exact xl_ten1 ht (br_f n0 (sl_b d1 d2 (br_t rfl h)))
    · unfold wpY_capability; dsimp only
      exact yl_ten1 ht (br_f n0 (br_f d1 (br_t d3 h)))
  obtain ⟨f1, f2, f3, f4, f5⟩ := ix_f (N := 4) (N1 := 3) rfl rfl hs (by decide)
  rcases ten_c v3 with c | ⟨w, hw, rfl⟩
  · refine fin 0 _ _ I5 (fun post h => ?_) (fun post h => ?_)
    · unfold wpX_capability; dsimp only
      exact xl_ten1 ht (br_f n0 (sl_c f1 f2 (br_f n0 (xl_ten0 c (br_t rfl h)))))
    · unfold wpY_capability; dsimp only
      exact yl_ten1 ht (br_f n0 (br_f f1 (br_f f3 (yl_ten0 c (br_t rfl h)))))
  rcases ix_c v4 (n := 4) (N := 4) (N1 := 3) rfl rfl (by decide) (by decide) with c | ⟨d1, d2, d3, d4, d5⟩ | ⟨f, hf, rfl⟩
  · refine fin 0 _ _ I5 (fun post h => ?_) (fun post h => ?_)
    · unfold wpX_capability; dsimp only
      exact xl_ten1 ht (br_f n0 (sl_c f1 f2 (br_f n0 (xl_ten1 hw (br_f n0 (br_t c h))))))
    · unfold wpY_capability; dsimp only
      exact yl_ten1 ht (br_f n0 (br_f f1 (br_f f3 (yl_ten1 hw (br_f n0 (br_t c h))))))
  · refine fin 0 _ _ I5 (fun post h => ?_) (fun post h => ?_)
    · unfold wpX_capability; dsimp only
      exact xl_ten1 ht (br_f n0 (sl_c f1 f2 (br_f n0 (xl_ten1 hw (br_f n0 (br_f d1 (br_f d4 h)))))))
    · unfold wpY_capability; dsimp only
      exact yl_ten1 ht (br_f n0 (br_f f1 (br_f f3 (yl_ten1 hw (br_f n0 (br_f d1 (br_f d5 h)))))))
  obtain ⟨g1, g2, g3, g4, g5⟩ := ix_f (N := 4) (N1 := 3) rfl rfl hf (by decide)
  have e1 : nI t * 4 + nI s = nI (4 * t + s) := ix_r 4 rfl t s
  have e2 : 4 * nI t + nI s = nI (4 * t + s) := ix_l 4 rfl t s
  have e3 : (nI (4 * t + s)).toNatClampNeg = 4 * t + s := nI_clamp (by omega)
  have vi : vp_in (nI (4 * t + s)) 16 := vp_in_nI (by omega) (by decide)
  refine fin 1 (q, tn, sl, pc, wp, he, co, ca, cb, fs, fc, ts, tu, ux, tl, ul, tm, gc, ga, gp, upd ss (4 * t + s) 1, upd st (4 * t + s) (nI w), upd sf (4 * t + s) (nI f), tc, tr, ow, ti, fd, ft, fk, fn, fh, fl, fv, rs, nt) (q, wp, tn, sl, yd, nd, co, ca, cb, le, he, kl, tu, uy, tl, ul, tm, gc, ga, gp, upd ss (4 * t + s) 1, upd st (4 * t + s) (nI w), upd sf (4 * t + s) (nI f), fd, tc, tr, ow, ti, ft, fn, fh, fp, fz, fl, fv, rs, au) (mk_rel ⟨a1, a2, a3, a4, a5, ?_, a7, a8, a9, rl_nU a10 (by omega)⟩) (fun post h => ?_) (fun post h => ?_)
  · intro j hj
    by_cases cj : j = 4 * t + s
    · subst cj
      rw [pk_us, pk_us]
      exact ⟨⟨w, hw, rfl⟩, ⟨f, hf, rfl⟩⟩
    · rw [pk_un cj, pk_un cj]
      exact a6 j hj
  · unfold wpX_capability; dsimp only
    refine xl_ten1 ht (br_f n0 (sl_c f1 f2 (br_f n0 (xl_ten1 hw (br_f n0 (br_f g1 (br_t g4 (nm_r e1 ?_))))))))
    rw [e3]
    exact ⟨vi, nm_e ⟨vi, nm_e ⟨vi, nm_e h⟩⟩⟩
  · unfold wpY_capability; dsimp only
    refine yl_ten1 ht (br_f n0 (br_f f1 (br_f f3 (yl_ten1 hw (br_f n0 (br_f g1 (br_t g5 ?_)))))))
    rw [e2, e3]
    exact ⟨vi, nm_e ⟨vi, nm_e ⟨vi, nm_e h⟩⟩⟩
theorem i_vc_revoke {k : Nat} {u : SX} {v : SY} (I : i_Rel k u v) (hk : k + 5 ≤ 2561) (v1 : Int32) (v2 : Int32) : wpX_revoke (fun r u' => wpY_revoke (fun r' v' => r' = r ∧ i_Rel (k + 5) u' v') v v1 v2) u v1 v2 := by
  have I5 := i_up I
  obtain ⟨H, q, tn, sl, pc, wp, yd, nd, he, co, ca, cb, fs, fc, ts, tu, ux, tl, ul, tm, gc, ga, gp, ss, st, sf, tc, tr, ow, ti, fd, ft, fk, fn, fh, fl, fv, rs, nt, le, kl, uy, fp, fz, au, rfl, rfl, a1, a2, a3, a4, a5, a6, a7, a8, a9, a10⟩ := I
  have n0 : ¬ (1 : Int32) = 0 := by decide
  have fin : ∀ (r : Int32) (u' : SX) (v' : SY), i_Rel (k + 5) u' v' → (∀ post : Int32 → SX → Prop, post r u' → wpX_revoke post (q, tn, sl, pc, wp, he, co, ca, cb, fs, fc, ts, tu, ux, tl, ul, tm, gc, ga, gp, ss, st, sf, tc, tr, ow, ti, fd, ft, fk, fn, fh, fl, fv, rs, nt) v1 v2) → (∀ post : Int32 → SY → Prop, post r v' → wpY_revoke post (q, wp, tn, sl, yd, nd, co, ca, cb, le, he, kl, tu, uy, tl, ul, tm, gc, ga, gp, ss, st, sf, fd, tc, tr, ow, ti, ft, fn, fh, fp, fz, fl, fv, rs, au) v1 v2) →
      wpX_revoke (fun r u' => wpY_revoke (fun r' v' => r' = r ∧ i_Rel (k + 5) u' v') (q, wp, tn, sl, yd, nd, co, ca, cb, le, he, kl, tu, uy, tl, ul, tm, gc, ga, gp, ss, st, sf, fd, tc, tr, ow, ti, ft, fn, fh, fp, fz, fl, fv, rs, au) v1 v2) (q, tn, sl, pc, wp, he, co, ca, cb, fs, fc, ts, tu, ux, tl, ul, tm, gc, ga, gp, ss, st, sf, tc, tr, ow, ti, fd, ft, fk, fn, fh, fl, fv, rs, nt) v1 v2 := fun r u' v' h1 h2 h3 => h2 _ (h3 _ ⟨rfl, h1⟩)
  rcases ten_c v1 with c | ⟨t, ht, rfl⟩
  · refine fin 0 _ _ I5 (fun post h => ?_) (fun post h => ?_)
    · unfold wpX_revoke; dsimp only
      exact xl_ten0 c (br_t rfl h)
    · unfold wpY_revoke; dsimp only
      exact yl_ten0 c (br_t rfl h)
  rcases ix_c v2 (n := 4) (N := 4) (N1 := 3) rfl rfl (by decide) (by decide) with c | ⟨d1, d2, d3, d4, d5⟩ | ⟨s, hs, rfl⟩
  · refine fin 0 _ _ I5 (fun post h => ?_) (fun post h => ?_)
    · unfold wpX_revoke; dsimp only
      exact xl_ten1 ht (br_f n0 (sl_a c (br_t rfl h)))
    · unfold wpY_revoke; dsimp only
      exact yl_ten1 ht (br_f n0 (br_t c h))
  · refine fin 0 _ _ I5 (fun post h => ?_) (fun post h => ?_)
    · unfold wpX_revoke; dsimp only
      exact xl_ten1 ht (br_f n0 (sl_b d1 d2 (br_t rfl h)))
    · unfold wpY_revoke; dsimp only
      exact yl_ten1 ht (br_f n0 (br_f d1 (br_t d3 h)))
  obtain ⟨f1, f2, f3, f4, f5⟩ := ix_f (N := 4) (N1 := 3) rfl rfl hs (by decide)
  have e1 : nI t * 4 + nI s = nI (4 * t + s) := ix_r 4 rfl t s
  have e2 : 4 * nI t + nI s = nI (4 * t + s) := ix_l 4 rfl t s
  have e3 : (nI (4 * t + s)).toNatClampNeg = 4 * t + s := nI_clamp (by omega)
  have vi : vp_in (nI (4 * t + s)) 16 := vp_in_nI (by omega) (by decide)
  by_cases c : ss (4 * t + s) = 1
  · refine fin 1 (q, tn, sl, pc, wp, he, co, ca, cb, fs, fc, ts, tu, ux, tl, ul, tm, gc, ga, gp, upd ss (4 * t + s) 2, st, sf, tc, tr, ow, ti, fd, ft, fk, fn, fh, fl, fv, rs, nt) (q, wp, tn, sl, yd, nd, co, ca, cb, le, he, kl, tu, uy, tl, ul, tm, gc, ga, gp, upd ss (4 * t + s) 2, st, sf, fd, tc, tr, ow, ti, ft, fn, fh, fp, fz, fl, fv, rs, au) (mk_rel ⟨a1, a2, a3, a4, a5, a6, a7, a8, a9, rl_nU a10 (by omega)⟩) (fun post h => ?_) (fun post h => ?_)
    · unfold wpX_revoke; dsimp only
      refine xl_ten1 ht (br_f n0 (sl_c f1 f2 (br_f n0 ?_)))
      rw [e1, e3]
      exact ⟨vi, br_t c ⟨vi, nm_e h⟩⟩
    · unfold wpY_revoke; dsimp only
      refine yl_ten1 ht (br_f n0 (br_f f1 (br_f f3 ?_)))
      rw [e2, e3]
      exact ⟨vi, br_t c ⟨vi, nm_e h⟩⟩
  · refine fin 0 _ _ I5 (fun post h => ?_) (fun post h => ?_)
    · unfold wpX_revoke; dsimp only
      refine xl_ten1 ht (br_f n0 (sl_c f1 f2 (br_f n0 ?_)))
      rw [e1, e3]
      exact ⟨vi, br_f c h⟩
    · unfold wpY_revoke; dsimp only
      refine yl_ten1 ht (br_f n0 (br_f f1 (br_f f3 ?_)))
      rw [e2, e3]
      exact ⟨vi, br_f c h⟩
end
