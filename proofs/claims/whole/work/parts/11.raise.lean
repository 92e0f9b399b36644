def rl_v (ux uy kl fd ft : Nat → Int32) : Prop := ∀ t, t < 4 → ¬ (kl t ≠ 0 ∧ nf_t fd ft t) → ux t = uy t
theorem rl_uv {ux uy kl fd ft : Nat → Int32} (h : rl_u ux uy kl fd ft) : rl_v ux uy kl fd ft := fun t ht => (h t ht).2
/-- what a step leaves alone, but for the notes' bound -/
def rl_C (M : Nat) (H : Nat → Nat → Nat → Prop) (q pc nd : Int32) (le fc ts kl fs co ca cb gc gp st sf au nt : Nat → Int32) : Prop :=
  rl_q q ∧ rl_pc pc le ∧ rl_b H le fc ts kl fs co ca cb ∧ rl_g gc gp ∧ rl_s st sf ∧ rl_n M nd au nt
/-- the states after a step of thread k and before units are released and the turn passes -/
def md_R (M k s : Nat) (u : SX) (v : SY) : Prop :=
  ∃ (H : Nat → Nat → Nat → Prop) (q tn sl pc wp yd nd slx : Int32) (he co ca cb fs fc ts tu ux tl ul tm gc ga gp ss st sf tc tr ow ti fd ft fk fn fh fl fv rs nt le kl uy fp fz au : Nat → Int32),
  u = (q, tn, slx, pc, wp, he, co, ca, cb, fs, fc, ts, tu, ux, tl, ul, tm, gc, ga, gp, ss, st, sf, tc, tr, ow, ti, fd, ft, fk, fn, fh, fl, fv, rs, nt) ∧ v = (q, wp, tn, sl, yd, nd, co, ca, cb, le, he, kl, tu, uy, tl, ul, tm, gc, ga, gp, ss, st, sf, fd, tc, tr, ow, ti, ft, fn, fh, fp, fz, fl, fv, rs, au) ∧ rl_C M H q pc nd le fc ts kl fs co ca cb gc gp st sf au nt ∧ tn = nI k ∧ sl = nI s ∧ (slx = nI s ∧ tc k = -1 ∧ yd = 0 ∨ slx = 0 ∧ (tc k ≠ -1 ∨ yd ≠ 0)) ∧
  rl_t H ft fn fh fz tc fd ∧ rl_k fk fp fz ∧ rl_v ux uy kl fd ft
theorem nf_dn {fd ft fd' ft' : Nat → Int32} {k d d' s : Nat} (hd : d ≤ 6) (hd' : d' ≤ d) (ed : fd k = nI d) (ed' : fd' k = nI d') (eo : ∀ j, j ≠ k → fd' j = fd j) (ex : ∀ x, ft' x = ft x) (h : nf_t fd ft s) : nf_t fd' ft' s := by
  intro k' hk' e he6 ee j hj
  rw [ex]
  by_cases ck : k' = k
  · subst ck
    rw [ed', nI_eq (by omega) (by omega)] at ee
    exact h k' hk' d hd ed j (by omega)
  · exact h k' hk' e he6 (by rw [← eo k' ck]; exact ee) j hj
theorem rv_dn {ux uy kl fd ft : Nat → Int32} {k d d' : Nat} (h : rl_v ux uy kl fd ft) (hd : d ≤ 6) (hd' : d' ≤ d) (ed : fd k = nI d) : rl_v ux uy kl (upd fd k (nI d')) ft := fun t ht z =>
  h t ht (fun y => z ⟨y.1, nf_dn hd hd' ed pk_us (fun j hj => pk_un hj) (fun _ => rfl) y.2⟩)
theorem bu_h8 {H : Nat → Nat → Nat → Prop} {le fc ts kl fs co ca cb : Nat → Int32} (B : rl_b H le fc ts kl fs co ca cb) {t i h : Nat} (ht : t < 4) (hH : H t i h) : h ≤ 8 := by
  obtain ⟨n, c, b1, b2, b3, b4, b5, b6, b7, b8, b9, b10, b11⟩ := B t ht
  exact (b11 i h hH).2.1
section
variable {q tn sl pc wp yd nd : Int32} {he co ca cb fs fc ts tu ux tl ul tm gc ga gp ss st sf tc tr ow ti fd ft fk fn fh fl fv rs nt le kl uy fp fz au : Nat → Int32}
theorem mk_md {M k s : Nat} {H : Nat → Nat → Nat → Prop} {slx : Int32} (C : rl_C M H q pc nd le fc ts kl fs co ca cb gc gp st sf au nt) (h1 : tn = nI k) (h2 : sl = nI s) (h3 : slx = nI s ∧ tc k = -1 ∧ yd = 0 ∨ slx = 0 ∧ (tc k ≠ -1 ∨ yd ≠ 0))
    (h4 : rl_t H ft fn fh fz tc fd) (h5 : rl_k fk fp fz) (h6 : rl_v ux uy kl fd ft) : md_R M k s (q, tn, slx, pc, wp, he, co, ca, cb, fs, fc, ts, tu, ux, tl, ul, tm, gc, ga, gp, ss, st, sf, tc, tr, ow, ti, fd, ft, fk, fn, fh, fl, fv, rs, nt) (q, wp, tn, sl, yd, nd, co, ca, cb, le, he, kl, tu, uy, tl, ul, tm, gc, ga, gp, ss, st, sf, fd, tc, tr, ow, ti, ft, fn, fh, fp, fz, fl, fv, rs, au) :=
  ⟨H, q, tn, sl, pc, wp, yd, nd, slx, he, co, ca, cb, fs, fc, ts, tu, ux, tl, ul, tm, gc, ga, gp, ss, st, sf, tc, tr, ow, ti, fd, ft, fk, fn, fh, fl, fv, rs, nt, le, kl, uy, fp, fz, au, rfl, rfl, C, h1, h2, h3, h4, h5, h6⟩
theorem rs_loop {M k s : Nat} {H : Nat → Nat → Nat → Prop} {f : Int32} (C : rl_C M H q pc nd le fc ts kl fs co ca cb gc gp st sf au nt) (htn : tn = nI k) (hsl : sl = nI s) (hyd : yd = 0) (hf : f ≠ -1) (hk : k < 6) (htc : tc k = -1) (hK : rl_k fk fp fz) :
    ∀ (d : Nat) (fd : Nat → Int32), d + 1 ≤ 6 → fd k = nI (d + 1) → th_lo H ft fn fh fz k (d + 1) → (∀ k', k' < 6 → k' ≠ k → th_ok H ft fn fh fz tc fd k') → rl_v ux uy kl fd ft →
    ∃ (u1 : SX) (v1 : SY), md_R M k s u1 v1 ∧ (∀ post : SX → Prop, post u1 → wX_unwind_12 post (nI k) f (nI (6 * k)) q tn sl pc wp (d + 1) (nI (6 * k + d)) he co ca cb fs fc ts tu ux tl ul tm gc ga gp ss st sf tc tr ow ti fd ft fk fn fh fl fv rs nt) ∧ (∀ post : SY → Prop, post v1 → wY_raise_0 post (nI k) f q wp tn sl yd nd (d + 2) co ca cb le he kl tu uy tl ul tm gc ga gp ss st sf fd tc tr ow ti ft fn fh fp fz fl fv rs au) := by
  have ek : (nI k).toNatClampNeg = k := nI_clamp (by omega)
  have vk : vp_in (nI k) 6 := vp_in_nI hk (by decide)
  intro d
  induction d with
  | zero =>
    intro fd hd6 ed hlo hO hV
    have hz : fz (6 * k) = 0 := hlo.1
    have ex : (nI (6 * k + 0)).toNatClampNeg = 6 * k + 0 := nI_clamp (by omega)
    have vx : vp_in (nI (6 * k + 0)) 36 := vp_in_nI (by omega) (by decide)
    have e0 : 6 * nI k + (nI (0 + 1) - 1) = nI (6 * k + 0) := by rw [nI_pred, ix_l (M := 6) 6 rfl]
    refine ⟨(q, tn, 0, pc, wp, he, co, ca, cb, fs, fc, ts, tu, ux, tl, ul, tm, gc, ga, gp, ss, st, sf, upd tc k f, upd tr k 0, ow, ti, upd fd k 0, ft, fk, fn, fh, fl, fv, rs, nt), (q, wp, tn, sl, yd, nd, co, ca, cb, le, he, kl, tu, uy, tl, ul, tm, gc, ga, gp, ss, st, sf, upd fd k 0, upd tc k f, upd tr k 0, ow, ti, ft, fn, fh, fp, fz, fl, fv, rs, au), mk_md C htn hsl (Or.inr ⟨rfl, Or.inl (by rw [pk_us]; exact hf)⟩) ?_ hK ?_, fun post h => ?_, fun post h => ?_⟩
    · intro k' hk'
      by_cases ck : k' = k
      · subst ck
        exact ⟨0, by decide, pk_us, ⟨fun z => absurd (by rw [← z, pk_us]) hf, fun z => absurd z (by decide)⟩, fun z => absurd z (by decide)⟩
      · exact th_cg (hO k' hk' ck) (fun _ _ => rfl) (fun _ _ => rfl) (fun _ _ => rfl) (fun _ _ => rfl) (pk_un ck) (pk_un ck)
    · exact rv_dn (d' := 0) hV hd6 (by omega) ed
    · exact br_t (nI_le (by omega) (by omega)) (xl_end hk h)
    · refine ⟨vk, br_f (by rw [ek, ed]; decide) ⟨vk, vk, nm_r (e' := upd fd k (nI 0)) (by rw [ek, ed]; rfl) (nm_r (e' := nI (6 * k + 0)) (by rw [ek, ed]; exact e0) ⟨vx, br_t (by rw [ex]; exact hz) ?_⟩)⟩⟩
      refine ⟨vk, br_t (by rw [ek, pk_us]; decide) (yl_end hk ?_)⟩
      rw [ix_uu]
      exact h
  | succ d ih =>
    intro fd hd6 ed hlo hO hV
    have ex : (nI (6 * k + (d + 1))).toNatClampNeg = 6 * k + (d + 1) := nI_clamp (by omega)
    have vx : vp_in (nI (6 * k + (d + 1))) 36 := vp_in_nI (by omega) (by decide)
    have ep : nI (6 * k + (d + 1)) - 1 = nI (6 * k + d) := nI_pred _
    have ep' : nI (6 * k + (d + 1)) + -1 = nI (6 * k + d) := pk_m1 _
    have eY : 6 * nI k + (fd (nI k).toNatClampNeg - 1) = nI (6 * k + (d + 1)) := by rw [ek, ed, nI_pred, ix_l (M := 6) 6 rfl]
    have eF : upd fd (nI k).toNatClampNeg (fd (nI k).toNatClampNeg - 1) = upd fd k (nI (d + 1)) := by rw [ek, ed, nI_pred]
    have hX : ¬ nI (6 * k + (d + 1)) ≤ nI (6 * k) := nI_ge (by omega) (by omega)
    have hY : ¬ fd (nI k).toNatClampNeg ≤ 0 := by rw [ek, ed]; exact nI_nle (by omega) (by omega)
    have hO' : ∀ k', k' < 6 → k' ≠ k → th_ok H ft fn fh fz tc (upd fd k (nI (d + 1))) k' := fun k' hk' ck => th_cg (hO k' hk' ck) (fun _ _ => rfl) (fun _ _ => rfl) (fun _ _ => rfl) (fun _ _ => rfl) rfl (pk_un ck)
    have hV' : rl_v ux uy kl (upd fd k (nI (d + 1))) ft := rv_dn hV hd6 (by omega) ed
    by_cases cz : fz (6 * k + (d + 1)) = 0
    · have ck : ¬ fk (6 * k + (d + 1)) = 2 := by
        rcases hK (6 * k + (d + 1)) (by omega) with z | z | z
        · rw [z.2.2]; decide
        · rw [z.2.2]; decide
        · rw [z.2.1] at cz; exact absurd cz (by decide)
      obtain ⟨u1, v1, r1, r2, r3⟩ := ih (upd fd k (nI (d + 1))) (by omega) pk_us ⟨hlo.1, fun j hj => hlo.2 j (by omega)⟩ hO' hV'
      refine ⟨u1, v1, r1, fun post h => ?_, fun post h => ?_⟩
      · exact br_f hX ⟨vk, vk, nm_r eF ⟨vx, br_f (by rw [ex]; exact ck) (nm_r ep' (r2 post h))⟩⟩
      · exact ⟨vk, br_f hY ⟨vk, vk, nm_r eF (nm_r eY ⟨vx, br_t (by rw [ex]; exact cz) (r3 post h)⟩)⟩⟩
    · have ck : fk (6 * k + (d + 1)) = 2 := by
        rcases hK (6 * k + (d + 1)) (by omega) with z | z | z
        · exact absurd z.2.1 cz
        · exact absurd z.2.1 cz
        · exact z.2.2
      have fo := hlo.2 d (by omega)
      rw [show 6 * k + d + 1 = 6 * k + (d + 1) by omega, if_neg cz] at fo
      obtain ⟨t, i, h, t1, t2, t3, t4, t5⟩ := fo
      have h8 : h + 2 ≤ 8 := bu_h8 C.2.2.1 t1 t5
      have p2 : (upd fh (6 * k + d) (nI (h + 1))) (6 * k + d) = nI (h + 1) := pk_us
      refine ⟨(q, tn, sl, pc, wp, he, co, ca, cb, fs, fc, ts, tu, ux, tl, ul, tm, gc, ga, gp, ss, st, sf, tc, tr, ow, ti, upd fd k (nI (d + 1)), ft, fk, fn, upd (upd fh (6 * k + d) (nI (h + 1))) (6 * k + d) (nI (h + 1 + 1)), fl, upd (upd fv (8 * (6 * k + d) + h) 0) (8 * (6 * k + d) + (h + 1)) f, rs, nt), (q, wp, tn, sl, yd, nd, co, ca, cb, le, he, kl, tu, uy, tl, ul, tm, gc, ga, gp, ss, st, sf, upd fd k (nI (d + 1)), tc, tr, ow, ti, ft, fn, upd (upd fh (6 * k + d) (nI (h + 1))) (6 * k + d) (nI (h + 1 + 1)), fp, fz, fl, upd (upd fv (8 * (6 * k + d) + h) 0) (8 * (6 * k + d) + (h + 1)) f, rs, au), mk_md C htn hsl (Or.inl ⟨hsl, htc, hyd⟩) ?_ hK hV', fun post hp => ?_, fun post hp => ?_⟩
      · intro k' hk'
        by_cases ckk : k' = k
        · subst ckk
          refine ⟨d + 1, by omega, pk_us, ⟨fun _ => by omega, fun _ => htc⟩, fun _ => ⟨?_, t, i, h + 2, t1, t2, t3, pk_us, t5⟩⟩
          exact ⟨hlo.1, fun j hj => fr_cg (hlo.2 j (by omega)) rfl rfl (by rw [pk_un (by omega), pk_un (by omega)])⟩
        · exact th_cg (hO' k' hk' ckk) (fun _ _ => rfl) (fun _ _ => rfl) (fun j hj => by rw [pk_un (by omega), pk_un (by omega)]) (fun _ _ => rfl) rfl rfl
      · refine br_f hX ⟨vk, vk, nm_r eF ⟨vx, br_t (by rw [ex]; exact ck) ?_⟩⟩
        rw [ep]
        refine xl_push (h := h) (by omega) t4 (by omega) ?_
        exact xl_push (h := h + 1) (by omega) pk_us (by omega) hp
      · refine ⟨vk, br_f hY ⟨vk, vk, nm_r eF (nm_r eY ⟨vx, br_f (by rw [ex]; exact cz) ?_⟩)⟩⟩
        rw [ep]
        refine yl_push (h := h) (by omega) t4 (by omega) ?_
        exact yl_push (h := h + 1) (by omega) pk_us (by omega) hp
theorem rs_all {M k s d : Nat} {H : Nat → Nat → Nat → Prop} {f : Int32} (C : rl_C M H q pc nd le fc ts kl fs co ca cb gc gp st sf au nt) (htn : tn = nI k) (hsl : sl = nI s) (hyd : yd = 0) (hf : f ≠ -1) (hk : k < 6) (htc : tc k = -1) (hK : rl_k fk fp fz)
    (h0 : 0 < d) (hd6 : d ≤ 6) (ed : fd k = nI d) (hlo : th_lo H ft fn fh fz k d) (hO : ∀ k', k' < 6 → k' ≠ k → th_ok H ft fn fh fz tc fd k') (hV : rl_v ux uy kl fd ft) :
    ∃ (u1 : SX) (v1 : SY), md_R M k s u1 v1 ∧ (∀ post : SX → Prop, post u1 → wpX_unwind post (q, tn, sl, pc, wp, he, co, ca, cb, fs, fc, ts, tu, ux, tl, ul, tm, gc, ga, gp, ss, st, sf, tc, tr, ow, ti, fd, ft, fk, fn, fh, fl, fv, rs, nt) (nI k) f) ∧ (∀ post : SY → Prop, post v1 → wpY_raise post (q, wp, tn, sl, yd, nd, co, ca, cb, le, he, kl, tu, uy, tl, ul, tm, gc, ga, gp, ss, st, sf, fd, tc, tr, ow, ti, ft, fn, fh, fp, fz, fl, fv, rs, au) (nI k) f) := by
  obtain ⟨e, rfl⟩ : ∃ e, d = e + 1 := ⟨d - 1, by omega⟩
  obtain ⟨u1, v1, r1, r2, r3⟩ := rs_loop (q := q) (tn := tn) (sl := sl) (pc := pc) (wp := wp) (yd := yd) (nd := nd) (he := he) (co := co) (ca := ca) (cb := cb) (fs := fs) (fc := fc) (ts := ts) (tu := tu) (ux := ux) (tl := tl) (ul := ul) (tm := tm) (gc := gc) (ga := ga) (gp := gp) (ss := ss) (st := st) (sf := sf) (tc := tc) (tr := tr) (ow := ow) (ti := ti) (ft := ft) (fk := fk) (fn := fn) (fh := fh) (fl := fl) (fv := fv) (rs := rs) (nt := nt) (le := le) (kl := kl) (uy := uy) (fp := fp) (fz := fz) (au := au) C htn hsl hyd hf hk htc hK e fd hd6 ed hlo hO hV
  refine ⟨u1, v1, r1, fun post h => ?_, fun post h => ⟨_, r3 post h⟩⟩
  refine nm_r (ix_m 6 rfl k) (xl_top hk (by omega) ed ⟨e + 1, ?_⟩)
  exact r2 post h
end
