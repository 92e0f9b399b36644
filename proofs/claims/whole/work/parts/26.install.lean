def cp_f (g : Nat → Int32) (t n : Nat) : Nat → Int32 := fun y => if 64 * t ≤ y ∧ y < 64 * t + n then g (256 + (y - 64 * t)) else g y
theorem cp_0 (g : Nat → Int32) (t : Nat) : cp_f g t 0 = g := by
  funext y
  unfold cp_f
  rw [if_neg (by omega)]
theorem cp_in {g : Nat → Int32} {t n i : Nat} (hi : i < n) : cp_f g t n (64 * t + i) = g (256 + i) := by
  unfold cp_f
  rw [if_pos (by omega), show 64 * t + i - 64 * t = i by omega]
theorem cp_un {g : Nat → Int32} {t n y : Nat} (h : y < 64 * t ∨ 64 * t + n ≤ y) : cp_f g t n y = g y := by
  unfold cp_f
  rw [if_neg (by omega)]
theorem cp_s (g : Nat → Int32) {t i : Nat} (ht : t < 4) (hi : i < 64) : upd (cp_f g t i) (64 * t + i) (cp_f g t i (256 + i)) = cp_f g t (i + 1) := by
  funext y
  rw [cp_un (by omega)]
  by_cases c : y = 64 * t + i
  · subst c
    rw [pk_us, cp_in (by omega)]
  · rw [pk_un c]
    unfold cp_f
    by_cases c2 : 64 * t ≤ y ∧ y < 64 * t + i
    · have a : 64 * t ≤ y ∧ y < 64 * t + (i + 1) := by omega
      simp only [if_pos c2, if_pos a]
    · have a : ¬ (64 * t ≤ y ∧ y < 64 * t + (i + 1)) := by omega
      simp only [if_neg c2, if_neg a]
theorem cp_cf {co : Nat → Int32} {t n : Nat} : ∀ i, i ≤ n → cf_n (cp_f co t n) (64 * t) i = cf_n co 256 i := by
  intro i
  induction i with
  | zero => intro _; rfl
  | succ i ih =>
    intro h
    simp only [cf_n]
    rw [ih (by omega), cp_in (by omega)]
/-- what the starts of a tenant's functions say of the first i rows -/
def fn_P (co fs fs0 : Nat → Int32) (t i : Nat) : Prop := (∀ f, f < cf_n co 256 i → ∃ j : Nat, j < i ∧ fs (4 * t + f) = nI j ∧ co (256 + j) = 0 ∧ cf_n co 256 j = f) ∧ ∀ y, (y < 4 * t ∨ 4 * t + 4 ≤ y) → fs y = fs0 y
section
variable {q tn sl pc wp yd nd : Int32} {he co ca cb fs fc ts tu ux tl ul tm gc ga gp ss st sf tc tr ow ti fd ft fk fn fh fl fv rs nt le kl uy fp fz au : Nat → Int32}
theorem xn_loop {n t : Nat} {fs0 : Nat → Int32} (hl : pc = nI n) (hn : n ≤ 64) (ht : t < 4) (hw : ∀ j, j < n → wf_P co ca cb n j) : ∀ (d i : Nat) (fs : Nat → Int32), i + d = n → fn_P co fs fs0 t i → ∃ fs' : Nat → Int32, fn_P co fs' fs0 t n ∧
    (∀ post : SX → Prop, post (q, tn, sl, pc, wp, he, cp_f co t n, cp_f ca t n, cp_f cb t n, fs', upd fc t (nI (cf_n co 256 n)), upd ts t 1, upd tu t 0, upd ux t 0, tl, ul, tm, gc, ga, gp, ss, st, sf, tc, tr, ow, ti, fd, ft, fk, fn, fh, fl, fv, rs, nt) → wX_install_10 post (nI t) (nI (64 * t)) q tn sl pc wp (d + 1) (nI (cf_n co 256 i)) (nI i) he (cp_f co t i) (cp_f ca t i) (cp_f cb t i) fs fc ts tu ux tl ul tm gc ga gp ss st sf tc tr ow ti fd ft fk fn fh fl fv rs nt) := by
  have et : (nI t).toNatClampNeg = t := nI_clamp (by omega)
  have vt : vp_in (nI t) 4 := vp_in_nI ht (by decide)
  intro d
  induction d with
  | zero =>
    intro i fs hi hf
    have : i = n := by omega
    subst this
    exact ⟨fs, hf, fun post h => br_t (by rw [hl]; exact nI_le (Nat.le_refl _) (by omega)) ⟨vt, nm_r (by rw [et]) ⟨vt, nm_r (by rw [et]) ⟨vt, nm_r (by rw [et]) ⟨vt, nm_r (by rw [et]) h⟩⟩⟩⟩⟩
  | succ d ih =>
    intro i fs hi hf
    have e1 : 256 + nI i = nI (256 + i) := ix_a 256 rfl i
    have e2 : (nI (256 + i)).toNatClampNeg = 256 + i := nI_clamp (by omega)
    have v1 : vp_in (256 + nI i) 320 := by rw [e1]; exact vp_in_nI (by omega) (by decide)
    have e3 : nI (64 * t) + nI i = nI (64 * t + i) := nI_add _ _
    have e4 : (nI (64 * t + i)).toNatClampNeg = 64 * t + i := nI_clamp (by omega)
    have v2 : vp_in (nI (64 * t) + nI i) 320 := by rw [e3]; exact vp_in_nI (by omega) (by decide)
    have c4 := cf_4 i (fun j hj => hw j (by omega))
    have es : ∀ g : Nat → Int32, upd (cp_f g t i) (nI (64 * t) + nI i).toNatClampNeg (cp_f g t i (256 + nI i).toNatClampNeg) = cp_f g t (i + 1) := fun g => by rw [e3, e4, e1, e2]; exact cp_s g ht (by omega)
    have ec : cp_f co t (i + 1) (nI (64 * t) + nI i).toNatClampNeg = co (256 + i) := by rw [e3, e4]; exact cp_in (by omega)
    have nx : ¬ pc ≤ nI i := by rw [hl]; exact nI_ge (by omega) (by omega)
    by_cases c : co (256 + i) = 0
    · have q4 : cf_n co 256 i < 4 := (hw i (by omega)).2 c
      have e5 : nI t * 4 + nI (cf_n co 256 i) = nI (4 * t + cf_n co 256 i) := ix_r 4 rfl t _
      have e6 : (nI (4 * t + cf_n co 256 i)).toNatClampNeg = 4 * t + cf_n co 256 i := nI_clamp (by omega)
      obtain ⟨fs', r1, r2⟩ := ih (i + 1) (upd fs (4 * t + cf_n co 256 i) (nI i)) (by omega) ⟨fun f hf' => by
        rw [cf_t c] at hf'
        by_cases cf : f = cf_n co 256 i
        · subst cf
          exact ⟨i, by omega, pk_us, c, rfl⟩
        · obtain ⟨j, j1, j2, j3, j4⟩ := hf.1 f (by omega)
          exact ⟨j, by omega, by rw [pk_un (by omega)]; exact j2, j3, j4⟩, fun y hy => by rw [pk_un (by omega)]; exact hf.2 y hy⟩
      refine ⟨fs', r1, fun post h => br_f nx ⟨v1, v2, nm_r (es co) ⟨v1, v2, nm_r (es ca) ⟨v1, v2, nm_r (es cb) ⟨v2, br_t (by rw [ec]; exact c) (br_f (ix_ge 4 rfl q4 (by decide)) ⟨by rw [e5]; exact vp_in_nI (by omega) (by decide), nm_r (e' := upd fs (4 * t + cf_n co 256 i) (nI i)) (by rw [e5, e6]) (nm_r (nI_1 _) (nm_r (nI_1 i) ?_))⟩)⟩⟩⟩⟩⟩
      have z := r2 post h
      rw [cf_t c] at z
      exact z
    · obtain ⟨fs', r1, r2⟩ := ih (i + 1) fs (by omega) ⟨fun f hf' => by
        rw [cf_f c] at hf'
        obtain ⟨j, j1, j2, j3, j4⟩ := hf.1 f hf'
        exact ⟨j, by omega, j2, j3, j4⟩, hf.2⟩
      refine ⟨fs', r1, fun post h => br_f nx ⟨v1, v2, nm_r (es co) ⟨v1, v2, nm_r (es ca) ⟨v1, v2, nm_r (es cb) ⟨v2, br_f (by rw [ec]; exact c) (nm_r (nI_1 i) ?_)⟩⟩⟩⟩⟩
      have z := r2 post h
      rw [cf_f c] at z
      exact z
theorem yn_loop {n t : Nat} (hn : n ≤ 64) (ht : t < 4) {post : Int32 → SY → Prop} (h : post 0 (q, wp, tn, sl, yd, nd, cp_f co t n, cp_f ca t n, cp_f cb t n, upd le t (nI n), he, upd kl t 0, upd tu t 0, upd uy t 0, tl, ul, tm, gc, ga, gp, ss, st, sf, fd, tc, tr, ow, ti, ft, fn, fh, fp, fz, fl, fv, rs, au)) : ∀ d i : Nat, i + d = n → wY_deploy_55 post (nI t) (nI n) q wp tn sl yd nd (d + 1) (nI i) (cp_f co t i) (cp_f ca t i) (cp_f cb t i) le he kl tu uy tl ul tm gc ga gp ss st sf fd tc tr ow ti ft fn fh fp fz fl fv rs au := by
  have et : (nI t).toNatClampNeg = t := nI_clamp (by omega)
  have vt : vp_in (nI t) 4 := vp_in_nI ht (by decide)
  have vt5 : vp_in (nI t) 5 := vp_in_nI (by omega) (by decide)
  intro d
  induction d with
  | zero =>
    intro i hi
    have : i = n := by omega
    subst this
    exact br_t (nI_le (Nat.le_refl _) (by omega)) ⟨vt5, nm_r (by rw [et]) ⟨vt, nm_r (by rw [et, ix_bn0]) ⟨vt, nm_r (by rw [et]) ⟨vt, nm_r (by rw [et]) h⟩⟩⟩⟩
  | succ d ih =>
    intro i hi
    have e1 : 256 + nI i = nI (256 + i) := ix_a 256 rfl i
    have e2 : (nI (256 + i)).toNatClampNeg = 256 + i := nI_clamp (by omega)
    have v1 : vp_in (256 + nI i) 320 := by rw [e1]; exact vp_in_nI (by omega) (by decide)
    have e3 : 64 * nI t + nI i = nI (64 * t + i) := ix_l 64 rfl t i
    have e4 : (nI (64 * t + i)).toNatClampNeg = 64 * t + i := nI_clamp (by omega)
    have v2 : vp_in (64 * nI t + nI i) 320 := by rw [e3]; exact vp_in_nI (by omega) (by decide)
    have es : ∀ g : Nat → Int32, upd (cp_f g t i) (64 * nI t + nI i).toNatClampNeg (cp_f g t i (256 + nI i).toNatClampNeg) = cp_f g t (i + 1) := fun g => by rw [e3, e4, e1, e2]; exact cp_s g ht (by omega)
    exact br_f (nI_ge (by omega) (by omega)) ⟨v1, v2, nm_r (es co) ⟨v1, v2, nm_r (es ca) ⟨v1, v2, nm_r (es cb) (nm_r (nI_1 i) (ih (i + 1) (by omega)))⟩⟩⟩
end
theorem bu_mo {co ca cb co' ca' cb' : Nat → Int32} {b n c i h : Nat} {P Q : Nat → Nat → Prop} (z : bu_ok co ca cb b n c P i h) (hPQ : ∀ i h, P i h → Q i h) (e1 : co' (b + i) = co (b + i)) (e2 : ca' (b + i) = ca (b + i)) (e3 : cb' (b + i) = cb (b + i)) : bu_ok co' ca' cb' b n c Q i h := by
  unfold bu_ok at z ⊢
  rw [e1, e2, e3]
  obtain ⟨z1, z2, o, z3, z4, z5, z6, z7, z8, z9, z10, z11, z12⟩ := z
  exact ⟨z1, z2, o, z3, z4, z5, z6, z7, z8, z9, z10, fun x y w => ⟨(z11 x y w).1, hPQ _ _ (z11 x y w).2⟩, fun x => by
    obtain ⟨j, j1, j2⟩ := z12 x
    exact ⟨j, j1, hPQ _ _ j2⟩⟩
def hn_P (h : Nat → Int32) (n i b : Nat) : Prop := i < n ∧ b < 9 ∧ bt (h i) b = true
/-- a judged bundle is sound at the heights that were found -/
theorem bu_new {co ca cb h : Nat → Int32} {n t : Nat} (hn : n ≤ 64) (h0 : co 256 = 0) (hw : ∀ j, j < n → wf_P co ca cb n j) (hfix : ∀ j, j < n → fi_h co ca h n j = h) (hso : ∀ j, j < n → so_P co ca h n j (op_n co j)) {i b : Nat} (hH : hn_P h n i b) :
    bu_ok (cp_f co t n) (cp_f ca t n) (cp_f cb t n) (64 * t) n (cf_n co 256 n) (hn_P h n) i b := by
  obtain ⟨hi, hb, hbt⟩ := hH
  obtain ⟨ho, eo⟩ := op_e (hw i hi)
  have ht := tg_e hn (hw i hi)
  have wg := (hw i hi).1
  have hfx := hfix i hi
  have pl := po_le (op_n co i) (ca (256 + i))
  have ql := pu_le (op_n co i) (ca (256 + i))
  have ll := la_le co i
  rcases hso i hi with z | ⟨b', b1, b2, b3, b4, b5⟩
  · rw [z, b_0] at hbt
    exact absurd hbt (by decide)
  have eb : b = b' := by
    rw [b2, so_d5 b' b1 b (by omega)] at hbt
    exact of_decide_eq_true hbt
  subst eb
  have hwbit : bt (af_w (h i) (st_po (op_n co i) (ca (256 + i))) (st_pu (op_n co i) (ca (256 + i)))) (b - st_po (op_n co i) (ca (256 + i)) + st_pu (op_n co i) (ca (256 + i))) = true := by
    rw [af_b _ pl ql (by omega), decide_eq_true (by omega), decide_eq_true (by omega), Bool.true_and, Bool.true_and, show st_po (op_n co i) (ca (256 + i)) + (b - st_po (op_n co i) (ca (256 + i)) + st_pu (op_n co i) (ca (256 + i)) - st_pu (op_n co i) (ca (256 + i))) = b by omega]
    exact hbt
  have hdest : ∀ y, ((gs_B (op_n co i) n i && decide (y = i + 1)) || (js_B (op_n co i) && decide (y = tg_n ca i))) = true → bt (h y) (b - st_po (op_n co i) (ca (256 + i)) + st_pu (op_n co i) (ca (256 + i))) = true := by
    intro y hy
    have e := congrArg (fun g => bt (g y) (b - st_po (op_n co i) (ca (256 + i)) + st_pu (op_n co i) (ca (256 + i)))) hfx
    simp only [fi_h, fo_h] at e
    rw [fo_b, hy, hwbit, Bool.true_and, Bool.or_true] at e
    exact e.symm
  have key : bu_ok (cp_f co t n) (cp_f ca t n) (cp_f cb t n) (64 * t) n (cf_n co 256 n) (hn_P h n) i b := by
    unfold bu_ok
    rw [cp_in hi, cp_in hi, cp_in hi]
    refine ⟨hi, by omega, op_n co i, ho, eo, fun z => ?_, fun z => ?_, fun z => ?_, fun z => ?_, b3, b4, fun x y w => ?_, fun z => ?_⟩
    · have g := wg.2.2.1 (by rcases z with z | z <;> rw [eo, z] <;> decide)
      obtain ⟨x, hx, ex⟩ := nI_of g.1
      have g4 := ((hw (la_f co i) (by omega)).1.2.1 (la_0 h0 i)).2
      refine ⟨x, ?_, ex⟩
      have l1 : ca (256 + i) < ca (256 + la_f co i) := Int32.not_le.mp g.2
      have l2 : ca (256 + la_f co i) ≤ 4 := Int32.not_lt.mp g4
      have l3 : nI x < nI 4 := by rw [← ex]; exact Int32.lt_of_lt_of_le l1 l2
      exact (nI_ltI hx (by decide)).mp l3
    · have g := wg.2.2.2.2.1 (by rcases z with z | z | z <;> rw [eo, z] <;> decide)
      obtain ⟨x, hx, ex⟩ := nI_of g.1
      have cl := cf_le co 256 n
      refine ⟨x, ?_, ex⟩
      have l1 : nI x < nI (cf_n co 256 n) := by rw [← ex]; exact Int32.not_le.mp g.2
      exact (nI_ltI hx (by omega)).mp l1
    · have g := wg.2.2.2.2.2.1 (by rw [eo, z]; decide)
      obtain ⟨x, hx, ex⟩ := nI_of g.1
      refine ⟨x, ?_, ex⟩
      have l1 : nI x < nI 4 := by rw [← ex]; exact Int32.not_le.mp g.2
      exact (nI_ltI hx (by decide)).mp l1
    · have g := wg.2.2.2.2.2.2 (by rw [eo, z]; decide)
      obtain ⟨x, hx, ex⟩ := nI_of g.1.1
      obtain ⟨y, hy, ey⟩ := nI_of g.2.1
      have l1 : nI x < nI 4 := by rw [← ex]; exact Int32.not_le.mp g.1.2
      have l2 : nI y < nI 84 := by rw [← ey]; exact Int32.not_le.mp g.2.2
      exact ⟨⟨x, (nI_ltI hx (by decide)).mp l1, ex⟩, ⟨y, (nI_ltI hy (by decide)).mp l2, ey⟩⟩
    · have g := b5 ⟨x, y, w⟩
      refine ⟨g.1, g.1, by omega, hdest (i + 1) ?_⟩
      unfold gs_B
      rw [decide_eq_true (show op_n co i ≠ 12 ∧ op_n co i ≠ 21 ∧ op_n co i ≠ 22 from ⟨x, y, w⟩), decide_eq_true g.1, decide_eq_true rfl]
      rfl
    · have hJ : js_B (op_n co i) = true := by unfold js_B; exact decide_eq_true z
      obtain ⟨q1, q2⟩ := ht hJ
      refine ⟨tg_n ca i, q1, q2, by omega, hdest (tg_n ca i) ?_⟩
      rw [hJ, decide_eq_true rfl, Bool.true_and, Bool.or_true]
  exact key
theorem th_H {H H' : Nat → Nat → Nat → Prop} {ft fn fh fz tc fd : Nat → Int32} {t k : Nat} (hk : k < 6) (hnf : nf_t fd ft t) (hHH : ∀ s i h, s ≠ t → H s i h → H' s i h) (h : th_ok H ft fn fh fz tc fd k) : th_ok H' ft fn fh fz tc fd k := by
  obtain ⟨d, d1, d2, d3, d4⟩ := h
  have fr : ∀ j e, j < d → fr_ok H ft fn fh (6 * k + j) e → fr_ok H' ft fn fh (6 * k + j) e := by
    rintro j e hj ⟨s, i, hh, s1, s2, s3, s4, s5⟩
    refine ⟨s, i, hh, s1, s2, s3, s4, hHH s i _ (fun z => ?_) s5⟩
    subst z
    exact hnf k hk d d1 d2 j hj s2
  refine ⟨d, d1, d2, d3, fun h0 => ?_⟩
  obtain ⟨⟨y1, y2⟩, y3⟩ := d4 h0
  exact ⟨⟨y1, fun j hj => fr j _ (by omega) (y2 j hj)⟩, fr (d - 1) 0 (by omega) y3⟩
