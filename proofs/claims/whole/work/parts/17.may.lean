def pa_n (p : Nat) : Nat := if p < 4 then 1 else if p < 20 then 2 else 3
def pa_b (p : Nat) : Nat := if p < 4 then p else if p < 20 then p - 4 else p - 20
def pa_d (p k : Nat) : Nat := if k < pa_n p then pa_b p / 4 ^ (pa_n p - 1 - k) % 4 else 7
def pa_g (p : Nat) : Nat := pa_d p 0 + 8 * pa_d p 1 + 64 * pa_d p 2
theorem pa_gd : ∀ p, p < 84 → pa_g p < 512 ∧ pt_d (pa_g p) 0 = pa_d p 0 ∧ pt_d (pa_g p) 1 = pa_d p 1 ∧ pt_d (pa_g p) 2 = pa_d p 2 := by decide +kernel
theorem pa_7 : ∀ p, p < 84 → ∀ k, k < 3 → (pa_d p k = 7 ↔ ¬ k < pa_n p) := by decide +kernel
theorem pa_4 : ∀ p, p < 84 → ∀ k, k < 3 → pa_d p k ≠ 7 → pa_d p k < 4 := by decide +kernel
theorem pa_x1 : ∀ p, p < 4 → (nI p + 56) + 448 = nI (pa_g p) := by decide +kernel
theorem pa_x2 : ∀ p, p < 20 → 4 ≤ p → (((nI p - 4) / 4) + (8 * ((nI p - 4) - (nI p - 4) / 4 * 4))) + 448 = nI (pa_g p) := by decide +kernel
theorem pa_x3 : ∀ p, p < 84 → 20 ≤ p → ((((nI p - 20) / 16) + (8 * (((nI p - 20) / 4) - ((nI p - 20) / 4) / 4 * 4))) + (64 * ((nI p - 20) - (nI p - 20) / 4 * 4))) = nI (pa_g p) := by decide +kernel
theorem pa_nl (p : Nat) : 1 ≤ pa_n p ∧ pa_n p ≤ 3 := by
  unfold pa_n
  split
  · omega
  · split <;> omega
def sd_f (w e : Nat) : Prop := (w = 4 ∧ e ≠ 7) ∨ (w ≠ 4 ∧ e = w)
def sd_P (a b c x y z : Nat) : Prop := (a = 5 ∧ x ≠ 7) ∨ (a ≠ 5 ∧ sd_f a x ∧ ((b = 5 ∧ y ≠ 7) ∨ (b ≠ 5 ∧ sd_f b y ∧ ((c = 5 ∧ z ≠ 7) ∨ (c ≠ 5 ∧ sd_f c z)))))
section
variable {q tn sl pc wp yd nd : Int32} {he co ca cb fs fc ts tu ux tl ul tm gc ga gp ss st sf tc tr ow ti fd ft fk fn fh fl fv rs nt le kl uy fp fz au : Nat → Int32}
theorem xl_dg {post : Int32 → Prop} {p : Nat} (hp : p < 84) (h : post (nI (pa_g p))) : wpX_digitsOf post (nI p) := by
  have n4 : ¬ (4 : Int32) = 0 := by decide
  have n16 : ¬ (16 : Int32) = 0 := by decide
  by_cases c1 : p < 4
  · exact br_f (ix_ge 4 rfl c1 (by decide)) (by rw [pa_x1 p c1]; exact h)
  · by_cases c2 : p < 20
    · refine br_t (ix_le 4 rfl (by omega) (by omega)) (br_f (ix_ge 20 rfl c2 (by decide)) (nm_e ⟨n4, n4, ?_⟩))
      rw [pa_x2 p c2 (by omega)]
      exact h
    · refine br_t (ix_le 4 rfl (by omega) (by omega)) (br_t (ix_le 20 rfl (by omega) (by omega)) (nm_e ⟨n16, n4, n4, n4, ?_⟩))
      rw [pa_x3 p hp (by omega)]
      exact h
theorem xs_it {post : Int32 → Prop} {m D k n : Nat} (hm : m < 512) (hD : D < 512) (hk : k < 3)
    (h51 : pt_d m k = 5 → pt_d D k ≠ 7 → post 1) (h50 : pt_d m k = 5 → pt_d D k = 7 → post 0) (h0 : pt_d m k ≠ 5 → ¬ sd_f (pt_d m k) (pt_d D k) → post 0)
    (h1 : pt_d m k ≠ 5 → sd_f (pt_d m k) (pt_d D k) → wX_standsFor_2 post (nI m) (nI D) n (nI (k + 1))) : wX_standsFor_2 post (nI m) (nI D) (n + 1) (nI k) := by
  have q5 := pt_c (m := m) (k := k) 5 5 rfl (by decide)
  have q4 := pt_c (m := m) (k := k) 4 4 rfl (by decide)
  have q7 := pt_c (m := D) (k := k) 7 7 rfl (by decide)
  have qe : nI (pt_d D k) = nI (pt_d m k) ↔ pt_d D k = pt_d m k := nI_eq (by have := pt_lt D k; omega) (by have := pt_lt m k; omega)
  refine br_f (ix_ge 3 rfl hk (by decide)) (nm_r (pt_sh k hk m hm) (nm_r (pt_sh k hk D hD) ?_))
  by_cases c5 : pt_d m k = 5
  · refine br_t (q5.mpr c5) ?_
    by_cases c7 : pt_d D k = 7
    · exact br_t (q7.mpr c7) (h50 c5 c7)
    · exact br_f (fun z => c7 (q7.mp z)) (h51 c5 c7)
  · refine br_f (fun z => c5 (q5.mp z)) ?_
    by_cases c4 : pt_d m k = 4
    · refine br_t (q4.mpr c4) ?_
      by_cases c7 : pt_d D k = 7
      · exact br_t (q7.mpr c7) (br_t rfl (h0 c5 (by unfold sd_f; omega)))
      · exact br_f (fun z => c7 (q7.mp z)) (br_f (by decide) (nm_r (nI_1 k) (h1 c5 (Or.inl ⟨c4, c7⟩))))
    · refine br_f (fun z => c4 (q4.mp z)) ?_
      by_cases ce : pt_d D k = pt_d m k
      · exact br_t (qe.mpr ce) (br_f (by decide) (nm_r (nI_1 k) (h1 c5 (Or.inr ⟨c4, ce⟩))))
      · exact br_f (fun z => ce (qe.mp z)) (br_t rfl (h0 c5 (by unfold sd_f; omega)))
theorem xs_ok {post : Int32 → Prop} {m p : Nat} (hm : m < 512) (hp : p < 84) (h1 : sd_P (pt_d m 0) (pt_d m 1) (pt_d m 2) (pa_d p 0) (pa_d p 1) (pa_d p 2) → post 1) (h0 : ¬ sd_P (pt_d m 0) (pt_d m 1) (pt_d m 2) (pa_d p 0) (pa_d p 1) (pa_d p 2) → post 0) : wpX_standsFor post (nI m) (nI (pa_g p)) := by
  obtain ⟨g0, g1, g2, g3⟩ := pa_gd p hp
  rw [← g1, ← g2, ← g3] at h1 h0
  unfold sd_P at h1 h0
  refine ⟨4, ?_⟩
  refine xs_it (k := 0) hm g0 (by decide) (fun a b => h1 (Or.inl ⟨a, b⟩)) (fun a b => h0 ?_) (fun a b => h0 ?_) (fun a0 b0 => ?_)
  · rintro (z | z)
    · exact z.2 b
    · exact z.1 a
  · rintro (z | z)
    · exact a z.1
    · exact b z.2.1
  refine xs_it (k := 1) hm g0 (by decide) (fun a b => h1 (Or.inr ⟨a0, b0, Or.inl ⟨a, b⟩⟩)) (fun a b => h0 ?_) (fun a b => h0 ?_) (fun a1 b1 => ?_)
  · rintro (z | ⟨_, _, z | z⟩)
    · exact a0 z.1
    · exact z.2 b
    · exact z.1 a
  · rintro (z | ⟨_, _, z | z⟩)
    · exact a0 z.1
    · exact a z.1
    · exact b z.2.1
  refine xs_it (k := 2) hm g0 (by decide) (fun a b => h1 (Or.inr ⟨a0, b0, Or.inr ⟨a1, b1, Or.inl ⟨a, b⟩⟩⟩)) (fun a b => h0 ?_) (fun a b => h0 ?_) (fun a2 b2 => ?_)
  · rintro (z | ⟨_, _, z | ⟨_, _, z | z⟩⟩)
    · exact a0 z.1
    · exact a1 z.1
    · exact z.2 b
    · exact z.1 a
  · rintro (z | ⟨_, _, z | ⟨_, _, z | z⟩⟩)
    · exact a0 z.1
    · exact a1 z.1
    · exact a z.1
    · exact b z.2
  exact br_t (by decide) (h1 (Or.inr ⟨a0, b0, Or.inr ⟨a1, b1, Or.inr ⟨a2, b2⟩⟩⟩))
theorem yl_sgs {post : Int32 → Prop} {p : Nat} (hp : p < 84) (h : post (nI (pa_n p))) : wpY_segments post (q, wp, tn, sl, yd, nd, co, ca, cb, le, he, kl, tu, uy, tl, ul, tm, gc, ga, gp, ss, st, sf, fd, tc, tr, ow, ti, ft, fn, fh, fp, fz, fl, fv, rs, au) (nI p) := by
  unfold pa_n at h
  by_cases c1 : p < 4
  · rw [if_pos c1] at h
    exact br_f (ix_ge 4 rfl c1 (by decide)) h
  · rw [if_neg c1] at h
    by_cases c2 : p < 20
    · rw [if_pos c2] at h
      exact br_t (ix_le 4 rfl (by omega) (by omega)) (br_f (ix_ge 20 rfl c2 (by decide)) h)
    · rw [if_neg c2] at h
      exact br_t (ix_le 4 rfl (by omega) (by omega)) (br_t (ix_le 20 rfl (by omega) (by omega)) h)
theorem yl_sg35 {post : Int32 → Prop} {k : Nat} (hk : k < 100) : ∀ m s : Nat, s < 1000 → m < 100 → post (nI (s / 4 ^ m % 4)) → wY_segment_35 post (nI k) q wp tn sl yd nd co ca cb le he kl tu uy tl ul tm gc ga gp ss st sf fd tc tr ow ti ft fn fh fp fz fl fv rs au (m + 1) (nI s) (nI (k + m)) := by
  have n4 : ¬ (4 : Int32) = 0 := by decide
  intro m
  induction m with
  | zero =>
    intro s hs _ h
    refine br_t (nI_le (by omega) (by omega)) ⟨n4, ?_⟩
    have e : nI s - nI s / 4 * 4 = nI (s % 4) := pk_rem (d := 4) (by omega) (by decide) (by decide)
    rw [e]
    rw [Nat.pow_zero, Nat.div_one] at h
    exact h
  | succ m ih =>
    intro s hs hm h
    have e : nI s / 4 = nI (s / 4) := pk_div (d := 4) (by omega) (by decide) (by decide)
    refine br_f (nI_ge (by omega) (by omega)) ⟨n4, nm_r e (nm_r (e' := nI (k + m)) (pk_m1 (k + m)) (ih (s / 4) (by omega) (by omega) ?_))⟩
    rw [Nat.div_div_eq_div_mul, ← Nat.pow_succ']
    exact h
theorem yl_seg {post : Int32 → Prop} {p k : Nat} (hp : p < 84) (hk : k < pa_n p) (h : post (nI (pa_d p k))) : wpY_segment post (q, wp, tn, sl, yd, nd, co, ca, cb, le, he, kl, tu, uy, tl, ul, tm, gc, ga, gp, ss, st, sf, fd, tc, tr, ow, ti, ft, fn, fh, fp, fz, fl, fv, rs, au) (nI p) (nI k) := by
  have nl := pa_nl p
  have key : ∀ s : Nat, s < 1000 → s = pa_b p → wY_segment_25 post (nI p) (nI k) (nI s) q wp tn sl yd nd co ca cb le he kl tu uy tl ul tm gc ga gp ss st sf fd tc tr ow ti ft fn fh fp fz fl fv rs au := by
    intro s hs es
    subst es
    unfold wY_segment_25
    refine yl_sgs hp (nm_r (e' := nI (k + (pa_n p - 1 - k))) ?_ ⟨pa_n p - 1 - k + 1, yl_sg35 (by omega) _ _ hs (by omega) ?_⟩)
    · rw [ix_p (by omega)]
      exact congrArg nI (by omega)
    · unfold pa_d at h
      rw [if_pos hk] at h
      exact h
  have hb : pa_b p = (if p < 4 then p else if p < 20 then p - 4 else p - 20) := rfl
  by_cases c1 : p < 4
  · rw [if_pos c1] at hb
    exact br_f (ix_ge 4 rfl c1 (by decide)) (key p (by omega) hb.symm)
  · rw [if_neg c1] at hb
    by_cases c2 : p < 20
    · rw [if_pos c2] at hb
      refine br_t (ix_le 4 rfl (by omega) (by omega)) (br_f (ix_ge 20 rfl c2 (by decide)) ?_)
      have e : nI p - 4 = nI (p - 4) := pk_sub (b := 4) (by omega)
      rw [e]
      exact key (p - 4) (by omega) hb.symm
    · rw [if_neg c2] at hb
      refine br_t (ix_le 4 rfl (by omega) (by omega)) (br_t (ix_le 20 rfl (by omega) (by omega)) ?_)
      have e : nI p - 20 = nI (p - 20) := pk_sub (b := 20) (by omega)
      rw [e]
      exact key (p - 20) (by omega) hb.symm
theorem ys_it {post : Int32 → Prop} {m p k n : Nat} (hm : m < 512) (hp : p < 84) (hk : k < 3)
    (h71 : pt_d m k = 7 → pa_n p = k → post 1) (h70 : pt_d m k = 7 → pa_n p ≠ k → post 0) (hn : pt_d m k ≠ 7 → pa_n p ≤ k → post 0)
    (h5 : pt_d m k = 5 → k < pa_n p → post 1) (hq : pt_d m k < 4 → k < pa_n p → pt_d m k ≠ pa_d p k → post 0)
    (h1 : pt_d m k ≠ 7 → pt_d m k ≠ 5 → k < pa_n p → (4 ≤ pt_d m k ∨ pt_d m k = pa_d p k) → wY_stands_9 post (nI m) (nI p) (nI (pa_n p)) q wp tn sl yd nd co ca cb le he kl tu uy tl ul tm gc ga gp ss st sf fd tc tr ow ti ft fn fh fp fz fl fv rs au n (nI (k + 1))) :
    wY_stands_9 post (nI m) (nI p) (nI (pa_n p)) q wp tn sl yd nd co ca cb le he kl tu uy tl ul tm gc ga gp ss st sf fd tc tr ow ti ft fn fh fp fz fl fv rs au (n + 1) (nI k) := by
  have nl := pa_nl p
  have l8 := pt_lt m k
  have q5 := pt_c (m := m) (k := k) 5 5 rfl (by decide)
  have q7 := pt_c (m := m) (k := k) 7 7 rfl (by decide)
  refine br_f (ix_ge 3 rfl hk (by decide)) ?_
  unfold wpY_digit
  rw [pt_sh k hk m hm]
  by_cases c7 : pt_d m k = 7
  · refine br_t (q7.mpr c7) ?_
    by_cases c : pa_n p = k
    · exact br_t (by rw [c]) (h71 c7 c)
    · exact br_f (fun z => c ((nI_eq (by omega) (by omega)).mp z)) (h70 c7 c)
  · refine br_f (fun z => c7 (q7.mp z)) ?_
    by_cases c : k < pa_n p
    · refine br_t (nI_lt c (by omega)) ?_
      by_cases c5 : pt_d m k = 5
      · exact br_t (q5.mpr c5) (h5 c5 c)
      · refine br_f (fun z => c5 (q5.mp z)) ?_
        by_cases c4 : 4 ≤ pt_d m k
        · exact br_t (ix_le 4 rfl c4 (by omega)) (nm_r (nI_1 k) (h1 c7 c5 c (Or.inl c4)))
        · refine br_f (ix_ge 4 rfl (by omega) (by decide)) (yl_seg hp c ?_)
          have pd4 : pa_d p k < 4 := pa_4 p hp k hk (fun z => (pa_7 p hp k hk).mp z c)
          by_cases ce : pt_d m k = pa_d p k
          · exact br_t (by rw [ce]) (nm_r (nI_1 k) (h1 c7 c5 c (Or.inr ce)))
          · exact br_f (fun z => ce ((nI_eq (by omega) (by omega)).mp z)) (hq (by omega) c ce)
    · exact br_f (nI_nlt (by omega) (by omega)) (hn c7 (by omega))
theorem ys_ok {post : Int32 → Prop} {m p : Nat} (hm : m < 512) (hp : p < 84) (hv : pt_v (pt_d m 0) (pt_d m 1) (pt_d m 2)) (h1 : sd_P (pt_d m 0) (pt_d m 1) (pt_d m 2) (pa_d p 0) (pa_d p 1) (pa_d p 2) → post 1) (h0 : ¬ sd_P (pt_d m 0) (pt_d m 1) (pt_d m 2) (pa_d p 0) (pa_d p 1) (pa_d p 2) → post 0) : wpY_stands post (q, wp, tn, sl, yd, nd, co, ca, cb, le, he, kl, tu, uy, tl, ul, tm, gc, ga, gp, ss, st, sf, fd, tc, tr, ow, ti, ft, fn, fh, fp, fz, fl, fv, rs, au) (nI m) (nI p) := by
  have nl := pa_nl p
  have l0 := pt_lt m 0
  have l1 := pt_lt m 1
  have l2 := pt_lt m 2
  have s0 := pa_7 p hp 0 (by decide)
  have s1 := pa_7 p hp 1 (by decide)
  have s2 := pa_7 p hp 2 (by decide)
  have f0 := pa_4 p hp 0 (by decide)
  have f1 := pa_4 p hp 1 (by decide)
  have f2 := pa_4 p hp 2 (by decide)
  unfold pt_v at hv
  unfold sd_P sd_f at h1 h0
  unfold wpY_stands; dsimp only
  refine yl_sgs hp ⟨4, ?_⟩
  refine ys_it (k := 0) hm hp (by decide) (fun a b => h1 (by omega)) (fun a b => h0 (by omega)) (fun a b => h0 (by omega)) (fun a b => h1 (by omega)) (fun a b c => h0 (by omega)) (fun a0 b0 c0 d0 => ?_)
  refine ys_it (k := 1) hm hp (by decide) (fun a b => h1 (by omega)) (fun a b => h0 (by omega)) (fun a b => h0 (by omega)) (fun a b => h1 (by omega)) (fun a b c => h0 (by omega)) (fun a1 b1 c1 d1 => ?_)
  refine ys_it (k := 2) hm hp (by decide) (fun a b => h1 (by omega)) (fun a b => h0 (by omega)) (fun a b => h0 (by omega)) (fun a b => h1 (by omega)) (fun a b c => h0 (by omega)) (fun a2 b2 c2 d2 => ?_)
  refine br_t (by decide) ?_
  exact br_t (by rw [show pa_n p = 3 by omega]; rfl) (h1 (by omega))
theorem ml_loop {t g a p : Nat} (ht : t < 4) (hg : g ≤ 6) (eg : gc t = nI g) (hp : p < 84) (hv : ∀ j, j < g → pt_ok (gp (6 * t + j))) : ∀ d i : Nat, i + d = 6 * t + g → 6 * t ≤ i → ∃ r : Int32,
    (∀ post : Int32 → Prop, post r → wX_may_10 post (nI t) (nI a) (nI (pa_g p)) (nI (6 * t)) q tn sl pc wp he co ca cb fs fc ts tu ux tl ul tm gc ga gp ss st sf tc tr ow ti fd ft fk fn fh fl fv rs nt (d + 1) (nI i)) ∧ (∀ post : Int32 → Prop, post r → wY_may_6 post (nI t) (nI a) (nI p) q wp tn sl yd nd co ca cb le he kl tu uy tl ul tm gc ga gp ss st sf fd tc tr ow ti ft fn fh fp fz fl fv rs au (d + 1) (nI i)) := by
  have et : (nI t).toNatClampNeg = t := nI_clamp (by omega)
  have vt : vp_in (nI t) 4 := vp_in_nI ht (by decide)
  have eX : nI (6 * t) + gc (nI t).toNatClampNeg = nI (6 * t + g) := by rw [et, eg, nI_add]
  have eY : 6 * nI t + gc (nI t).toNatClampNeg = nI (6 * t + g) := by rw [et, eg]; exact ix_l 6 rfl t g
  intro d
  induction d with
  | zero =>
    intro i hi h6
    have l : nI (6 * t + g) ≤ nI i := nI_le (by omega) (by omega)
    exact ⟨0, fun _ h => ⟨vt, br_t (by rw [eX]; exact l) h⟩, fun _ h => ⟨vt, br_t (by rw [eY]; exact l) h⟩⟩
  | succ d ih =>
    intro i hi h6
    obtain ⟨r, hx, hy⟩ := ih (i + 1) (by omega) (by omega)
    have l : ¬ nI (6 * t + g) ≤ nI i := nI_ge (by omega) (by omega)
    have ei : (nI i).toNatClampNeg = i := nI_clamp (by omega)
    have vi : vp_in (nI i) 24 := vp_in_nI (by omega) (by decide)
    by_cases ca : ((ga (nI i).toNatClampNeg) >>> (nI a &&& 31)) &&& 1 = 1
    · obtain ⟨m, hm, em, hpv⟩ := hv (i - 6 * t) (by omega)
      rw [show 6 * t + (i - 6 * t) = i by omega] at em
      by_cases cs : sd_P (pt_d m 0) (pt_d m 1) (pt_d m 2) (pa_d p 0) (pa_d p 1) (pa_d p 2)
      · refine ⟨1, fun post h => ⟨vt, br_f (by rw [eX]; exact l) ⟨vi, br_t ca (br_f (by decide) ⟨vi, ?_⟩)⟩⟩, fun post h => ⟨vt, br_f (by rw [eY]; exact l) ⟨vi, br_t ca ⟨vi, ?_⟩⟩⟩⟩
        · rw [ei, em]
          exact xs_ok hm hp (fun _ => br_f (by decide) h) (fun z => absurd cs z)
        · rw [ei, em]
          exact ys_ok hm hp hpv (fun _ => br_f (by decide) h) (fun z => absurd cs z)
      · refine ⟨r, fun post h => ⟨vt, br_f (by rw [eX]; exact l) ⟨vi, br_t ca (br_f (by decide) ⟨vi, ?_⟩)⟩⟩, fun post h => ⟨vt, br_f (by rw [eY]; exact l) ⟨vi, br_t ca ⟨vi, ?_⟩⟩⟩⟩
        · rw [ei, em]
          exact xs_ok hm hp (fun z => absurd z cs) (fun _ => br_t rfl (nm_r (nI_1 i) (hx post h)))
        · rw [ei, em]
          exact ys_ok hm hp hpv (fun z => absurd z cs) (fun _ => br_t rfl (nm_r (nI_1 i) (hy post h)))
    · exact ⟨r, fun post h => ⟨vt, br_f (by rw [eX]; exact l) ⟨vi, br_f ca (br_t rfl (nm_r (nI_1 i) (hx post h)))⟩⟩, fun post h => ⟨vt, br_f (by rw [eY]; exact l) ⟨vi, br_f ca (nm_r (nI_1 i) (hy post h))⟩⟩⟩
theorem ml_all {t a p : Nat} (ht : t < 4) (hG : rl_g gc gp) (hp : p < 84) : ∃ r : Int32,
    (∀ post : Int32 → Prop, post r → wpX_may post (q, tn, sl, pc, wp, he, co, ca, cb, fs, fc, ts, tu, ux, tl, ul, tm, gc, ga, gp, ss, st, sf, tc, tr, ow, ti, fd, ft, fk, fn, fh, fl, fv, rs, nt) (nI t) (nI a) (nI (pa_g p))) ∧ (∀ post : Int32 → Prop, post r → wpY_may post (q, wp, tn, sl, yd, nd, co, ca, cb, le, he, kl, tu, uy, tl, ul, tm, gc, ga, gp, ss, st, sf, fd, tc, tr, ow, ti, ft, fn, fh, fp, fz, fl, fv, rs, au) (nI t) (nI a) (nI p)) := by
  obtain ⟨g, hg, eg, hv⟩ := hG t ht
  obtain ⟨r, hx, hy⟩ := ml_loop (q := q) (tn := tn) (sl := sl) (pc := pc) (wp := wp) (yd := yd) (nd := nd) (he := he) (co := co) (ca := ca) (cb := cb) (fs := fs) (fc := fc) (ts := ts) (tu := tu) (ux := ux) (tl := tl) (ul := ul) (tm := tm) (gc := gc) (ga := ga) (gp := gp) (ss := ss) (st := st) (sf := sf) (tc := tc) (tr := tr) (ow := ow) (ti := ti) (fd := fd) (ft := ft) (fk := fk) (fn := fn) (fh := fh) (fl := fl) (fv := fv) (rs := rs) (nt := nt) (le := le) (kl := kl) (uy := uy) (fp := fp) (fz := fz) (au := au) (a := a) ht hg eg hp hv g (6 * t) rfl (Nat.le_refl _)
  exact ⟨r, fun post h => nm_r (ix_m 6 rfl t) ⟨_, hx post h⟩, fun post h => nm_r (ix_n 6 rfl t) ⟨_, hy post h⟩⟩
end
