/-- path q lies behind path p: by X's two steps up, by Y's segments -/
def bh_X (p q : Nat) : Bool := decide (4 ≤ q ∧ q < 20 ∧ (q - 4) / 4 = p) || decide (20 ≤ q ∧ (4 + (q - 20) / 4 = p ∨ (q - 20) / 4 / 4 = p))
def bh_Y (p q : Nat) : Bool := decide (pa_n p < pa_n q) && decide (pa_d q 0 = pa_d p 0) && (decide (pa_n p ≤ 1) || decide (pa_d q 1 = pa_d p 1)) && (decide (pa_n p ≤ 2) || decide (pa_d q 2 = pa_d p 2))
theorem pa_t1 : ∀ p, p < 4 → pa_n p = 1 ∧ pa_d p 0 = p ∧ pa_d p 1 = 7 ∧ pa_d p 2 = 7 := by decide +kernel
theorem pa_t2 : ∀ p, p < 20 → 4 ≤ p → pa_n p = 2 ∧ pa_d p 0 = (p - 4) / 4 ∧ pa_d p 1 = (p - 4) % 4 ∧ pa_d p 2 = 7 := by decide +kernel
theorem pa_t3 : ∀ p, p < 84 → 20 ≤ p → pa_n p = 3 ∧ pa_d p 0 = (p - 20) / 4 / 4 ∧ pa_d p 1 = (p - 20) / 4 % 4 ∧ pa_d p 2 = (p - 20) % 4 := by decide +kernel
theorem bh_e (p : Nat) (hp : p < 84) (q : Nat) (hq : q < 84) : bh_X p q = bh_Y p q := by
  rw [Bool.eq_iff_iff]
  simp only [bh_X, bh_Y, Bool.or_eq_true, Bool.and_eq_true, decide_eq_true_eq]
  have p1 := pa_t1 p
  have p2 := pa_t2 p
  have p3 := pa_t3 p hp
  have q1 := pa_t1 q
  have q2 := pa_t2 q
  have q3 := pa_t3 q hq
  have dp : (p < 4) ∨ (4 ≤ p ∧ p < 20) ∨ 20 ≤ p := by omega
  have dq : (q < 4) ∨ (4 ≤ q ∧ q < 20) ∨ 20 ≤ q := by omega
  rcases dp with cp | ⟨cp, cp'⟩ | cp
  · obtain ⟨a1, a2, a3, a4⟩ := p1 cp
    rcases dq with cq | ⟨cq, cq'⟩ | cq
    · obtain ⟨b1, b2, b3, b4⟩ := q1 cq
      rw [a1, a2, a3, a4, b1, b2, b3, b4]; omega
    · obtain ⟨b1, b2, b3, b4⟩ := q2 cq' cq
      rw [a1, a2, a3, a4, b1, b2, b3, b4]; omega
    · obtain ⟨b1, b2, b3, b4⟩ := q3 cq
      rw [a1, a2, a3, a4, b1, b2, b3, b4]; omega
  · obtain ⟨a1, a2, a3, a4⟩ := p2 cp' cp
    rcases dq with cq | ⟨cq, cq'⟩ | cq
    · obtain ⟨b1, b2, b3, b4⟩ := q1 cq
      rw [a1, a2, a3, a4, b1, b2, b3, b4]; omega
    · obtain ⟨b1, b2, b3, b4⟩ := q2 cq' cq
      rw [a1, a2, a3, a4, b1, b2, b3, b4]; omega
    · obtain ⟨b1, b2, b3, b4⟩ := q3 cq
      rw [a1, a2, a3, a4, b1, b2, b3, b4]; omega
  · obtain ⟨a1, a2, a3, a4⟩ := p3 cp
    rcases dq with cq | ⟨cq, cq'⟩ | cq
    · obtain ⟨b1, b2, b3, b4⟩ := q1 cq
      rw [a1, a2, a3, a4, b1, b2, b3, b4]; omega
    · obtain ⟨b1, b2, b3, b4⟩ := q2 cq' cq
      rw [a1, a2, a3, a4, b1, b2, b3, b4]; omega
    · obtain ⟨b1, b2, b3, b4⟩ := q3 cq
      rw [a1, a2, a3, a4, b1, b2, b3, b4]; omega
section
variable {q tn sl pc wp yd nd : Int32} {he co ca cb fs fc ts tu ux tl ul tm gc ga gp ss st sf tc tr ow ti fd ft fk fn fh fl fv rs nt le kl uy fp fz au : Nat → Int32}
theorem xl_ab1 {post : Int32 → Prop} {x : Int32} (hx : ¬ (4 : Int32) ≤ x) (h : post (-1)) : wpX_pathAbove post x := br_f hx h
theorem xl_ab2 {post : Int32 → Prop} {b : Nat} (h1 : 4 ≤ b) (h2 : b < 20) (h : post (nI ((b - 4) / 4))) : wpX_pathAbove post (nI b) := by
  refine br_t (ix_le 4 rfl h1 (by omega)) (br_f (ix_ge 20 rfl h2 (by decide)) ⟨by decide, ?_⟩)
  have e : (nI b - 4) / 4 = nI ((b - 4) / 4) := by
    have e1 : nI b - 4 = nI (b - 4) := pk_sub (b := 4) h1
    rw [e1]
    exact pk_div (d := 4) (by omega) (by decide) (by decide)
  rw [e]
  exact h
theorem xl_ab3 {post : Int32 → Prop} {b : Nat} (h1 : 20 ≤ b) (h2 : b < 84) (h : post (nI (4 + (b - 20) / 4))) : wpX_pathAbove post (nI b) := by
  refine br_t (ix_le 4 rfl (by omega) (by omega)) (br_t (ix_le 20 rfl h1 (by omega)) ⟨by decide, ?_⟩)
  have e : 4 + (nI b - 20) / 4 = nI (4 + (b - 20) / 4) := by
    have e1 : nI b - 20 = nI (b - 20) := pk_sub (b := 20) h1
    have e2 : nI (b - 20) / 4 = nI ((b - 20) / 4) := pk_div (d := 4) (by omega) (by decide) (by decide)
    rw [e1, e2]
    exact ix_a 4 rfl _
  rw [e]
  exact h
/-- one path of X's count -/
theorem xb_one {post : Int32 → Prop} {J : Int32 → Int32 → Prop} {p b : Nat} {c : Int32} (hp : p < 84) (hq : b < 84) (h1 : bh_X p b = true → wX_countBehind_36 post J (nI p) c (nI b) 1 q tn sl pc wp he co ca cb fs fc ts tu ux tl ul tm gc ga gp ss st sf tc tr ow ti fd ft fk fn fh fl fv rs nt) (h0 : bh_X p b = false → wX_countBehind_36 post J (nI p) c (nI b) 0 q tn sl pc wp he co ca cb fs fc ts tu ux tl ul tm gc ga gp ss st sf tc tr ow ti fd ft fk fn fh fl fv rs nt) :
    wpX_pathAbove (fun r_2 => (((r_2 = nI p → (wX_countBehind_31 post J (nI p) c (nI b) q tn sl pc wp he co ca cb fs fc ts tu ux tl ul tm gc ga gp ss st sf tc tr ow ti fd ft fk fn fh fl fv rs nt)) ∧ (¬ r_2 = nI p → (wpX_pathAbove (fun r_11 => (((r_11 = nI p → (wX_countBehind_31 post J (nI p) c (nI b) q tn sl pc wp he co ca cb fs fc ts tu ux tl ul tm gc ga gp ss st sf tc tr ow ti fd ft fk fn fh fl fv rs nt)) ∧ (¬ r_11 = nI p → (wX_countBehind_36 post J (nI p) c (nI b) 0 q tn sl pc wp he co ca cb fs fc ts tu ux tl ul tm gc ga gp ss st sf tc tr ow ti fd ft fk fn fh fl fv rs nt))))) r_2))))) (nI b) := by
  have n1 : ¬ (-1 : Int32) = nI p := fun z => ix_neg p (by omega) z.symm
  by_cases c1 : b < 4
  · refine xl_ab1 (ix_ge 4 rfl c1 (by decide)) (br_f n1 (xl_ab1 (by decide) (br_f n1 (h0 ?_))))
    simp only [bh_X, Bool.or_eq_false_iff, decide_eq_false_iff_not]
    omega
  · by_cases c2 : b < 20
    · refine xl_ab2 (by omega) c2 ?_
      by_cases ce : (b - 4) / 4 = p
      · refine br_t (by rw [ce]) (h1 ?_)
        simp only [bh_X, Bool.or_eq_true, decide_eq_true_eq]
        omega
      · refine br_f (fun z => ce ((nI_eq (by omega) (by omega)).mp z)) (xl_ab1 (ix_ge 4 rfl (by omega) (by decide)) (br_f n1 (h0 ?_)))
        simp only [bh_X, Bool.or_eq_false_iff, decide_eq_false_iff_not]
        omega
    · refine xl_ab3 (by omega) hq ?_
      by_cases ce : 4 + (b - 20) / 4 = p
      · refine br_t (by rw [ce]) (h1 ?_)
        simp only [bh_X, Bool.or_eq_true, decide_eq_true_eq]
        omega
      · refine br_f (fun z => ce ((nI_eq (by omega) (by omega)).mp z)) (xl_ab2 (by omega) (by omega) ?_)
        rw [show (4 + (b - 20) / 4 - 4) / 4 = (b - 20) / 4 / 4 by omega]
        by_cases cf : (b - 20) / 4 / 4 = p
        · refine br_t (by rw [cf]) (h1 ?_)
          simp only [bh_X, Bool.or_eq_true, decide_eq_true_eq]
          omega
        · refine br_f (fun z => cf ((nI_eq (by omega) (by omega)).mp z)) (h0 ?_)
          simp only [bh_X, Bool.or_eq_false_iff, decide_eq_false_iff_not]
          omega
theorem yb_0 {post : Int32 → Prop} {J : Int32 → Int32 → Prop} {p b n j : Nat} {c : Int32} (hp : p < 84) (h : wY_behind_87 post J (nI p) c (nI b) 0 q wp tn sl yd nd co ca cb le he kl tu uy tl ul tm gc ga gp ss st sf fd tc tr ow ti ft fn fh fp fz fl fv rs au) : wY_behind_42 post J (nI p) c (nI b) q wp tn sl yd nd co ca cb le he kl tu uy tl ul tm gc ga gp ss st sf fd tc tr ow ti ft fn fh fp fz fl fv rs au (n + 1) 0 (nI j) := by
  rw [wY_behind_42]
  refine yl_sgs hp ?_
  by_cases cl : nI (pa_n p) ≤ nI j
  · exact br_t cl h
  · exact br_f cl (br_t rfl h)
theorem yb_1 {post : Int32 → Prop} {J : Int32 → Int32 → Prop} {p b n j : Nat} {c : Int32} (hp : p < 84) (hq : b < 84) (hpq : pa_n p < pa_n b) (hj : j < 3)
    (hE : pa_n p ≤ j → wY_behind_87 post J (nI p) c (nI b) 1 q wp tn sl yd nd co ca cb le he kl tu uy tl ul tm gc ga gp ss st sf fd tc tr ow ti ft fn fh fp fz fl fv rs au) (h0 : j < pa_n p → pa_d b j ≠ pa_d p j → wY_behind_87 post J (nI p) c (nI b) 0 q wp tn sl yd nd co ca cb le he kl tu uy tl ul tm gc ga gp ss st sf fd tc tr ow ti ft fn fh fp fz fl fv rs au) (h1 : j < pa_n p → pa_d b j = pa_d p j → wY_behind_42 post J (nI p) c (nI b) q wp tn sl yd nd co ca cb le he kl tu uy tl ul tm gc ga gp ss st sf fd tc tr ow ti ft fn fh fp fz fl fv rs au (n + 1) 1 (nI (j + 1))) :
    wY_behind_42 post J (nI p) c (nI b) q wp tn sl yd nd co ca cb le he kl tu uy tl ul tm gc ga gp ss st sf fd tc tr ow ti ft fn fh fp fz fl fv rs au (n + 2) 1 (nI j) := by
  have nl := pa_nl p
  have nq := pa_nl b
  rw [wY_behind_42]
  refine yl_sgs hp ?_
  by_cases cl : pa_n p ≤ j
  · exact br_t (nI_le cl (by omega)) (hE cl)
  · have fp4 : pa_d p j < 4 := pa_4 p hp j hj (fun z => (pa_7 p hp j hj).mp z (by omega))
    have fq4 : pa_d b j < 4 := pa_4 b hq j hj (fun z => (pa_7 b hq j hj).mp z (by omega))
    refine br_f (nI_ge (by omega) (by omega)) (br_f (by decide) (yl_seg hq (by omega) (yl_seg hp (by omega) ?_)))
    by_cases ce : pa_d b j = pa_d p j
    · exact br_t (by rw [ce]) (nm_r (nI_1 j) (h1 (by omega) ce))
    · exact br_f (fun z => ce ((nI_eq (by omega) (by omega)).mp z)) (nm_r (nI_1 j) (yb_0 hp (h0 (by omega) ce)))
theorem yb_one {post : Int32 → Prop} {J : Int32 → Int32 → Prop} {p b : Nat} {c : Int32} (hp : p < 84) (hq : b < 84) (hpq : pa_n p < pa_n b) (h1 : bh_Y p b = true → wY_behind_87 post J (nI p) c (nI b) 1 q wp tn sl yd nd co ca cb le he kl tu uy tl ul tm gc ga gp ss st sf fd tc tr ow ti ft fn fh fp fz fl fv rs au) (h0 : bh_Y p b = false → wY_behind_87 post J (nI p) c (nI b) 0 q wp tn sl yd nd co ca cb le he kl tu uy tl ul tm gc ga gp ss st sf fd tc tr ow ti ft fn fh fp fz fl fv rs au) :
    wY_behind_42 post J (nI p) c (nI b) q wp tn sl yd nd co ca cb le he kl tu uy tl ul tm gc ga gp ss st sf fd tc tr ow ti ft fn fh fp fz fl fv rs au 4 1 0 := by
  have nl := pa_nl p
  have nq := pa_nl b
  have T : (pa_d b 0 = pa_d p 0 ∧ (pa_n p ≤ 1 ∨ pa_d b 1 = pa_d p 1) ∧ (pa_n p ≤ 2 ∨ pa_d b 2 = pa_d p 2)) → bh_Y p b = true := by
    intro z
    simp only [bh_Y, Bool.and_eq_true, Bool.or_eq_true, decide_eq_true_eq]
    exact ⟨⟨⟨hpq, z.1⟩, z.2.1⟩, z.2.2⟩
  have F : ¬ (pa_d b 0 = pa_d p 0 ∧ (pa_n p ≤ 1 ∨ pa_d b 1 = pa_d p 1) ∧ (pa_n p ≤ 2 ∨ pa_d b 2 = pa_d p 2)) → bh_Y p b = false := by
    intro z
    cases hb : bh_Y p b with
    | false => rfl
    | true =>
      simp only [bh_Y, Bool.and_eq_true, Bool.or_eq_true, decide_eq_true_eq] at hb
      exact absurd ⟨hb.1.1.2, hb.1.2, hb.2⟩ z
  refine yb_1 (j := 0) hp hq hpq (by decide) (fun a => absurd a (by omega)) (fun a b' => h0 (F (fun z => b' z.1))) (fun a0 b0 => ?_)
  refine yb_1 (j := 1) hp hq hpq (by decide) (fun a => h1 (T ⟨b0, Or.inl a, Or.inl (by omega)⟩)) (fun a b' => h0 (F (fun z => b' (z.2.1.resolve_left (by omega))))) (fun a1 b1 => ?_)
  refine yb_1 (j := 2) hp hq hpq (by decide) (fun a => h1 (T ⟨b0, Or.inr b1, Or.inl a⟩)) (fun a b' => h0 (F (fun z => b' (z.2.2.resolve_left (by omega))))) (fun a2 b2 => ?_)
  exact absurd hpq (by omega)
theorem cl_loop {p : Nat} (hp : p < 84) : ∀ d i : Nat, i + d = 84 → ∀ c : Int32, ∃ r : Int32,
    (∀ post : Int32 → Prop, post r → wX_countBehind_4 post (nI p) q tn sl pc wp he co ca cb fs fc ts tu ux tl ul tm gc ga gp ss st sf tc tr ow ti fd ft fk fn fh fl fv rs nt (d + 1) c (nI i)) ∧ (∀ post : Int32 → Prop, post r → wY_behind_4 post (nI p) q wp tn sl yd nd co ca cb le he kl tu uy tl ul tm gc ga gp ss st sf fd tc tr ow ti ft fn fh fp fz fl fv rs au (d + 1) c (nI i)) := by
  have nl := pa_nl p
  intro d
  induction d with
  | zero =>
    intro i hi c
    have : i = 84 := by omega
    subst this
    exact ⟨c, fun _ h => br_t (by decide) h, fun _ h => br_t (by decide) h⟩
  | succ d ih =>
    intro i hi c
    have nq := pa_nl i
    have n : ¬ (84 : Int32) ≤ nI i := ix_ge 84 rfl (by omega) (by decide)
    have ei : (nI i).toNatClampNeg = i := nI_clamp (by omega)
    have vi : vp_in (nI i) 84 := vp_in_nI (by omega) (by decide)
    have be := bh_e p hp i (by omega)
    obtain ⟨r0, x0, y0⟩ := ih (i + 1) (by omega) c
    obtain ⟨r1, x1, y1⟩ := ih (i + 1) (by omega) (c + 1)
    have xn : ∀ post : Int32 → Prop, post r0 → (bh_X p i = true → rs i = 0) → wX_countBehind_4 post (nI p) q tn sl pc wp he co ca cb fs fc ts tu ux tl ul tm gc ga gp ss st sf tc tr ow ti fd ft fk fn fh fl fv rs nt (d + 1 + 1) c (nI i) := by
      intro post h hz
      refine br_f n (xb_one hp (by omega) (fun z => br_f (by decide) ⟨vi, br_t (by rw [ei]; exact hz z) (nm_r (nI_1 i) (x0 post h))⟩) (fun _ => br_t rfl (nm_r (nI_1 i) (x0 post h))))
    by_cases cz : rs i = 0
    · refine ⟨r0, fun post h => xn post h (fun _ => cz), fun post h => br_f n ?_⟩
      refine yl_sgs (by omega) (yl_sgs hp ?_)
      have k0 : ∀ m : Nat, wY_behind_42 post (wY_behind_4 post (nI p) q wp tn sl yd nd co ca cb le he kl tu uy tl ul tm gc ga gp ss st sf fd tc tr ow ti ft fn fh fp fz fl fv rs au (d + 1)) (nI p) c (nI i) q wp tn sl yd nd co ca cb le he kl tu uy tl ul tm gc ga gp ss st sf fd tc tr ow ti ft fn fh fp fz fl fv rs au (m + 1) 0 (nI 0) := fun m => yb_0 hp (br_t rfl (nm_r (nI_1 i) (y0 post h)))
      by_cases cl : nI (pa_n i) ≤ nI (pa_n p)
      · exact br_t cl ⟨1, k0 0⟩
      · exact br_f cl ⟨vi, br_t (by rw [ei]; exact cz) ⟨1, k0 0⟩⟩
    · cases hb : bh_X p i with
      | false =>
        refine ⟨r0, fun post h => xn post h (fun z => by rw [hb] at z; exact absurd z (by decide)), fun post h => br_f n ?_⟩
        refine yl_sgs (by omega) (yl_sgs hp ?_)
        have y87 : wY_behind_87 post (wY_behind_4 post (nI p) q wp tn sl yd nd co ca cb le he kl tu uy tl ul tm gc ga gp ss st sf fd tc tr ow ti ft fn fh fp fz fl fv rs au (d + 1)) (nI p) c (nI i) 0 q wp tn sl yd nd co ca cb le he kl tu uy tl ul tm gc ga gp ss st sf fd tc tr ow ti ft fn fh fp fz fl fv rs au := br_t rfl (nm_r (nI_1 i) (y0 post h))
        by_cases cl : pa_n i ≤ pa_n p
        · exact br_t (nI_le cl (by omega)) ⟨1, yb_0 (j := 0) hp y87⟩
        · refine br_f (nI_ge (by omega) (by omega)) ⟨vi, br_f (by rw [ei]; exact cz) ⟨4, yb_one hp (by omega) (by omega) (fun z => ?_) (fun _ => y87)⟩⟩
          rw [← be, hb] at z
          exact absurd z (by decide)
      | true =>
        rw [be] at hb
        have hpq : pa_n p < pa_n i := by
          simp only [bh_Y, Bool.and_eq_true, decide_eq_true_eq] at hb
          exact hb.1.1.1
        refine ⟨r1, fun post h => br_f n (xb_one hp (by omega) (fun _ => br_f (by decide) ⟨vi, br_f (by rw [ei]; exact cz) (nm_e (nm_r (nI_1 i) (x1 post h)))⟩) (fun z => ?_)), fun post h => br_f n ?_⟩
        · rw [be, hb] at z
          exact absurd z (by decide)
        · refine yl_sgs (by omega) (yl_sgs hp ?_)
          refine br_f (nI_ge hpq (by omega)) ⟨vi, br_f (by rw [ei]; exact cz) ⟨4, yb_one hp (by omega) hpq (fun _ => br_f (by decide) (nm_e (nm_r (nI_1 i) (y1 post h)))) (fun z => ?_)⟩⟩
          rw [hb] at z
          exact absurd z (by decide)
theorem cl_all {p : Nat} (hp : p < 84) : ∃ r : Int32, (∀ post : Int32 → Prop, post r → wpX_countBehind post (q, tn, sl, pc, wp, he, co, ca, cb, fs, fc, ts, tu, ux, tl, ul, tm, gc, ga, gp, ss, st, sf, tc, tr, ow, ti, fd, ft, fk, fn, fh, fl, fv, rs, nt) (nI p)) ∧ (∀ post : Int32 → Prop, post r → wpY_behind post (q, wp, tn, sl, yd, nd, co, ca, cb, le, he, kl, tu, uy, tl, ul, tm, gc, ga, gp, ss, st, sf, fd, tc, tr, ow, ti, ft, fn, fh, fp, fz, fl, fv, rs, au) (nI p)) := by
  obtain ⟨r, h1, h2⟩ := cl_loop (q := q) (tn := tn) (sl := sl) (pc := pc) (wp := wp) (yd := yd) (nd := nd) (he := he) (co := co) (ca := ca) (cb := cb) (fs := fs) (fc := fc) (ts := ts) (tu := tu) (ux := ux) (tl := tl) (ul := ul) (tm := tm) (gc := gc) (ga := ga) (gp := gp) (ss := ss) (st := st) (sf := sf) (tc := tc) (tr := tr) (ow := ow) (ti := ti) (fd := fd) (ft := ft) (fk := fk) (fn := fn) (fh := fh) (fl := fl) (fv := fv) (rs := rs) (nt := nt) (le := le) (kl := kl) (uy := uy) (fp := fp) (fz := fz) (au := au) hp 84 0 rfl 0
  exact ⟨r, fun post h => ⟨85, h1 post h⟩, fun post h => ⟨85, h2 post h⟩⟩
end
