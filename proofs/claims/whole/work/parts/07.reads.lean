def rl_d (tc fd : Nat → Int32) : Prop := ∀ k, k < 6 → ∃ d : Nat, d ≤ 6 ∧ fd k = nI d ∧ (tc k = -1 ↔ 0 < d)
theorem rl_td {H : Nat → Nat → Nat → Prop} {ft fn fh fz tc fd : Nat → Int32} (h : rl_t H ft fn fh fz tc fd) : rl_d tc fd := by
  intro k hk
  obtain ⟨d, h1, h2, h3, _⟩ := h k hk
  exact ⟨d, h1, h2, h3⟩
def fc_P (fd ft : Nat → Int32) (p : Int32) (x : Nat) : Prop := nI (x % 6) < fd (x / 6) ∧ ft x = p
noncomputable def fr_c (fd ft : Nat → Int32) (p : Int32) : Nat → Nat
  | 0 => 0
  | x + 1 => fr_c fd ft p x + @ite Nat (fc_P fd ft p x) (Classical.propDecidable _) 1 0
theorem fr_ct {fd ft : Nat → Int32} {p : Int32} {x : Nat} (h : fc_P fd ft p x) : fr_c fd ft p (x + 1) = fr_c fd ft p x + 1 := by
  rw [fr_c, if_pos h]
theorem fr_cf {fd ft : Nat → Int32} {p : Int32} {x : Nat} (h : ¬ fc_P fd ft p x) : fr_c fd ft p (x + 1) = fr_c fd ft p x := by
  rw [fr_c, if_neg h]; rfl
theorem fr_cl (fd ft : Nat → Int32) (p : Int32) : ∀ x, fr_c fd ft p x ≤ x
  | 0 => Nat.le_refl 0
  | x + 1 => by
    have := fr_cl fd ft p x
    by_cases c : fc_P fd ft p x
    · rw [fr_ct c]; omega
    · rw [fr_cf c]; omega
theorem fr_c0 (fd ft : Nat → Int32) (p : Int32) : ∀ x, fr_c fd ft p x = 0 ↔ ∀ y, y < x → ¬ fc_P fd ft p y
  | 0 => ⟨fun _ y hy => absurd hy (Nat.not_lt_zero y), fun _ => rfl⟩
  | x + 1 => by
    have ih := fr_c0 fd ft p x
    by_cases c : fc_P fd ft p x
    · rw [fr_ct c]
      exact ⟨fun z => by omega, fun z => absurd c (z x (by omega))⟩
    · rw [fr_cf c, ih]
      refine ⟨fun z y hy => ?_, fun z y hy => z y (by omega)⟩
      by_cases cy : y = x
      · subst cy; exact c
      · exact z y (by omega)
theorem fr_nf {tc fd ft : Nat → Int32} (hd : rl_d tc fd) (t : Nat) : fr_c fd ft (nI t) 36 = 0 ↔ nf_t fd ft t := by
  rw [fr_c0]
  constructor
  · intro z k hk d hd6 ed j hj e
    refine z (6 * k + j) (by omega) ⟨?_, e⟩
    rw [show (6 * k + j) / 6 = k by omega, show (6 * k + j) % 6 = j by omega, ed]
    exact nI_lt hj (by omega)
  · intro z x hx hP
    obtain ⟨d, h1, h2, h3⟩ := hd (x / 6) (by omega)
    have hl := hP.1
    rw [h2, nI_ltI (by omega) (by omega)] at hl
    refine z (x / 6) (by omega) d h1 h2 (x % 6) hl ?_
    rw [show 6 * (x / 6) + x % 6 = x by omega]
    exact hP.2
section
variable {q tn sl pc wp yd nd : Int32} {he co ca cb fs fc ts tu ux tl ul tm gc ga gp ss st sf tc tr ow ti fd ft fk fn fh fl fv rs nt le kl uy fp fz au : Nat → Int32}
theorem xl_fr20 {post : Int32 → Prop} {J : Int32 → Int32 → Prop} {p : Int32} {k d : Nat} (hk : k < 6) (hd : d ≤ 6) (ed : fd k = nI d) (hJ : J (nI (fr_c fd ft p (6 * k + 6))) (nI (k + 1))) :
    ∀ m x : Nat, x + m = 6 * k + d → 6 * k ≤ x → wX_framesOf_20 post J p (nI k) (nI (6 * k)) q tn sl pc wp he co ca cb fs fc ts tu ux tl ul tm gc ga gp ss st sf tc tr ow ti fd ft fk fn fh fl fv rs nt (m + 1) (nI (fr_c fd ft p x)) (nI x) := by
  have ek : (nI k).toNatClampNeg = k := nI_clamp (by omega)
  have vk : vp_in (nI k) 6 := vp_in_nI hk (by decide)
  have eb : nI (6 * k) + fd (nI k).toNatClampNeg = nI (6 * k + d) := by rw [ek, ed, nI_add]
  have tail : ∀ j, d ≤ j → j ≤ 6 → fr_c fd ft p (6 * k + j) = fr_c fd ft p (6 * k + d) := by
    intro j
    induction j with
    | zero => intro h1 _; rw [show d = 0 by omega]
    | succ j ih =>
      intro h1 h2
      by_cases c : d = j + 1
      · rw [c]
      · rw [← ih (by omega) (by omega), show 6 * k + (j + 1) = 6 * k + j + 1 by omega, fr_cf]
        intro z
        have z1 := z.1
        rw [show (6 * k + j) / 6 = k by omega, show (6 * k + j) % 6 = j by omega, ed, nI_ltI (by omega) (by omega)] at z1
        omega
  intro m
  induction m with
  | zero =>
    intro x hx hx6
    have : x = 6 * k + d := by omega
    subst this
    refine ⟨vk, br_t (by rw [eb]; exact nI_le (Nat.le_refl _) (by omega)) (nm_r (nI_1 k) ?_)⟩
    rw [← tail 6 hd (by omega)]
    exact hJ
  | succ m ih =>
    intro x hx hx6
    have ex : (nI x).toNatClampNeg = x := nI_clamp (by omega)
    have z := ih (x + 1) (by omega) (by omega)
    have hl : nI (x % 6) < fd (x / 6) := by
      rw [show x / 6 = k by omega, ed]
      exact nI_lt (by omega) (by omega)
    refine ⟨vk, br_f (by rw [eb]; exact nI_ge (by omega) (by omega)) ⟨vp_in_nI (by omega) (by decide), ?_⟩⟩
    by_cases c : ft x = p
    · rw [fr_ct ⟨hl, c⟩] at z
      exact br_t (by rw [ex]; exact c) (nm_r (nI_1 _) (nm_r (nI_1 x) z))
    · rw [fr_cf (fun q => c q.2)] at z
      exact br_f (by rw [ex]; exact c) (nm_r (nI_1 x) z)
theorem xl_fr4 {post : Int32 → Prop} {p : Int32} (hd : rl_d tc fd) (hp : post (nI (fr_c fd ft p 36))) :
    ∀ m k : Nat, k + m = 6 → wX_framesOf_4 post p q tn sl pc wp he co ca cb fs fc ts tu ux tl ul tm gc ga gp ss st sf tc tr ow ti fd ft fk fn fh fl fv rs nt (m + 1) (nI (fr_c fd ft p (6 * k))) (nI k) := by
  intro m
  induction m with
  | zero =>
    intro k hk
    have : k = 6 := by omega
    subst this
    exact br_t (by decide) hp
  | succ m ih =>
    intro k hk
    obtain ⟨d, h1, h2, h3⟩ := hd k (by omega)
    refine br_f (ix_ge 6 rfl (by omega) (by decide)) (nm_r (ix_m 6 rfl k) ⟨d + 1, ?_⟩)
    exact xl_fr20 (by omega) h1 h2 (ih (k + 1) (by omega)) d (6 * k) rfl (Nat.le_refl _)
theorem xl_frames {post : Int32 → Prop} {p : Int32} (hd : rl_d tc fd) (hp : post (nI (fr_c fd ft p 36))) : wpX_framesOf post (q, tn, sl, pc, wp, he, co, ca, cb, fs, fc, ts, tu, ux, tl, ul, tm, gc, ga, gp, ss, st, sf, tc, tr, ow, ti, fd, ft, fk, fn, fh, fl, fv, rs, nt) p :=
  ⟨7, xl_fr4 hd hp 6 0 rfl⟩
theorem yl_fr4 {post : Int32 → Prop} {p : Int32} (hd : rl_d tc fd) (hp : post (nI (fr_c fd ft p 36))) :
    ∀ m x : Nat, x + m = 36 → wY_frames_4 post p q wp tn sl yd nd co ca cb le he kl tu uy tl ul tm gc ga gp ss st sf fd tc tr ow ti ft fn fh fp fz fl fv rs au (m + 1) (nI (fr_c fd ft p x)) (nI x) := by
  intro m
  induction m with
  | zero =>
    intro x hx
    have : x = 36 := by omega
    subst this
    exact br_t (by decide) hp
  | succ m ih =>
    intro x hx
    obtain ⟨d, h1, h2, h3⟩ := hd (x / 6) (by omega)
    have z := ih (x + 1) (by omega)
    have ex : (nI x).toNatClampNeg = x := nI_clamp (by omega)
    have e1 : nI x / 6 = nI (x / 6) := pk_div (d := 6) (by omega) (by decide) (by decide)
    have e2 : nI x - nI x / 6 * 6 = nI (x % 6) := pk_rem (d := 6) (by omega) (by decide) (by decide)
    have e3 : (nI (x / 6)).toNatClampNeg = x / 6 := nI_clamp (by omega)
    have v1 : vp_in (nI x / 6) 6 := by rw [e1]; exact vp_in_nI (by omega) (by decide)
    have n6 : ¬ (6 : Int32) = 0 := by decide
    refine br_f (ix_ge 36 rfl (by omega) (by decide)) ⟨n6, v1, ?_⟩
    by_cases c1 : tc (x / 6) = -1
    · refine br_t (by rw [e1, e3]; exact c1) ⟨n6, n6, v1, ?_⟩
      by_cases c2 : d ≤ x % 6
      · refine br_t (by rw [e2, e1, e3, h2]; exact nI_le c2 (by omega)) (nm_r (nI_1 x) ?_)
        rw [fr_cf] at z
        · exact z
        · intro q
          have q1 := q.1
          rw [h2, nI_ltI (by omega) (by omega)] at q1
          omega
      · refine br_f (by rw [e2, e1, e3, h2]; exact nI_ge (by omega) (by omega)) ⟨vp_in_nI (by omega) (by decide), ?_⟩
        have hl : nI (x % 6) < fd (x / 6) := by rw [h2]; exact nI_lt (by omega) (by omega)
        by_cases c : ft x = p
        · rw [fr_ct ⟨hl, c⟩] at z
          exact br_t (by rw [ex]; exact c) (nm_r (nI_1 _) (nm_r (nI_1 x) z))
        · rw [fr_cf (fun q => c q.2)] at z
          exact br_f (by rw [ex]; exact c) (nm_r (nI_1 x) z)
    · refine br_f (by rw [e1, e3]; exact c1) (nm_r (nI_1 x) ?_)
      rw [fr_cf] at z
      · exact z
      · intro q
        have q1 := q.1
        rw [h2, nI_ltI (by omega) (by omega)] at q1
        exact c1 (h3.mpr (by omega))
theorem yl_frames {post : Int32 → Prop} {p : Int32} (hd : rl_d tc fd) (hp : post (nI (fr_c fd ft p 36))) : wpY_frames post (q, wp, tn, sl, yd, nd, co, ca, cb, le, he, kl, tu, uy, tl, ul, tm, gc, ga, gp, ss, st, sf, fd, tc, tr, ow, ti, ft, fn, fh, fp, fz, fl, fv, rs, au) p :=
  ⟨37, yl_fr4 hd hp 36 0 rfl⟩
theorem tl_loop (p : Int32) : ∀ d i : Nat, i + d = 6 → ∀ c : Int32, ∃ r : Int32, (∀ post : Int32 → Prop, post r → wX_threadsOf_4 post p q tn sl pc wp he co ca cb fs fc ts tu ux tl ul tm gc ga gp ss st sf tc tr ow ti fd ft fk fn fh fl fv rs nt (d + 1) c (nI i)) ∧ (∀ post : Int32 → Prop, post r → wY_threads_4 post p q wp tn sl yd nd co ca cb le he kl tu uy tl ul tm gc ga gp ss st sf fd tc tr ow ti ft fn fh fp fz fl fv rs au (d + 1) c (nI i)) := by
  intro d
  induction d with
  | zero =>
    intro i hi c
    have : i = 6 := by omega
    subst this
    exact ⟨c, fun _ h => br_t (by decide) h, fun _ h => br_t (by decide) h⟩
  | succ d ih =>
    intro i hi c
    have ei : (nI i).toNatClampNeg = i := nI_clamp (by omega)
    have vi : vp_in (nI i) 6 := vp_in_nI (by omega) (by decide)
    have n : ¬ (6 : Int32) ≤ nI i := ix_ge 6 rfl (by omega) (by decide)
    by_cases c1 : tc (nI i).toNatClampNeg = -1
    · by_cases c2 : ow (nI i).toNatClampNeg = p
      · obtain ⟨r, h1, h2⟩ := ih (i + 1) (by omega) (c + 1)
        exact ⟨r, fun post h => br_f n ⟨vi, br_t c1 ⟨vi, br_t c2 (nm_e (nm_r (nI_1 i) (h1 post h)))⟩⟩, fun post h => br_f n ⟨vi, br_t c1 ⟨vi, br_t c2 (nm_e (nm_r (nI_1 i) (h2 post h)))⟩⟩⟩
      · obtain ⟨r, h1, h2⟩ := ih (i + 1) (by omega) c
        exact ⟨r, fun post h => br_f n ⟨vi, br_t c1 ⟨vi, br_f c2 (nm_r (nI_1 i) (h1 post h))⟩⟩, fun post h => br_f n ⟨vi, br_t c1 ⟨vi, br_f c2 (nm_r (nI_1 i) (h2 post h))⟩⟩⟩
    · obtain ⟨r, h1, h2⟩ := ih (i + 1) (by omega) c
      exact ⟨r, fun post h => br_f n ⟨vi, br_f c1 (nm_r (nI_1 i) (h1 post h))⟩, fun post h => br_f n ⟨vi, br_f c1 (nm_r (nI_1 i) (h2 post h))⟩⟩
theorem tl_all  (p : Int32) : ∃ r : Int32, (∀ post : Int32 → Prop, post r → wpX_threadsOf post (q, tn, sl, pc, wp, he, co, ca, cb, fs, fc, ts, tu, ux, tl, ul, tm, gc, ga, gp, ss, st, sf, tc, tr, ow, ti, fd, ft, fk, fn, fh, fl, fv, rs, nt) p) ∧ (∀ post : Int32 → Prop, post r → wpY_threads post (q, wp, tn, sl, yd, nd, co, ca, cb, le, he, kl, tu, uy, tl, ul, tm, gc, ga, gp, ss, st, sf, fd, tc, tr, ow, ti, ft, fn, fh, fp, fz, fl, fv, rs, au) p) := by
  obtain ⟨r, h1, h2⟩ := tl_loop (q := q) (tn := tn) (sl := sl) (pc := pc) (wp := wp) (yd := yd) (nd := nd) (he := he) (co := co) (ca := ca) (cb := cb) (fs := fs) (fc := fc) (ts := ts) (tu := tu) (ux := ux) (tl := tl) (ul := ul) (tm := tm) (gc := gc) (ga := ga) (gp := gp) (ss := ss) (st := st) (sf := sf) (tc := tc) (tr := tr) (ow := ow) (ti := ti) (fd := fd) (ft := ft) (fk := fk) (fn := fn) (fh := fh) (fl := fl) (fv := fv) (rs := rs) (nt := nt) (le := le) (kl := kl) (uy := uy) (fp := fp) (fz := fz) (au := au) p 6 0 rfl 0
  exact ⟨r, fun post h => ⟨7, h1 post h⟩, fun post h => ⟨7, h2 post h⟩⟩
theorem cf_mono (co : Nat → Int32) (b : Nat) : ∀ i j, i ≤ j → cf_n co b i ≤ cf_n co b j := by
  intro i j h
  induction j with
  | zero => rw [show i = 0 by omega]; exact Nat.le_refl _
  | succ j ih =>
    by_cases c : i = j + 1
    · rw [c]; exact Nat.le_refl _
    · have := ih (by omega)
      simp only [cf_n]
      omega
theorem cf_le (co : Nat → Int32) (b : Nat) : ∀ i, cf_n co b i ≤ i
  | 0 => Nat.le_refl 0
  | i + 1 => by
    have := cf_le co b i
    simp only [cf_n]
    split <;> omega
theorem cf_t {co : Nat → Int32} {b i : Nat} (h : co (b + i) = 0) : cf_n co b (i + 1) = cf_n co b i + 1 := by
  simp only [cf_n, if_pos h]
theorem cf_f {co : Nat → Int32} {b i : Nat} (h : ¬ co (b + i) = 0) : cf_n co b (i + 1) = cf_n co b i := by
  simp only [cf_n, if_neg h, Nat.add_zero]
theorem yl_fns {post : Int32 → Prop} {t n : Nat} (ht : t < 5) (hl : le t = nI n) (hn : n ≤ 64) (hp : post (nI (cf_n co (64 * t) n))) : wpY_functions post (q, wp, tn, sl, yd, nd, co, ca, cb, le, he, kl, tu, uy, tl, ul, tm, gc, ga, gp, ss, st, sf, fd, tc, tr, ow, ti, ft, fn, fh, fp, fz, fl, fv, rs, au) (nI t) := by
  have et : (nI t).toNatClampNeg = t := nI_clamp (by omega)
  have vt : vp_in (nI t) 5 := vp_in_nI ht (by decide)
  have eb : 64 * nI t + le (nI t).toNatClampNeg = nI (64 * t + n) := by rw [et, hl]; exact ix_l 64 rfl t n
  have key : ∀ m i : Nat, i + m = n → wY_functions_7 post (nI t) q wp tn sl yd nd co ca cb le he kl tu uy tl ul tm gc ga gp ss st sf fd tc tr ow ti ft fn fh fp fz fl fv rs au (m + 1) (nI (cf_n co (64 * t) i)) (nI (64 * t + i)) := by
    intro m
    induction m with
    | zero =>
      intro i hi
      have : i = n := by omega
      subst this
      exact ⟨vt, br_t (by rw [eb]; exact nI_le (Nat.le_refl _) (by omega)) hp⟩
    | succ m ih =>
      intro i hi
      have z := ih (i + 1) (by omega)
      have ei : (nI (64 * t + i)).toNatClampNeg = 64 * t + i := nI_clamp (by omega)
      refine ⟨vt, br_f (by rw [eb]; exact nI_ge (by omega) (by omega)) ⟨vp_in_nI (by omega) (by decide), ?_⟩⟩
      by_cases c : co (64 * t + i) = 0
      · rw [cf_t c] at z
        exact br_t (by rw [ei]; exact c) (nm_r (nI_1 _) (nm_r (nI_1 _) z))
      · rw [cf_f c] at z
        exact br_f (by rw [ei]; exact c) (nm_r (nI_1 _) z)
  exact nm_r (ix_n 64 rfl t) ⟨n + 1, key n 0 (by omega)⟩
theorem xl_fns {post : Int32 → Prop} {n : Nat} (hl : pc = nI n) (hn : n ≤ 64) (hp : post (nI (cf_n co 256 n))) : wpX_pendingFunctions post (q, tn, sl, pc, wp, he, co, ca, cb, fs, fc, ts, tu, ux, tl, ul, tm, gc, ga, gp, ss, st, sf, tc, tr, ow, ti, fd, ft, fk, fn, fh, fl, fv, rs, nt) := by
  have key : ∀ m i : Nat, i + m = n → wX_pendingFunctions_4 post q tn sl pc wp he co ca cb fs fc ts tu ux tl ul tm gc ga gp ss st sf tc tr ow ti fd ft fk fn fh fl fv rs nt (m + 1) (nI (cf_n co 256 i)) (nI i) := by
    intro m
    induction m with
    | zero =>
      intro i hi
      have : i = n := by omega
      subst this
      exact br_t (by rw [hl]; exact nI_le (Nat.le_refl _) (by omega)) hp
    | succ m ih =>
      intro i hi
      have z := ih (i + 1) (by omega)
      have e1 : 256 + nI i = nI (256 + i) := ix_a 256 rfl i
      have ei : (nI (256 + i)).toNatClampNeg = 256 + i := nI_clamp (by omega)
      refine br_f (by rw [hl]; exact nI_ge (by omega) (by omega)) ⟨by rw [e1]; exact vp_in_nI (by omega) (by decide), ?_⟩
      by_cases c : co (256 + i) = 0
      · rw [cf_t c] at z
        exact br_t (by rw [e1, ei]; exact c) (nm_r (nI_1 _) (nm_r (nI_1 _) z))
      · rw [cf_f c] at z
        exact br_f (by rw [e1, ei]; exact c) (nm_r (nI_1 _) z)
  exact ⟨n + 1, key n 0 (by omega)⟩
theorem yl_fun {post : Int32 → Prop} {t n f i : Nat} (ht : t < 5) (hl : le t = nI n) (hn : n ≤ 64) (hi : i < n) (h0 : co (64 * t + i) = 0) (hf : cf_n co (64 * t) i = f) (hp : post (nI i)) : wpY_function post (q, wp, tn, sl, yd, nd, co, ca, cb, le, he, kl, tu, uy, tl, ul, tm, gc, ga, gp, ss, st, sf, fd, tc, tr, ow, ti, ft, fn, fh, fp, fz, fl, fv, rs, au) (nI t) (nI f) := by
  have et : (nI t).toNatClampNeg = t := nI_clamp (by omega)
  have vt : vp_in (nI t) 5 := vp_in_nI ht (by decide)
  have cl := cf_le co (64 * t) i
  have key : ∀ m j : Nat, j + m = i → wY_function_5 post (nI t) q wp tn sl yd nd co ca cb le he kl tu uy tl ul tm gc ga gp ss st sf fd tc tr ow ti ft fn fh fp fz fl fv rs au (m + 1) (nI (f - cf_n co (64 * t) j)) (nI j) := by
    intro m
    induction m with
    | zero =>
      intro j hj
      have : j = i := by omega
      subst this
      have e1 : 64 * nI t + nI j = nI (64 * t + j) := ix_l 64 rfl t j
      have ei : (nI (64 * t + j)).toNatClampNeg = 64 * t + j := nI_clamp (by omega)
      refine ⟨vt, br_f (by rw [et, hl]; exact nI_ge (by omega) (by omega)) ⟨by rw [e1]; exact vp_in_nI (by omega) (by decide), br_t (by rw [e1, ei]; exact h0) (nm_e (br_t ?_ hp))⟩⟩
      rw [hf, Nat.sub_self]; rfl
    | succ m ih =>
      intro j hj
      have z := ih (j + 1) (by omega)
      have e1 : 64 * nI t + nI j = nI (64 * t + j) := ix_l 64 rfl t j
      have ei : (nI (64 * t + j)).toNatClampNeg = 64 * t + j := nI_clamp (by omega)
      have mono := cf_mono co (64 * t) (j + 1) i (by omega)
      refine ⟨vt, br_f (by rw [et, hl]; exact nI_ge (by omega) (by omega)) ⟨by rw [e1]; exact vp_in_nI (by omega) (by decide), ?_⟩⟩
      by_cases c : co (64 * t + j) = 0
      · rw [cf_t c] at z mono
        refine br_t (by rw [e1, ei]; exact c) (nm_r (e' := nI (f - (cf_n co (64 * t) j + 1))) ?_ (br_f ?_ (nm_r (nI_1 _) z)))
        · rw [ix_q (by omega)]; exact congrArg nI (by omega)
        · exact nI_ne0 (by omega) (by omega)
      · rw [cf_f c] at z
        exact br_f (by rw [e1, ei]; exact c) (nm_r (nI_1 _) z)
  have z := key i 0 (by omega)
  exact ⟨i + 1, z⟩
theorem ix_lt1 {a : Nat} (h : a < 1000) : nI a - 1 < nI a := by
  rw [Int32.lt_iff_toInt_lt, show (1 : Int32) = nI 1 from rfl, pk_sub_toInt (by omega) (by decide), nI_toInt (by omega)]
  omega
theorem dl_loop {k d : Nat} (hk : k < 6) (hd : d ≤ 6) (hK : rl_k fk fp fz) : ∀ j : Nat, j ≤ d → ∀ s : Int32, ∃ r : Int32,
    (∀ post : Int32 → Prop, post r → wX_domainsOf_19 post (nI k) (nI (6 * k)) q tn sl pc wp he co ca cb fs fc ts tu ux tl ul tm gc ga gp ss st sf tc tr ow ti fd ft fk fn fh fl fv rs nt (j + 1) s (nI (6 * k + j) - 1)) ∧ (∀ post : Int32 → Prop, post r → wY_domains_16 post (nI k) q wp tn sl yd nd co ca cb le he kl tu uy tl ul tm gc ga gp ss st sf fd tc tr ow ti ft fn fh fp fz fl fv rs au (j + 1) s (nI (6 * k + j) - 1)) := by
  have vk : vp_in (nI k) 6 := vp_in_nI hk (by decide)
  have e6 : 6 * nI k = nI (6 * k) := ix_n 6 rfl k
  intro j
  induction j with
  | zero =>
    intro _ s
    have l : nI (6 * k + 0) - 1 < nI (6 * k) := ix_lt1 (by omega)
    exact ⟨s ||| ti (nI k).toNatClampNeg, fun _ h => br_t l ⟨vk, h⟩, fun _ h => br_t (by rw [e6]; exact l) ⟨vk, h⟩⟩
  | succ j ih =>
    intro hj s
    have e1 : nI (6 * k + (j + 1)) - 1 = nI (6 * k + j) := nI_pred _
    have ex : (nI (6 * k + j)).toNatClampNeg = 6 * k + j := nI_clamp (by omega)
    have vx : vp_in (nI (6 * k + j)) 36 := vp_in_nI (by omega) (by decide)
    have l : ¬ nI (6 * k + j) < nI (6 * k) := nI_nlt (by omega) (by omega)
    have e2 : nI (6 * k + j) + -1 = nI (6 * k + j) - 1 := (Int32.sub_eq_add_neg _ _).symm
    rw [e1]
    by_cases c : fk (6 * k + j) = 1
    · have cp : ¬ fp (6 * k + j) = 0 := by
        rcases hK (6 * k + j) (by omega) with h | h | h
        · rw [h.2.2] at c; exact absurd c (by decide)
        · rw [h.1]; decide
        · rw [h.2.2] at c; exact absurd c (by decide)
      refine ⟨s ||| ((1 : Int32) <<< ((ft (nI (6 * k + j)).toNatClampNeg) &&& 31)), fun _ h => br_f l ⟨vx, nm_e ⟨vx, br_t (by rw [ex]; exact c) h⟩⟩, fun _ h => br_f (by rw [e6]; exact l) ⟨vx, nm_e ⟨vx, br_f (by rw [ex]; exact cp) h⟩⟩⟩
    · have cp : fp (6 * k + j) = 0 := by
        rcases hK (6 * k + j) (by omega) with h | h | h
        · exact h.1
        · exact absurd h.2.2 c
        · exact h.1
      obtain ⟨r, h1, h2⟩ := ih (by omega) (s ||| ((1 : Int32) <<< ((ft (nI (6 * k + j)).toNatClampNeg) &&& 31)))
      exact ⟨r, fun post h => br_f l ⟨vx, nm_e ⟨vx, br_f (by rw [ex]; exact c) (nm_r e2 (h1 post h))⟩⟩, fun post h => br_f (by rw [e6]; exact l) ⟨vx, nm_e ⟨vx, br_t (by rw [ex]; exact cp) (nm_r e2 (h2 post h))⟩⟩⟩
theorem dl_all  {k d : Nat} (hk : k < 6) (hd : d ≤ 6) (ed : fd k = nI d) (hK : rl_k fk fp fz) : ∃ r : Int32,
    (∀ post : Int32 → Prop, post r → wpX_domainsOf post (q, tn, sl, pc, wp, he, co, ca, cb, fs, fc, ts, tu, ux, tl, ul, tm, gc, ga, gp, ss, st, sf, tc, tr, ow, ti, fd, ft, fk, fn, fh, fl, fv, rs, nt) (nI k)) ∧ (∀ post : Int32 → Prop, post r → wpY_domains post (q, wp, tn, sl, yd, nd, co, ca, cb, le, he, kl, tu, uy, tl, ul, tm, gc, ga, gp, ss, st, sf, fd, tc, tr, ow, ti, ft, fn, fh, fp, fz, fl, fv, rs, au) (nI k)) := by
  have ek : (nI k).toNatClampNeg = k := nI_clamp (by omega)
  have vk : vp_in (nI k) 6 := vp_in_nI hk (by decide)
  obtain ⟨r, h1, h2⟩ := dl_loop (q := q) (tn := tn) (sl := sl) (pc := pc) (wp := wp) (yd := yd) (nd := nd) (he := he) (co := co) (ca := ca) (cb := cb) (fs := fs) (fc := fc) (ts := ts) (tu := tu) (ux := ux) (tl := tl) (ul := ul) (tm := tm) (gc := gc) (ga := ga) (gp := gp) (ss := ss) (st := st) (sf := sf) (tc := tc) (tr := tr) (ow := ow) (ti := ti) (fd := fd) (ft := ft) (fk := fk) (fn := fn) (fh := fh) (fl := fl) (fv := fv) (rs := rs) (nt := nt) (le := le) (kl := kl) (uy := uy) (fp := fp) (fz := fz) (au := au) hk hd hK d (Nat.le_refl _) 0
  refine ⟨r, fun post h => nm_r (ix_m 6 rfl k) ⟨vk, nm_r (e' := nI (6 * k + d) - 1) (by rw [ek, ed, nI_add]) ⟨_, h1 post h⟩⟩, fun post h => ⟨vk, nm_r (e' := nI (6 * k + d) - 1) (by rw [ek, ed, ix_l (M := 6) 6 rfl]) ⟨_, h2 post h⟩⟩⟩
end
