theorem so_d1 : ∀ s, s < 512 → s ≠ 0 → nI s &&& (nI s - 1) = 0 → ∃ h, h < 9 ∧ s = 2 ^ h := by decide +kernel
theorem so_d2 : ∀ h, h < 9 → nI (2 ^ h) &&& (nI (2 ^ h) - 1) = 0 := by decide +kernel
theorem so_d3 : ∀ h, h < 9 → ∀ p, p < 3 → ∀ q, q < 3 → (af_w (nI (2 ^ h)) p q = 0 ↔ ¬ (p ≤ h ∧ h - p + q ≤ 8)) := by decide +kernel
theorem so_d4 : ∀ h, h < 9 → ∀ b, b < 9 → ((nI (2 ^ h) >>> (nI b &&& 31)) &&& 1 = 1 ↔ b = h) := by decide +kernel
theorem so_d5 : ∀ h, h < 9 → ∀ b, b < 32 → bt (nI (2 ^ h)) b = decide (b = h) := by decide +kernel
theorem so_d6 : ∀ h, h < 9 → nI (2 ^ h) ≠ 0 := by decide +kernel
theorem so_d7 : ∀ b, b < 9 → ¬ (((0 : Int32) >>> (nI b &&& 31)) &&& 1 = 1) := by decide +kernel
/-- row i is sound, at one height at most -/
def so_P (co ca h : Nat → Int32) (n i o : Nat) : Prop := h i = 0 ∨ ∃ b : Nat, b < 9 ∧ h i = nI (2 ^ b) ∧ st_po o (ca (256 + i)) ≤ b ∧ b - st_po o (ca (256 + i)) + st_pu o (ca (256 + i)) ≤ 8 ∧ ((o ≠ 12 ∧ o ≠ 21 ∧ o ≠ 22) → i + 1 < n ∧ co (256 + (i + 1)) ≠ 0)
section
variable {q tn sl pc wp yd nd : Int32} {he co ca cb fs fc ts tu ux tl ul tm gc ga gp ss st sf tc tr ow ti fd ft fk fn fh fl fv rs nt le kl uy fp fz au : Nat → Int32}
theorem xl_so {post : Int32 → Prop} {n i o : Nat} (hl : pc = nI n) (hn : n ≤ 64) (hi : i < n) (ho : o < 24) (eo : co (256 + i) = nI o) (h9 : n9_P (he i)) (hz : he i ≠ 0) (h1 : so_P co ca he n i o → post 1) (h0 : ¬ so_P co ca he n i o → post 0) : wpX_isSoundAt post (q, tn, sl, pc, wp, he, co, ca, cb, fs, fc, ts, tu, ux, tl, ul, tm, gc, ga, gp, ss, st, sf, tc, tr, ow, ti, fd, ft, fk, fn, fh, fl, fv, rs, nt) (nI i) := by
  have e1 : 256 + nI i = nI (256 + i) := ix_a 256 rfl i
  have e2 : (nI (256 + i)).toNatClampNeg = 256 + i := nI_clamp (by omega)
  have v1 : vp_in (256 + nI i) 320 := by rw [e1]; exact vp_in_nI (by omega) (by decide)
  have e3 : (nI i).toNatClampNeg = i := nI_clamp (by omega)
  have vi : vp_in (nI i) 64 := vp_in_nI (by omega) (by decide)
  have pl := po_le o (ca (256 + i))
  have ql := pu_le o (ca (256 + i))
  refine ⟨vi, vi, ?_⟩
  rw [e3]
  obtain ⟨s, hs, es⟩ := n9_s h9
  by_cases c1 : he i &&& (he i - 1) = 0
  · refine br_t c1 (br_f (by decide) (xl_ha (by omega) ho eo ?_))
    obtain ⟨b, hb, eb⟩ := so_d1 s hs (fun z => hz (by rw [es, z]; rfl)) (by rw [← es]; exact c1)
    rw [eb] at es
    have d3 := so_d3 b hb (st_po o (ca (256 + i))) (by omega) (st_pu o (ca (256 + i))) (by omega)
    rw [← es] at d3
    have uq : ∀ b', b' < 9 → he i = nI (2 ^ b') → b' = b := by
      intro b' hb' e
      have x1 := so_d5 b hb b' (by omega)
      rw [← es, e, so_d5 b' hb' b' (by omega), decide_eq_true rfl] at x1
      exact of_decide_eq_true x1.symm
    by_cases c2 : af_w (he i) (st_po o (ca (256 + i))) (st_pu o (ca (256 + i))) = 0
    · refine br_t c2 (h0 ?_)
      rintro (z | ⟨b', b1, b2, b3, b4, _⟩)
      · exact hz z
      · have := uq b' b1 b2
        subst this
        exact d3.mp c2 ⟨b3, b4⟩
    · have hf : st_po o (ca (256 + i)) ≤ b ∧ b - st_po o (ca (256 + i)) + st_pu o (ca (256 + i)) ≤ 8 := Classical.byContradiction (fun z => c2 (d3.mpr z))
      refine br_f c2 ⟨v1, ?_⟩
      rw [e1, e2, eo]
      refine xl_gon ho (fun hg => br_f (by decide) ?_) (fun hg => br_t rfl (h1 (Or.inr ⟨b, hb, es, hf.1, hf.2, fun z => absurd z hg⟩)))
      by_cases c3 : i + 1 < n
      · have e5 : nI (256 + i) + 1 = nI (256 + (i + 1)) := nI_1 _
        have e6 : (nI (256 + (i + 1))).toNatClampNeg = 256 + (i + 1) := nI_clamp (by omega)
        refine br_f (by rw [hl, nI_1]; exact nI_ge c3 (by omega)) ⟨by rw [e5]; exact vp_in_nI (by omega) (by decide), ?_⟩
        rw [e5, e6]
        by_cases c4 : co (256 + (i + 1)) = 0
        · refine br_t c4 (h0 ?_)
          rintro (z | ⟨b', b1, b2, b3, b4, b5⟩)
          · exact hz z
          · exact (b5 hg).2 c4
        · exact br_f c4 (h1 (Or.inr ⟨b, hb, es, hf.1, hf.2, fun _ => ⟨c3, c4⟩⟩))
      · refine br_t (by rw [hl, nI_1]; exact nI_le (by omega) (by omega)) (h0 ?_)
        rintro (z | ⟨b', b1, b2, b3, b4, b5⟩)
        · exact hz z
        · exact c3 (b5 hg).1
  · refine br_f c1 (br_t rfl (h0 ?_))
    rintro (z | ⟨b', b1, b2, _⟩)
    · exact hz z
    · rw [b2] at c1
      exact c1 (so_d2 b' b1)
theorem yl_so {post : Int32 → Prop} {n i o : Nat} (hl : le 4 = nI n) (hn : n ≤ 64) (hi : i < n) (ho : o < 24) (eo : co (256 + i) = nI o) (h9 : n9_P (he i)) (h1 : so_P co ca he n i o → post 1) (h0 : ¬ so_P co ca he n i o → post 0) : wpY_sound post (q, wp, tn, sl, yd, nd, co, ca, cb, le, he, kl, tu, uy, tl, ul, tm, gc, ga, gp, ss, st, sf, fd, tc, tr, ow, ti, ft, fn, fh, fp, fz, fl, fv, rs, au) (nI i) := by
  have e1 : 256 + nI i = nI (256 + i) := ix_a 256 rfl i
  have e2 : (nI (256 + i)).toNatClampNeg = 256 + i := nI_clamp (by omega)
  have v1 : vp_in (256 + nI i) 320 := by rw [e1]; exact vp_in_nI (by omega) (by decide)
  have e3 : (nI i).toNatClampNeg = i := nI_clamp (by omega)
  have vi : vp_in (nI i) 64 := vp_in_nI (by omega) (by decide)
  have pl := po_le o (ca (256 + i))
  have ql := pu_le o (ca (256 + i))
  refine ⟨vi, nm_r (e' := he i) (by rw [e3]) ?_⟩
  by_cases hz : he i = 0
  · refine br_t (by rw [hz]; decide) ⟨10, ?_⟩
    rw [hz]
    have key : ∀ m b : Nat, b + m = 9 → wY_sound_19 post (nI i) 0 q wp tn sl yd nd co ca cb le he kl tu uy tl ul tm gc ga gp ss st sf fd tc tr ow ti ft fn fh fp fz fl fv rs au (m + 1) (nI b) := by
      intro m
      induction m with
      | zero =>
        intro b hb
        have : b = 9 := by omega
        subst this
        exact br_t (by decide) (br_t rfl (h1 (Or.inl hz)))
      | succ m ih =>
        intro b hb
        exact br_f (ix_ge 9 rfl (by omega) (by decide)) (br_f (so_d7 b (by omega)) (nm_r (nI_1 b) (ih (b + 1) (by omega))))
    exact key 9 0 rfl
  · obtain ⟨s, hs, es⟩ := n9_s h9
    by_cases c1 : he i &&& (he i - 1) = 0
    · obtain ⟨b, hb, eb⟩ := so_d1 s hs (fun z => hz (by rw [es, z]; rfl)) (by rw [← es]; exact c1)
      rw [eb] at es
      refine br_t c1 ⟨10, ?_⟩
      have uq : ∀ b', b' < 9 → he i = nI (2 ^ b') → b' = b := by
        intro b' hb' e
        have x1 := so_d5 b hb b' (by omega)
        rw [← es, e, so_d5 b' hb' b' (by omega), decide_eq_true rfl] at x1
        exact of_decide_eq_true x1.symm
      have key : ∀ m x : Nat, x + m = 9 → (b < x → st_po o (ca (256 + i)) ≤ b ∧ b - st_po o (ca (256 + i)) + st_pu o (ca (256 + i)) ≤ 8) → wY_sound_19 post (nI i) (he i) q wp tn sl yd nd co ca cb le he kl tu uy tl ul tm gc ga gp ss st sf fd tc tr ow ti ft fn fh fp fz fl fv rs au (m + 1) (nI x) := by
        intro m
        induction m with
        | zero =>
          intro x hx hf
          have : x = 9 := by omega
          subst this
          have hf' := hf hb
          refine br_t (by decide) (br_f hz ⟨v1, ?_⟩)
          rw [e1, e2, eo]
          refine yl_end2 ho (fun hg => br_t rfl ?_) (fun hg => br_f (by decide) (h1 (Or.inr ⟨b, hb, es, hf'.1, hf'.2, fun z => absurd z hg⟩)))
          by_cases c3 : i + 1 < n
          · have e5 : nI (256 + i) + 1 = nI (256 + (i + 1)) := nI_1 _
            have e6 : (nI (256 + (i + 1))).toNatClampNeg = 256 + (i + 1) := nI_clamp (by omega)
            refine br_f (by rw [hl, nI_1]; exact nI_ge c3 (by omega)) ⟨by rw [e5]; exact vp_in_nI (by omega) (by decide), ?_⟩
            rw [e5, e6]
            by_cases c4 : co (256 + (i + 1)) = 0
            · refine br_t c4 (h0 ?_)
              rintro (z | ⟨b', b1, b2, b3, b4, b5⟩)
              · exact hz z
              · exact (b5 hg).2 c4
            · exact br_f c4 (h1 (Or.inr ⟨b, hb, es, hf'.1, hf'.2, fun _ => ⟨c3, c4⟩⟩))
          · refine br_t (by rw [hl, nI_1]; exact nI_le (by omega) (by omega)) (h0 ?_)
            rintro (z | ⟨b', b1, b2, b3, b4, b5⟩)
            · exact hz z
            · exact c3 (b5 hg).1
        | succ m ih =>
          intro x hx hf
          have d4 := so_d4 b hb x (by omega)
          rw [← es] at d4
          refine br_f (ix_ge 9 rfl (by omega) (by decide)) ?_
          by_cases cx : x = b
          · refine br_t (d4.mpr cx) (yl_fit (by omega) (by omega) ho eo (fun z => br_f (by decide) (nm_r (nI_1 x) (ih (x + 1) (by omega) (fun _ => by rw [cx] at z; exact z)))) (fun z => br_t rfl (h0 ?_)))
            rintro (z' | ⟨b', b1, b2, b3, b4, _⟩)
            · exact hz z'
            · have := uq b' b1 b2
              subst this
              rw [cx] at z
              exact z ⟨b3, b4⟩
          · exact br_f (fun z => cx (d4.mp z)) (nm_r (nI_1 x) (ih (x + 1) (by omega) (fun z => hf (by omega))))
      exact key 9 0 rfl (fun z => absurd z (Nat.not_lt_zero b))
    · refine br_f c1 (h0 ?_)
      rintro (z | ⟨b', b1, b2, _⟩)
      · exact hz z
      · rw [b2] at c1
        exact c1 (so_d2 b' b1)
/-- both look for the first unsound row -/
theorem ul_loop {n : Nat} (hl : pc = nI n) (hl' : le 4 = nI n) (hn : n ≤ 64) (hw : ∀ j, j < n → wf_P co ca cb n j) (h9 : h9_P n he) : ∀ d i : Nat, i + d = n → (∀ j, j < i → so_P co ca he n j (op_n co j)) →
    (∃ b : Nat, b < n ∧ (∀ post : Int32 → Prop, post (nI b) → wX_firstUnsound_2 post q tn sl pc wp he co ca cb fs fc ts tu ux tl ul tm gc ga gp ss st sf tc tr ow ti fd ft fk fn fh fl fv rs nt (d + 1) (nI i)) ∧ (∀ post : Int32 → SY → Prop, post 2 (q, nI b, tn, sl, yd, nd, co, ca, cb, le, he, kl, tu, uy, tl, ul, tm, gc, ga, gp, ss, st, sf, fd, tc, tr, ow, ti, ft, fn, fh, fp, fz, fl, fv, rs, au) → wY_check_139 post q tn sl yd nd co ca cb le he kl tu uy tl ul tm gc ga gp ss st sf fd tc tr ow ti ft fn fh fp fz fl fv rs au (d + 1) (nI i))) ∨
    ((∀ j, j < n → so_P co ca he n j (op_n co j)) ∧ (∀ post : Int32 → Prop, post (-1) → wX_firstUnsound_2 post q tn sl pc wp he co ca cb fs fc ts tu ux tl ul tm gc ga gp ss st sf tc tr ow ti fd ft fk fn fh fl fv rs nt (d + 1) (nI i)) ∧ (∀ post : Int32 → SY → Prop, post 0 (q, -1, tn, sl, yd, nd, co, ca, cb, le, he, kl, tu, uy, tl, ul, tm, gc, ga, gp, ss, st, sf, fd, tc, tr, ow, ti, ft, fn, fh, fp, fz, fl, fv, rs, au) → wY_check_139 post q tn sl yd nd co ca cb le he kl tu uy tl ul tm gc ga gp ss st sf fd tc tr ow ti ft fn fh fp fz fl fv rs au (d + 1) (nI i))) := by
  intro d
  induction d with
  | zero =>
    intro i hi hs
    have : i = n := by omega
    subst this
    exact Or.inr ⟨hs, fun _ h => br_t (by rw [hl]; exact nI_le (Nat.le_refl _) (by omega)) h, fun _ h => br_t (by rw [hl']; exact nI_le (Nat.le_refl _) (by omega)) h⟩
  | succ d ih =>
    intro i hi hs
    obtain ⟨ho, eo⟩ := op_e (hw i (by omega))
    have nX : ¬ pc ≤ nI i := by rw [hl]; exact nI_ge (by omega) (by omega)
    have nY : ¬ le 4 ≤ nI i := by rw [hl']; exact nI_ge (by omega) (by omega)
    have e3 : (nI i).toNatClampNeg = i := nI_clamp (by omega)
    have vi : vp_in (nI i) 64 := vp_in_nI (by omega) (by decide)
    by_cases c : so_P co ca he n i (op_n co i)
    · have stepX : ∀ post : Int32 → Prop, wX_firstUnsound_2 post q tn sl pc wp he co ca cb fs fc ts tu ux tl ul tm gc ga gp ss st sf tc tr ow ti fd ft fk fn fh fl fv rs nt (d + 1) (nI (i + 1)) → wX_firstUnsound_2 post q tn sl pc wp he co ca cb fs fc ts tu ux tl ul tm gc ga gp ss st sf tc tr ow ti fd ft fk fn fh fl fv rs nt (d + 1 + 1) (nI i) := by
        intro post h
        refine br_f nX ⟨vi, ?_⟩
        rw [e3]
        by_cases hz : he i = 0
        · exact br_t hz (nm_r (nI_1 i) h)
        · exact br_f hz (xl_so hl hn (by omega) ho eo (h9 i (by omega)) hz (fun _ => br_f (by decide) (nm_r (nI_1 i) h)) (fun z => absurd c z))
      have stepY : ∀ post : Int32 → SY → Prop, wY_check_139 post q tn sl yd nd co ca cb le he kl tu uy tl ul tm gc ga gp ss st sf fd tc tr ow ti ft fn fh fp fz fl fv rs au (d + 1) (nI (i + 1)) → wY_check_139 post q tn sl yd nd co ca cb le he kl tu uy tl ul tm gc ga gp ss st sf fd tc tr ow ti ft fn fh fp fz fl fv rs au (d + 1 + 1) (nI i) := by
        intro post h
        exact br_f nY (yl_so hl' hn (by omega) ho eo (h9 i (by omega)) (fun _ => br_f (by decide) (nm_r (nI_1 i) h)) (fun z => absurd c z))
      rcases ih (i + 1) (by omega) (fun j hj => by
        by_cases cj : j = i
        · subst cj; exact c
        · exact hs j (by omega)) with ⟨b, h1, h2, h3⟩ | ⟨h1, h2, h3⟩
      · exact Or.inl ⟨b, h1, fun post h => stepX post (h2 post h), fun post h => stepY post (h3 post h)⟩
      · exact Or.inr ⟨h1, fun post h => stepX post (h2 post h), fun post h => stepY post (h3 post h)⟩
    · refine Or.inl ⟨i, by omega, fun post h => br_f nX ⟨vi, ?_⟩, fun post h => br_f nY (yl_so hl' hn (by omega) ho eo (h9 i (by omega)) (fun z => absurd z c) (fun _ => br_t rfl h))⟩
      rw [e3]
      have hz : he i ≠ 0 := fun z => c (Or.inl z)
      exact br_f hz (xl_so hl hn (by omega) ho eo (h9 i (by omega)) hz (fun z => absurd z c) (fun _ => br_t rfl h))
theorem ls_w {P : Nat → Prop} : ∀ n, (¬ ∀ j, j < n → P j) → ∃ b, b < n ∧ ¬ P b ∧ ∀ j, j < b → P j
  | 0, h => absurd (fun j hj => absurd hj (Nat.not_lt_zero j)) h
  | n + 1, h => by
    by_cases c : ∀ j, j < n → P j
    · refine ⟨n, by omega, fun z => h (fun j hj => ?_), c⟩
      by_cases cj : j = n
      · rw [cj]; exact z
      · exact c j (by omega)
    · obtain ⟨b, b1, b2, b3⟩ := ls_w n c
      exact ⟨b, by omega, b2, b3⟩
/-- the judgement of the pending bundle: one answer on both sides -/
theorem jd_all {n : Nat} (hl : pc = nI n) (hl' : le 4 = nI n) (hn : n ≤ 64) : ∃ (r wp' : Int32) (h' : Nat → Int32),
    (∀ post : Int32 → SX → Prop, post r (q, tn, sl, pc, wp', h', co, ca, cb, fs, fc, ts, tu, ux, tl, ul, tm, gc, ga, gp, ss, st, sf, tc, tr, ow, ti, fd, ft, fk, fn, fh, fl, fv, rs, nt) → wpX_judgePending post (q, tn, sl, pc, wp, he, co, ca, cb, fs, fc, ts, tu, ux, tl, ul, tm, gc, ga, gp, ss, st, sf, tc, tr, ow, ti, fd, ft, fk, fn, fh, fl, fv, rs, nt)) ∧ (∀ post : Int32 → SY → Prop, post r (q, wp', tn, sl, yd, nd, co, ca, cb, le, h', kl, tu, uy, tl, ul, tm, gc, ga, gp, ss, st, sf, fd, tc, tr, ow, ti, ft, fn, fh, fp, fz, fl, fv, rs, au) → wpY_check post (q, wp, tn, sl, yd, nd, co, ca, cb, le, he, kl, tu, uy, tl, ul, tm, gc, ga, gp, ss, st, sf, fd, tc, tr, ow, ti, ft, fn, fh, fp, fz, fl, fv, rs, au)) ∧
    (r = 0 → n ≠ 0 ∧ co 256 = 0 ∧ (∀ j, j < n → wf_P co ca cb n j) ∧ (∀ j, j < n → co (256 + j) = 0 → bt (h' j) 0 = true) ∧ (∀ j, j < n → fi_h co ca h' n j = h') ∧ (∀ j, j < n → so_P co ca h' n j (op_n co j))) := by
  by_cases c0 : n = 0
  · subst c0
    refine ⟨1, 0, he, fun post h => ?_, fun post h => br_t hl' h, fun z => absurd z (by decide)⟩
    unfold wpX_judgePending; dsimp only
    exact (show wpX_firstMalformed _ _ from br_t hl (br_f (by decide) h))
  have pn : ¬ pc = 0 := by rw [hl]; exact nI_ne0 (by omega) (by omega)
  have ln : ¬ le 4 = 0 := by rw [hl']; exact nI_ne0 (by omega) (by omega)
  by_cases h0 : co 256 = 0
  · have hX : ∀ post : Int32 → Prop, (∃ m : Nat, wX_firstMalformed_32 post (nI (cf_n co 256 n)) q tn sl pc wp he co ca cb fs fc ts tu ux tl ul tm gc ga gp ss st sf tc tr ow ti fd ft fk fn fh fl fv rs nt m 0 0 0) → wpX_firstMalformed post (q, tn, sl, pc, wp, he, co, ca, cb, fs, fc, ts, tu, ux, tl, ul, tm, gc, ga, gp, ss, st, sf, tc, tr, ow, ti, fd, ft, fk, fn, fh, fl, fv, rs, nt) := fun post h => br_f pn (br_t h0 (xl_fns hl hn h))
    by_cases hw : ∀ j, j < n → wf_P co ca cb n j
    · have h9 : h9_P n (hi_f co he n) := by
        intro y hy
        unfold hi_f
        rw [if_pos hy]
        by_cases c : co (256 + y) = 0
        · rw [if_pos c]; exact fun b h1 h2 => by rw [b_1 b h2, decide_eq_false (by omega)]
        · rw [if_neg c]; exact fun b _ _ => b_0 b
      obtain ⟨h', r1, r2, r3, r4, r5⟩ := hs_loop (q := q) (tn := tn) (sl := sl) (pc := pc) (yd := yd) (nd := nd) (co := co) (ca := ca) (cb := cb) (fs := fs) (fc := fc) (ts := ts) (tu := tu) (ux := ux) (tl := tl) (ul := ul) (tm := tm) (gc := gc) (ga := ga) (gp := gp) (ss := ss) (st := st) (sf := sf) (tc := tc) (tr := tr) (ow := ow) (ti := ti) (fd := fd) (ft := ft) (fk := fk) (fn := fn) (fh := fh) (fl := fl) (fv := fv) (rs := rs) (nt := nt) (le := le) (kl := kl) (uy := uy) (fp := fp) (fz := fz) (au := au) (wp := -1) (wy := nI n) hl hl' hn hw 577 0 (hi_f co he n) rfl h9 (Nat.zero_le _)
      have hbit : ∀ j, j < n → co (256 + j) = 0 → bt (h' j) 0 = true := by
        intro j hj ej
        refine r2 j hj 0 ?_
        unfold hi_f
        rw [if_pos hj, if_pos ej]
        rfl
      have goX : ∀ (r w : Int32) (post : Int32 → SX → Prop), (∀ post' : Int32 → Prop, post' w → wX_firstUnsound_2 post' q tn sl pc (-1) h' co ca cb fs fc ts tu ux tl ul tm gc ga gp ss st sf tc tr ow ti fd ft fk fn fh fl fv rs nt (n + 1) (nI 0)) → ((w = -1 ∧ r = 0) ∨ (w ≠ -1 ∧ r = 2)) → post r (q, tn, sl, pc, w, h', co, ca, cb, fs, fc, ts, tu, ux, tl, ul, tm, gc, ga, gp, ss, st, sf, tc, tr, ow, ti, fd, ft, fk, fn, fh, fl, fv, rs, nt) → wpX_judgePending post (q, tn, sl, pc, wp, he, co, ca, cb, fs, fc, ts, tu, ux, tl, ul, tm, gc, ga, gp, ss, st, sf, tc, tr, ow, ti, fd, ft, fk, fn, fh, fl, fv, rs, nt) := by
        intro r w post hU hr hp
        unfold wpX_judgePending; dsimp only
        refine (show wpX_firstMalformed _ _ from hX _ ⟨n + 1, fx_loop hl hn h0 (fun b hb z _ => absurd (hw b hb) z) (fun _ => br_t rfl ?_) n 0 0 (by omega) (fun j hj => absurd hj (Nat.not_lt_zero j)) (fun z => absurd rfl z)⟩)
        have k := xh_loop (q := q) (tn := tn) (sl := sl) (pc := pc) (he := he) (co := co) (ca := ca) (cb := cb) (fs := fs) (fc := fc) (ts := ts) (tu := tu) (ux := ux) (tl := tl) (ul := ul) (tm := tm) (gc := gc) (ga := ga) (gp := gp) (ss := ss) (st := st) (sf := sf) (tc := tc) (tr := tr) (ow := ow) (ti := ti) (fd := fd) (ft := ft) (fk := fk) (fn := fn) (fh := fh) (fl := fl) (fv := fv) (rs := rs) (nt := nt) (wp := -1) hl hn ⟨578, r4 (fun u => match u with | (q, tn, sl, pc, wp, he, co, ca, cb, fs, fc, ts, tu, ux, tl, ul, tm, gc, ga, gp, ss, st, sf, tc, tr, ow, ti, fd, ft, fk, fn, fh, fl, fv, rs, nt) => (wpX_firstUnsound (fun r_76 => (((r_76 = (-1) → (post 0 (q, tn, sl, pc, r_76, he, co, ca, cb, fs, fc, ts, tu, ux, tl, ul, tm, gc, ga, gp, ss, st, sf, tc, tr, ow, ti, fd, ft, fk, fn, fh, fl, fv, rs, nt))) ∧ (¬ r_76 = (-1) → (post 2 (q, tn, sl, pc, r_76, he, co, ca, cb, fs, fc, ts, tu, ux, tl, ul, tm, gc, ga, gp, ss, st, sf, tc, tr, ow, ti, fd, ft, fk, fn, fh, fl, fv, rs, nt)))))) (q, tn, sl, pc, wp, he, co, ca, cb, fs, fc, ts, tu, ux, tl, ul, tm, gc, ga, gp, ss, st, sf, tc, tr, ow, ti, fd, ft, fk, fn, fh, fl, fv, rs, nt))) ⟨n + 1, hU _ (by
          rcases hr with ⟨z1, z2⟩ | ⟨z1, z2⟩
          · subst z2; exact br_t z1 hp
          · subst z2; exact br_f z1 hp)⟩⟩ n 0 (by omega)
        rw [hi_0] at k
        exact ⟨n + 1, k⟩
      have goY : ∀ (r w : Int32) (post : Int32 → SY → Prop), (∀ post' : Int32 → SY → Prop, post' r (q, w, tn, sl, yd, nd, co, ca, cb, le, h', kl, tu, uy, tl, ul, tm, gc, ga, gp, ss, st, sf, fd, tc, tr, ow, ti, ft, fn, fh, fp, fz, fl, fv, rs, au) → wY_check_139 post' q tn sl yd nd co ca cb le h' kl tu uy tl ul tm gc ga gp ss st sf fd tc tr ow ti ft fn fh fp fz fl fv rs au (n + 1) (nI 0)) → post r (q, w, tn, sl, yd, nd, co, ca, cb, le, h', kl, tu, uy, tl, ul, tm, gc, ga, gp, ss, st, sf, fd, tc, tr, ow, ti, ft, fn, fh, fp, fz, fl, fv, rs, au) → wpY_check post (q, wp, tn, sl, yd, nd, co, ca, cb, le, he, kl, tu, uy, tl, ul, tm, gc, ga, gp, ss, st, sf, fd, tc, tr, ow, ti, ft, fn, fh, fp, fz, fl, fv, rs, au) := by
        intro r w post hU hp
        refine br_f ln ⟨n + 1, fy_loop hl' hn h0 (fun b hb z _ => absurd (hw b hb) z) (fun _ => ?_) n 0 (by omega) (fun j hj => absurd hj (Nat.not_lt_zero j))⟩
        have k := yh_loop (q := q) (tn := tn) (sl := sl) (yd := yd) (nd := nd) (co := co) (ca := ca) (cb := cb) (le := le) (he := he) (kl := kl) (tu := tu) (uy := uy) (tl := tl) (ul := ul) (tm := tm) (gc := gc) (ga := ga) (gp := gp) (ss := ss) (st := st) (sf := sf) (fd := fd) (tc := tc) (tr := tr) (ow := ow) (ti := ti) (ft := ft) (fn := fn) (fh := fh) (fp := fp) (fz := fz) (fl := fl) (fv := fv) (rs := rs) (au := au) (wp := nI n) hl' hn ⟨578, r5 post ⟨n + 1, hU post hp⟩⟩ n 0 (by omega)
        rw [hi_0] at k
        exact ⟨n + 1, k⟩
      rcases ul_loop (q := q) (tn := tn) (sl := sl) (pc := pc) (yd := yd) (nd := nd) (co := co) (ca := ca) (cb := cb) (fs := fs) (fc := fc) (ts := ts) (tu := tu) (ux := ux) (tl := tl) (ul := ul) (tm := tm) (gc := gc) (ga := ga) (gp := gp) (ss := ss) (st := st) (sf := sf) (tc := tc) (tr := tr) (ow := ow) (ti := ti) (fd := fd) (ft := ft) (fk := fk) (fn := fn) (fh := fh) (fl := fl) (fv := fv) (rs := rs) (nt := nt) (le := le) (kl := kl) (uy := uy) (fp := fp) (fz := fz) (au := au) (wp := -1) (he := h') hl hl' hn hw r1 n 0 (by omega) (fun j hj => absurd hj (Nat.not_lt_zero j)) with ⟨b, b1, b2, b3⟩ | ⟨b1, b2, b3⟩
      · exact ⟨2, nI b, h', fun post h => goX 2 (nI b) post b2 (Or.inr ⟨ix_neg b (by omega), rfl⟩) h, fun post h => goY 2 (nI b) post b3 h, fun z => absurd z (by decide)⟩
      · exact ⟨0, -1, h', fun post h => goX 0 (-1) post b2 (Or.inl ⟨rfl, rfl⟩) h, fun post h => goY 0 (-1) post b3 h, fun _ => ⟨c0, h0, hw, hbit, r3, b1⟩⟩
    · obtain ⟨b, b1, b2, b3⟩ := ls_w n hw
      have uq : ∀ b', ¬ wf_P co ca cb n b' → (∀ j, j < b' → wf_P co ca cb n j) → b' = b := by
        intro b' x1 x2
        rcases Nat.lt_trichotomy b' b with z | z | z
        · exact absurd (b3 b' z) x1
        · exact z
        · exact absurd (x2 b z) b2
      refine ⟨1, nI b, he, fun post h => ?_, fun post h => ?_, fun z => absurd z (by decide)⟩
      · unfold wpX_judgePending; dsimp only
        exact (show wpX_firstMalformed _ _ from hX _ ⟨n + 1, fx_loop hl hn h0 (fun b' hb' x1 x2 => by rw [uq b' x1 x2]; exact br_f (ix_neg b (by omega)) h) (fun z => absurd z hw) n 0 0 (by omega) (fun j hj => absurd hj (Nat.not_lt_zero j)) (fun z => absurd rfl z)⟩)
      · exact br_f ln ⟨n + 1, fy_loop hl' hn h0 (fun b' hb' x1 x2 => by rw [uq b' x1 x2]; exact h) (fun z => absurd z hw) n 0 (by omega) (fun j hj => absurd hj (Nat.not_lt_zero j))⟩
  · refine ⟨1, 0, he, fun post h => ?_, fun post h => ?_, fun z => absurd z (by decide)⟩
    · unfold wpX_judgePending; dsimp only
      exact (show wpX_firstMalformed _ _ from br_f pn (br_f h0 (br_f (by decide) h)))
    · have e : ((256 : Int32) + 0).toNatClampNeg = 256 := by decide
      have v : vp_in ((256 : Int32) + 0) 320 := vp_in_iff.mpr (by decide)
      refine br_f ln ⟨1, br_f (by rw [hl']; exact nI_nle (by omega) (by omega)) ?_⟩
      exact (show wpY_wellFormed _ _ _ from ⟨v, nm_r (e' := co 256) (by rw [e]) ⟨v, nm_e (br_t rfl (br_f h0 (br_t rfl h)))⟩⟩)
end
