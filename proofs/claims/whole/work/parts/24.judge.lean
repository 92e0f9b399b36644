theorem cf_4 {co ca cb : Nat → Int32} {n : Nat} : ∀ i, (∀ j, j < i → wf_P co ca cb n j) → cf_n co 256 i ≤ 4
  | 0, _ => Nat.zero_le 4
  | i + 1, h => by
    have := cf_4 i (fun j hj => h j (by omega))
    by_cases c : co (256 + i) = 0
    · rw [cf_t c]
      have := (h i (by omega)).2 c
      omega
    · rw [cf_f c]; exact this
def hi_f (co h : Nat → Int32) (n : Nat) : Nat → Int32 := fun y => if y < n then (if co (256 + y) = 0 then 1 else 0) else h y
theorem hi_s (co h : Nat → Int32) (i : Nat) (v : Int32) (hv : v = if co (256 + i) = 0 then 1 else 0) : upd (hi_f co h i) i v = hi_f co h (i + 1) := by
  funext y
  unfold hi_f
  by_cases c : y = i
  · subst c
    rw [pk_us, if_pos (by omega), hv]
  · rw [pk_un c]
    by_cases c2 : y < i
    · have a : y < i + 1 := by omega
      simp only [if_pos c2, if_pos a]
    · have a : ¬ y < i + 1 := by omega
      simp only [if_neg c2, if_neg a]
theorem hi_0 (co h : Nat → Int32) : hi_f co h 0 = h := by
  funext y
  unfold hi_f
  rw [if_neg (Nat.not_lt_zero y)]
def op_n (co : Nat → Int32) (i : Nat) : Nat := (co (256 + i)).toNatClampNeg
def tg_n (ca : Nat → Int32) (i : Nat) : Nat := (ca (256 + i)).toNatClampNeg
theorem op_e {co ca cb : Nat → Int32} {n i : Nat} (h : wf_P co ca cb n i) : op_n co i < 24 ∧ co (256 + i) = nI (op_n co i) := by
  obtain ⟨⟨x, x1, x2⟩, _⟩ := h.1
  have e : op_n co i = x := by unfold op_n; rw [x2]; exact nI_clamp (by omega)
  rw [e]
  exact ⟨x1, x2⟩
theorem tg_e {co ca cb : Nat → Int32} {n i : Nat} (hn : n ≤ 64) (h : wf_P co ca cb n i) : js_B (op_n co i) = true → ca (256 + i) = nI (tg_n ca i) ∧ tg_n ca i < n := by
  intro hJ
  have hyes : op_n co i = 12 ∨ op_n co i = 13 := by simpa [js_B] using hJ
  have e := (op_e h).2
  have hj : wj_P co n i (ca (256 + i)) := h.1.2.2.2.1 (by
    rcases hyes with z | z
    · rw [e, z]; exact Or.inl rfl
    · rw [e, z]; exact Or.inr rfl)
  obtain ⟨x, x1, x2, x3, x4⟩ := hj
  have et : tg_n ca i = x := by unfold tg_n; rw [x1]; exact nI_clamp (by omega)
  rw [et]
  exact ⟨x1, x2⟩
theorem nw_go {n y : Nat} {h : Nat → Int32} {w : Int32} {G : Bool} (hG : G = true → y < n) (hw : n9_P w) : ∃ g : Int32, nw_P n h (go_1 h G y w) g := by
  unfold go_1
  cases G with
  | false => rw [if_neg (by decide)]; exact ⟨0, Or.inl ⟨rfl, rfl⟩⟩
  | true =>
    rw [if_pos rfl]
    rcases ad_c (he := h) (n := n) (hG rfl) hw with ⟨_, z⟩ | ⟨_, z⟩
    · exact ⟨0, Or.inl ⟨rfl, z⟩⟩
    · exact ⟨1, Or.inr ⟨rfl, z⟩⟩
theorem nw_fo {n i o t : Nat} {h : Nat → Int32} {a : Int32} (ht : js_B o = true → t < n) : ∃ g : Int32, nw_P n h (fo_h h n i o t a) g := by
  have hw : n9_P (af_w (h i) (st_po o a) (st_pu o a)) := af_9 _ (po_le _ _) (pu_le _ _)
  unfold fo_h fo_2
  obtain ⟨g1, z1⟩ := nw_go (n := n) (y := i + 1) (h := h) (G := gs_B o n i) (fun z => by
    unfold gs_B at z
    simp only [Bool.and_eq_true, decide_eq_true_eq] at z
    exact z.2) hw
  obtain ⟨g2, z2⟩ := nw_go (n := n) (y := t) (h := go_1 h (gs_B o n i) (i + 1) (af_w (h i) (st_po o a) (st_pu o a))) (G := js_B o) ht hw
  exact ⟨g1 ||| g2, nw_tr z1 z2⟩
theorem h9_fo {n i o t : Nat} {h : Nat → Int32} {a : Int32} (h9 : h9_P n h) : h9_P n (fo_h h n i o t a) := by
  have hw : n9_P (af_w (h i) (st_po o a) (st_pu o a)) := af_9 _ (po_le _ _) (pu_le _ _)
  exact h9_go (h9_go h9 hw) hw
def fi_h (co ca h : Nat → Int32) (n j : Nat) : Nat → Int32 := fo_h h n j (op_n co j) (tg_n ca j) (ca (256 + j))
section
variable {q tn sl pc wp yd nd : Int32} {he co ca cb fs fc ts tu ux tl ul tm gc ga gp ss st sf tc tr ow ti fd ft fk fn fh fl fv rs nt le kl uy fp fz au : Nat → Int32}
theorem fx_loop {n : Nat} (hl : pc = nI n) (hn : n ≤ 64) (h0 : co 256 = 0) {post : Int32 → Prop} (hb : ∀ b, b < n → ¬ wf_P co ca cb n b → (∀ j, j < b → wf_P co ca cb n j) → post (nI b)) (hg : (∀ j, j < n → wf_P co ca cb n j) → post (-1)) :
    ∀ d i s : Nat, i + d = n → (∀ j, j < i → wf_P co ca cb n j) → (i ≠ 0 → s = la_f co (i - 1)) → wX_firstMalformed_32 post (nI (cf_n co 256 n)) q tn sl pc wp he co ca cb fs fc ts tu ux tl ul tm gc ga gp ss st sf tc tr ow ti fd ft fk fn fh fl fv rs nt (d + 1) (nI (cf_n co 256 i)) (nI s) (nI i) := by
  intro d
  induction d with
  | zero =>
    intro i s hi hw _
    have : i = n := by omega
    subst this
    exact br_t (by rw [hl]; exact nI_le (Nat.le_refl _) (by omega)) (hg hw)
  | succ d ih =>
    intro i s hi hw hs
    have c4 := cf_4 i hw
    have e1 : 256 + nI i = nI (256 + i) := ix_a 256 rfl i
    have e2 : (nI (256 + i)).toNatClampNeg = 256 + i := nI_clamp (by omega)
    refine br_f (by rw [hl]; exact nI_ge (by omega) (by omega)) ⟨by rw [e1]; exact vp_in_nI (by omega) (by decide), ?_⟩
    rw [e1, e2]
    have key : ∀ c' : Nat, (co (256 + i) = 0 → cf_n co 256 i < 4) → c' = cf_n co 256 (i + 1) → wX_firstMalformed_61 post (wX_firstMalformed_32 post (nI (cf_n co 256 n)) q tn sl pc wp he co ca cb fs fc ts tu ux tl ul tm gc ga gp ss st sf tc tr ow ti fd ft fk fn fh fl fv rs nt (d + 1)) (nI (cf_n co 256 n)) (nI c') (nI (la_f co i)) (nI i) q tn sl pc wp he co ca cb fs fc ts tu ux tl ul tm gc ga gp ss st sf tc tr ow ti fd ft fk fn fh fl fv rs nt := by
      intro c' h4 ec
      have c5 : c' ≤ 4 := by
        rw [ec]
        by_cases c : co (256 + i) = 0
        · rw [cf_t c]; have := h4 c; omega
        · rw [cf_f c]; exact c4
      refine br_f (nI_nlt (a := 4) (by omega) (by decide)) (xl_hg hl hn h0 (by omega) (fun z => br_f (by decide) (nm_r (nI_1 i) ?_)) (fun z => br_t rfl (hb i (by omega) (fun y => z y.1) hw)))
      rw [ec]
      refine ih (i + 1) (la_f co i) (by omega) (fun j hj => ?_) (fun _ => by rw [Nat.add_sub_cancel])
      by_cases cj : j = i
      · subst cj; exact ⟨z, h4⟩
      · exact hw j (by omega)
    by_cases c : co (256 + i) = 0
    · have el : la_f co i = i := by
        cases i with
        | zero => rfl
        | succ i => simp only [la_f, if_pos c]
      rw [el] at key
      refine br_t c (nm_r (nI_1 _) ?_)
      by_cases q4 : cf_n co 256 i < 4
      · exact key _ (fun _ => q4) (cf_t c).symm
      · refine br_t (nI_lt (a := 4) (by omega) (by omega)) (hb i (by omega) (fun y => q4 (y.2 c)) hw)
    · have hi0 : i ≠ 0 := fun z => c (by rw [z]; exact h0)
      have el : la_f co i = s := by
        rw [hs hi0]
        obtain ⟨j, rfl⟩ : ∃ j, i = j + 1 := ⟨i - 1, by omega⟩
        rw [Nat.add_sub_cancel]
        simp only [la_f, if_neg c]
      rw [el] at key
      exact br_f c (key _ (fun z => absurd z c) (cf_f c).symm)
theorem fy_loop {n : Nat} (hl : le 4 = nI n) (hn : n ≤ 64) (h0 : co 256 = 0) {post : Int32 → SY → Prop} (hb : ∀ b, b < n → ¬ wf_P co ca cb n b → (∀ j, j < b → wf_P co ca cb n j) → post 1 (q, nI b, tn, sl, yd, nd, co, ca, cb, le, he, kl, tu, uy, tl, ul, tm, gc, ga, gp, ss, st, sf, fd, tc, tr, ow, ti, ft, fn, fh, fp, fz, fl, fv, rs, au)) (hg : (∀ j, j < n → wf_P co ca cb n j) → ∃ m : Nat, wY_check_57 post q (nI n) tn sl yd nd m 0 co ca cb le he kl tu uy tl ul tm gc ga gp ss st sf fd tc tr ow ti ft fn fh fp fz fl fv rs au) :
    ∀ d i : Nat, i + d = n → (∀ j, j < i → wf_P co ca cb n j) → wY_check_16 post q tn sl yd nd co ca cb le he kl tu uy tl ul tm gc ga gp ss st sf fd tc tr ow ti ft fn fh fp fz fl fv rs au (d + 1) (nI i) := by
  intro d
  induction d with
  | zero =>
    intro i hi hw
    have : i = n := by omega
    subst this
    exact br_t (by rw [hl]; exact nI_le (Nat.le_refl _) (by omega)) (hg hw)
  | succ d ih =>
    intro i hi hw
    refine br_f (by rw [hl]; exact nI_ge (by omega) (by omega)) ?_
    refine yl_wf hl hn h0 (by omega) (fun z => br_f (by decide) (nm_r (nI_1 i) (ih (i + 1) (by omega) (fun j hj => ?_)))) (fun z => br_t rfl (hb i (by omega) z hw))
    by_cases cj : j = i
    · subst cj; exact z
    · exact hw j (by omega)
theorem xh_loop {n : Nat} (hl : pc = nI n) (hn : n ≤ 64) {post : SX → Prop} (hg : ∃ m : Nat, wX_spreadHeights_44 post m 1 0 q tn sl pc wp (hi_f co he n) co ca cb fs fc ts tu ux tl ul tm gc ga gp ss st sf tc tr ow ti fd ft fk fn fh fl fv rs nt) : ∀ d i : Nat, i + d = n → wX_spreadHeights_2 post q tn sl pc wp (d + 1) (nI i) (hi_f co he i) co ca cb fs fc ts tu ux tl ul tm gc ga gp ss st sf tc tr ow ti fd ft fk fn fh fl fv rs nt := by
  intro d
  induction d with
  | zero =>
    intro i hi
    have : i = n := by omega
    subst this
    exact br_t (by rw [hl]; exact nI_le (Nat.le_refl _) (by omega)) hg
  | succ d ih =>
    intro i hi
    have z := ih (i + 1) (by omega)
    have e1 : 256 + nI i = nI (256 + i) := ix_a 256 rfl i
    have e2 : (nI (256 + i)).toNatClampNeg = 256 + i := nI_clamp (by omega)
    have e3 : (nI i).toNatClampNeg = i := nI_clamp (by omega)
    have vi : vp_in (nI i) 64 := vp_in_nI (by omega) (by decide)
    refine br_f (by rw [hl]; exact nI_ge (by omega) (by omega)) ⟨by rw [e1]; exact vp_in_nI (by omega) (by decide), ?_⟩
    rw [e1, e2]
    by_cases c : co (256 + i) = 0
    · exact br_t c ⟨vi, nm_r (e' := hi_f co he (i + 1)) (by rw [e3]; exact hi_s co he i 1 (by rw [if_pos c])) (nm_r (nI_1 i) z)⟩
    · exact br_f c ⟨vi, nm_r (e' := hi_f co he (i + 1)) (by rw [e3]; exact hi_s co he i 0 (by rw [if_neg c])) (nm_r (nI_1 i) z)⟩
theorem yh_loop {n : Nat} (hl : le 4 = nI n) (hn : n ≤ 64) {post : Int32 → SY → Prop} (hg : ∃ m : Nat, wY_check_99 post m 1 q wp tn sl yd nd co ca cb le (hi_f co he n) kl tu uy tl ul tm gc ga gp ss st sf fd tc tr ow ti ft fn fh fp fz fl fv rs au) : ∀ d i : Nat, i + d = n → wY_check_57 post q wp tn sl yd nd (d + 1) (nI i) co ca cb le (hi_f co he i) kl tu uy tl ul tm gc ga gp ss st sf fd tc tr ow ti ft fn fh fp fz fl fv rs au := by
  intro d
  induction d with
  | zero =>
    intro i hi
    have : i = n := by omega
    subst this
    exact br_t (by rw [hl]; exact nI_le (Nat.le_refl _) (by omega)) hg
  | succ d ih =>
    intro i hi
    have z := ih (i + 1) (by omega)
    have e1 : 256 + nI i = nI (256 + i) := ix_a 256 rfl i
    have e2 : (nI (256 + i)).toNatClampNeg = 256 + i := nI_clamp (by omega)
    have e3 : (nI i).toNatClampNeg = i := nI_clamp (by omega)
    have vi : vp_in (nI i) 64 := vp_in_nI (by omega) (by decide)
    refine br_f (by rw [hl]; exact nI_ge (by omega) (by omega)) ⟨by rw [e1]; exact vp_in_nI (by omega) (by decide), ?_⟩
    rw [e1, e2]
    by_cases c : co (256 + i) = 0
    · exact br_t c ⟨vi, nm_r (e' := hi_f co he (i + 1)) (by rw [e3]; exact hi_s co he i 1 (by rw [if_pos c])) (nm_r (nI_1 i) z)⟩
    · exact br_f c ⟨vi, nm_r (e' := hi_f co he (i + 1)) (by rw [e3]; exact hi_s co he i 0 (by rw [if_neg c])) (nm_r (nI_1 i) z)⟩
theorem ps_loop {n : Nat} {wy : Int32} (hl : pc = nI n) (hl' : le 4 = nI n) (hn : n ≤ 64) (hw : ∀ j, j < n → wf_P co ca cb n j) (base : Nat → Int32) : ∀ (d i : Nat) (he : Nat → Int32) (f : Int32), i + d = n → h9_P n he → nw_P n base he f →
    ∃ (h' : Nat → Int32) (f' : Int32), nw_P n base h' f' ∧ h9_P n h' ∧ mo_P he h' n ∧ (f' = 0 → he = base ∧ ∀ j, i ≤ j → j < n → fi_h co ca base n j = base) ∧
    (∀ (post : SX → Prop) (J : Int32 → Int32 → Int32 → Int32 → Int32 → Int32 → Int32 → (Nat → Int32) → (Nat → Int32) → (Nat → Int32) → (Nat → Int32) → (Nat → Int32) → (Nat → Int32) → (Nat → Int32) → (Nat → Int32) → (Nat → Int32) → (Nat → Int32) → (Nat → Int32) → (Nat → Int32) → (Nat → Int32) → (Nat → Int32) → (Nat → Int32) → (Nat → Int32) → (Nat → Int32) → (Nat → Int32) → (Nat → Int32) → (Nat → Int32) → (Nat → Int32) → (Nat → Int32) → (Nat → Int32) → (Nat → Int32) → (Nat → Int32) → (Nat → Int32) → (Nat → Int32) → (Nat → Int32) → (Nat → Int32) → (Nat → Int32) → (Nat → Int32) → Prop) (m : Nat), J f' (nI (m + 1)) q tn sl pc wp h' co ca cb fs fc ts tu ux tl ul tm gc ga gp ss st sf tc tr ow ti fd ft fk fn fh fl fv rs nt → wX_spreadHeights_59 post J (nI m) (d + 1) f (nI i) q tn sl pc wp he co ca cb fs fc ts tu ux tl ul tm gc ga gp ss st sf tc tr ow ti fd ft fk fn fh fl fv rs nt) ∧
    (∀ (post : Int32 → SY → Prop) (J : Int32 → Int32 → Int32 → Int32 → Int32 → Int32 → Int32 → (Nat → Int32) → (Nat → Int32) → (Nat → Int32) → (Nat → Int32) → (Nat → Int32) → (Nat → Int32) → (Nat → Int32) → (Nat → Int32) → (Nat → Int32) → (Nat → Int32) → (Nat → Int32) → (Nat → Int32) → (Nat → Int32) → (Nat → Int32) → (Nat → Int32) → (Nat → Int32) → (Nat → Int32) → (Nat → Int32) → (Nat → Int32) → (Nat → Int32) → (Nat → Int32) → (Nat → Int32) → (Nat → Int32) → (Nat → Int32) → (Nat → Int32) → (Nat → Int32) → (Nat → Int32) → (Nat → Int32) → (Nat → Int32) → (Nat → Int32) → (Nat → Int32) → Prop), J f' q wy tn sl yd nd co ca cb le h' kl tu uy tl ul tm gc ga gp ss st sf fd tc tr ow ti ft fn fh fp fz fl fv rs au → wY_check_107 post J (d + 1) f (nI i) q wy tn sl yd nd co ca cb le he kl tu uy tl ul tm gc ga gp ss st sf fd tc tr ow ti ft fn fh fp fz fl fv rs au) := by
  intro d
  induction d with
  | zero =>
    intro i he f hi h9 hN
    have : i = n := by omega
    subst this
    refine ⟨he, f, hN, h9, fun y hy b e => e, fun z => ⟨?_, fun j j1 j2 => absurd j1 (by omega)⟩, fun post J m h => br_t (by rw [hl]; exact nI_le (Nat.le_refl _) (by omega)) (nm_r (nI_1 m) h), fun post J h => br_t (by rw [hl']; exact nI_le (Nat.le_refl _) (by omega)) h⟩
    rcases hN with ⟨_, z2⟩ | ⟨z1, _⟩
    · exact z2
    · rw [z1] at z; exact absurd z (by decide)
  | succ d ih =>
    intro i he f hi h9 hN
    obtain ⟨ho, eo⟩ := op_e (hw i (by omega))
    have ht := tg_e hn (hw i (by omega))
    obtain ⟨g, hg⟩ := nw_fo (n := n) (i := i) (o := op_n co i) (t := tg_n ca i) (h := he) (a := ca (256 + i)) (fun z => (ht z).2)
    obtain ⟨h', f', r1, r2, r3, r4, r5, r6⟩ := ih (i + 1) (fo_h he n i (op_n co i) (tg_n ca i) (ca (256 + i))) (f ||| g) (by omega) (h9_fo h9) (nw_tr hN hg)
    refine ⟨h', f', r1, r2, mo_tr mo_fo r3, fun z => ?_, fun post J m h => br_f (by rw [hl]; exact nI_ge (by omega) (by omega)) ?_, fun post J h => br_f (by rw [hl']; exact nI_ge (by omega) (by omega)) ?_⟩
    · obtain ⟨q1, q2⟩ := r4 z
      have hm : mu_h base n ≤ mu_h he n := by
        rcases hN with ⟨_, z2⟩ | ⟨_, z2⟩
        · rw [z2]; exact Nat.le_refl _
        · exact Nat.le_of_lt z2
      have hb : he = base := by
        rcases hN with ⟨_, z2⟩ | ⟨_, z2⟩
        · exact z2
        · have := mu_mono (mo_fo (h := he) (G := gs_B (op_n co i) n i) (J := js_B (op_n co i)) (y := i + 1) (z := tg_n ca i) (n := n) (w := af_w (he i) (st_po (op_n co i) (ca (256 + i))) (st_pu (op_n co i) (ca (256 + i)))))
          rw [show fo_2 he (gs_B (op_n co i) n i) (js_B (op_n co i)) (i + 1) (tg_n ca i) (af_w (he i) (st_po (op_n co i) (ca (256 + i))) (st_pu (op_n co i) (ca (256 + i)))) = base from q1] at this
          exact absurd z2 (by omega)
      refine ⟨hb, fun j j1 j2 => ?_⟩
      by_cases cj : j = i
      · subst cj
        rw [hb] at q1
        exact q1
      · exact q2 j (by omega) j2
    · refine xl_sp hl hn (by omega) ho eo ht h9 (fun g' hg' => ?_)
      rw [nw_u hg' hg]
      have z := r5 post J m h
      rcases nw_01 hg with e | e
      · subst e
        rw [bi_o0] at z
        exact br_t rfl (nm_r (nI_1 i) z)
      · subst e
        have ef : f ||| 1 = 1 := by rcases nw_01 hN with e | e <;> rw [e] <;> rfl
        rw [ef] at z
        exact br_f (by decide) (nm_r (nI_1 i) z)
    · refine yl_fl hl' hn (by omega) ho eo ht h9 (fun g' hg' => ?_)
      rw [nw_u hg' hg]
      exact nm_e (nm_r (nI_1 i) (r6 post J h))
theorem hs_loop {n : Nat} {wy : Int32} (hl : pc = nI n) (hl' : le 4 = nI n) (hn : n ≤ 64) (hw : ∀ j, j < n → wf_P co ca cb n j) : ∀ (d m : Nat) (he : Nat → Int32), m + d = 577 → h9_P n he → m ≤ mu_h he n →
    ∃ h' : Nat → Int32, h9_P n h' ∧ mo_P he h' n ∧ (∀ j, j < n → fi_h co ca h' n j = h') ∧
    (∀ post : SX → Prop, post (q, tn, sl, pc, wp, h', co, ca, cb, fs, fc, ts, tu, ux, tl, ul, tm, gc, ga, gp, ss, st, sf, tc, tr, ow, ti, fd, ft, fk, fn, fh, fl, fv, rs, nt) → wX_spreadHeights_44 post (d + 1) 1 (nI m) q tn sl pc wp he co ca cb fs fc ts tu ux tl ul tm gc ga gp ss st sf tc tr ow ti fd ft fk fn fh fl fv rs nt) ∧ (∀ post : Int32 → SY → Prop, (∃ m : Nat, wY_check_139 post q tn sl yd nd co ca cb le h' kl tu uy tl ul tm gc ga gp ss st sf fd tc tr ow ti ft fn fh fp fz fl fv rs au m 0) → wY_check_99 post (d + 1) 1 q wy tn sl yd nd co ca cb le he kl tu uy tl ul tm gc ga gp ss st sf fd tc tr ow ti ft fn fh fp fz fl fv rs au) := by
  intro d
  induction d with
  | zero =>
    intro m he hm h9 hmu
    have := mu_le he n
    omega
  | succ d ih =>
    intro m he hm h9 hmu
    have hle := mu_le he n
    obtain ⟨h', f', r1, r2, r3, r4, r5, r6⟩ := ps_loop (q := q) (tn := tn) (sl := sl) (pc := pc) (wp := wp) (yd := yd) (nd := nd) (co := co) (ca := ca) (cb := cb) (fs := fs) (fc := fc) (ts := ts) (tu := tu) (ux := ux) (tl := tl) (ul := ul) (tm := tm) (gc := gc) (ga := ga) (gp := gp) (ss := ss) (st := st) (sf := sf) (tc := tc) (tr := tr) (ow := ow) (ti := ti) (fd := fd) (ft := ft) (fk := fk) (fn := fn) (fh := fh) (fl := fl) (fv := fv) (rs := rs) (nt := nt) (le := le) (kl := kl) (uy := uy) (fp := fp) (fz := fz) (au := au) (wy := wy) hl hl' hn hw he n 0 he 0 (by omega) h9 (Or.inl ⟨rfl, rfl⟩)
    have nx : ¬ (577 : Int32) ≤ nI m := ix_ge 577 rfl (by omega) (by decide)
    rcases r1 with ⟨z1, z2⟩ | ⟨z1, z2⟩
    · subst z1 z2
      obtain ⟨_, q2⟩ := r4 rfl
      refine ⟨h', r2, r3, fun j hj => q2 j (by omega) hj, fun post h => br_f nx (br_f (by decide) ⟨n + 1, r5 post _ m ?_⟩), fun post h => br_f (by decide) ⟨n + 1, r6 post _ (br_t rfl h)⟩⟩
      by_cases c : (577 : Int32) ≤ nI (m + 1)
      · exact br_t c h
      · exact br_f c (br_t rfl h)
    · subst z1
      obtain ⟨h2, s1, s2, s3, s4, s5⟩ := ih (m + 1) h' (by omega) r2 (by omega)
      exact ⟨h2, s1, mo_tr r3 s2, s3, fun post h => br_f nx (br_f (by decide) ⟨n + 1, r5 post _ m (s4 post h)⟩), fun post h => br_f (by decide) ⟨n + 1, r6 post _ (s5 post h)⟩⟩
end
