theorem po_le (o : Nat) (a : Int32) : st_po o a ≤ 2 := by
  unfold st_po
  split
  · split <;> omega
  · split
    · omega
    · split <;> omega
theorem pu_le (o : Nat) (a : Int32) : st_pu o a ≤ 2 := by
  unfold st_pu
  split
  · split <;> omega
  · split
    · omega
    · split <;> omega
def ad_w (h : Nat → Int32) (y : Nat) (w : Int32) : Nat → Int32 := upd h y (h y ||| w)
def go_1 (h : Nat → Int32) (G : Bool) (y : Nat) (w : Int32) : Nat → Int32 := if G = true then ad_w h y w else h
def fo_2 (h : Nat → Int32) (G J : Bool) (y z : Nat) (w : Int32) : Nat → Int32 := go_1 (go_1 h G y w) J z w
theorem go_b (h : Nat → Int32) (G : Bool) (y x : Nat) (w : Int32) (i : Nat) : bt (go_1 h G y w x) i = (bt (h x) i || (G && (decide (x = y) && bt w i))) := by
  unfold go_1
  cases G with
  | false => simp
  | true =>
    unfold ad_w
    by_cases c : x = y
    · subst c; simp [pk_us, b_or]
    · simp [pk_un c, c]
theorem fo_b (h : Nat → Int32) (G J : Bool) (y z x : Nat) (w : Int32) (i : Nat) : bt (fo_2 h G J y z w x) i = (bt (h x) i || (((G && decide (x = y)) || (J && decide (x = z))) && bt w i)) := by
  unfold fo_2
  rw [go_b, go_b]
  cases G <;> cases J <;> cases decide (x = y) <;> cases decide (x = z) <;> cases bt (h x) i <;> cases bt w i <;> rfl
theorem fo_s (h : Nat → Int32) (G J : Bool) (y z : Nat) (w b : Int32) : fo_2 (fo_2 h G J y z w) G J y z b = fo_2 h G J y z (w ||| b) := by
  funext x
  apply b_ext
  intro i hi
  rw [fo_b, fo_b, fo_b, b_or]
  cases G <;> cases J <;> cases decide (x = y) <;> cases decide (x = z) <;> cases bt (h x) i <;> cases bt w i <;> cases bt b i <;> rfl
theorem fo_0 (h : Nat → Int32) (G J : Bool) (y z : Nat) : fo_2 h G J y z 0 = h := by
  funext x
  apply b_ext
  intro i hi
  rw [fo_b, b_0, Bool.and_false, Bool.or_false]
/-- whether anything is new: f against the heights at first and now -/
def nw_P (n : Nat) (base cur : Nat → Int32) (f : Int32) : Prop := (f = 0 ∧ cur = base) ∨ (f = 1 ∧ mu_h base n < mu_h cur n)
theorem nw_01 {n : Nat} {base cur : Nat → Int32} {f : Int32} (h : nw_P n base cur f) : f = 0 ∨ f = 1 := h.elim (fun z => Or.inl z.1) (fun z => Or.inr z.1)
theorem nw_u {n : Nat} {base cur : Nat → Int32} {f g : Int32} (h1 : nw_P n base cur f) (h2 : nw_P n base cur g) : f = g := by
  rcases h1 with ⟨a, b⟩ | ⟨a, b⟩ <;> rcases h2 with ⟨c, d⟩ | ⟨c, d⟩
  · rw [a, c]
  · rw [b] at d; exact absurd d (Nat.lt_irrefl _)
  · rw [d] at b; exact absurd b (Nat.lt_irrefl _)
  · rw [a, c]
theorem nw_tr {n : Nat} {a b c : Nat → Int32} {f g : Int32} (h1 : nw_P n a b f) (h2 : nw_P n b c g) : nw_P n a c (f ||| g) := by
  rcases h1 with ⟨rfl, rfl⟩ | ⟨rfl, x⟩ <;> rcases h2 with ⟨rfl, rfl⟩ | ⟨rfl, y⟩
  · exact Or.inl ⟨rfl, rfl⟩
  · exact Or.inr ⟨rfl, y⟩
  · exact Or.inr ⟨rfl, x⟩
  · exact Or.inr ⟨rfl, Nat.lt_trans x y⟩
def h9_P (n : Nat) (h : Nat → Int32) : Prop := ∀ y, y < n → n9_P (h y)
theorem h9_ad {n y : Nat} {h : Nat → Int32} {w : Int32} (h9 : h9_P n h) (hw : n9_P w) : h9_P n (ad_w h y w) := by
  intro x hx
  unfold ad_w
  by_cases c : x = y
  · subst c; rw [pk_us]; exact n9_or (h9 x hx) hw
  · rw [pk_un c]; exact h9 x hx
theorem h9_go {n y : Nat} {h : Nat → Int32} {w : Int32} {G : Bool} (h9 : h9_P n h) (hw : n9_P w) : h9_P n (go_1 h G y w) := by
  unfold go_1
  cases G with
  | false => rw [if_neg (by decide)]; exact h9
  | true => rw [if_pos rfl]; exact h9_ad h9 hw
theorem mo_fo {h : Nat → Int32} {G J : Bool} {y z n : Nat} {w : Int32} : mo_P h (fo_2 h G J y z w) n := by
  intro x hx b e
  rw [fo_b, e, Bool.true_or]
/-- what the flow of row i (code o, operand a, target t) makes of the heights -/
def gs_B (o n i : Nat) : Bool := decide (o ≠ 12 ∧ o ≠ 21 ∧ o ≠ 22) && decide (i + 1 < n)
def js_B (o : Nat) : Bool := decide (o = 12 ∨ o = 13)
def fo_h (h : Nat → Int32) (n i o t : Nat) (a : Int32) : Nat → Int32 := fo_2 h (gs_B o n i) (js_B o) (i + 1) t (af_w (h i) (st_po o a) (st_pu o a))
section
variable {q tn sl pc wp yd nd : Int32} {he co ca cb fs fc ts tu ux tl ul tm gc ga gp ss st sf tc tr ow ti fd ft fk fn fh fl fv rs nt le kl uy fp fz au : Nat → Int32}
theorem xl_ha {post : Int32 → Prop} {i o : Nat} (hi : i < 64) (ho : o < 24) (eo : co (256 + i) = nI o) (h : post (af_w (he i) (st_po o (ca (256 + i))) (st_pu o (ca (256 + i))))) : wpX_heightsAfter post (q, tn, sl, pc, wp, he, co, ca, cb, fs, fc, ts, tu, ux, tl, ul, tm, gc, ga, gp, ss, st, sf, tc, tr, ow, ti, fd, ft, fk, fn, fh, fl, fv, rs, nt) (nI i) := by
  have e1 : 256 + nI i = nI (256 + i) := ix_a 256 rfl i
  have e2 : (nI (256 + i)).toNatClampNeg = 256 + i := nI_clamp (by omega)
  have v1 : vp_in (256 + nI i) 320 := by rw [e1]; exact vp_in_nI (by omega) (by decide)
  have e3 : (nI i).toNatClampNeg = i := nI_clamp (by omega)
  refine ⟨v1, nm_r (e' := nI o) (by rw [e1, e2, eo]) ⟨v1, nm_r (e' := ca (256 + i)) (by rw [e1, e2]) ⟨vp_in_nI hi (by decide), xl_popped ho (xl_pushed ho ?_)⟩⟩⟩
  rw [e3]
  exact h
theorem xl_gon {post : Int32 → Prop} {o : Nat} (ho : o < 24) (h1 : (o ≠ 12 ∧ o ≠ 21 ∧ o ≠ 22) → post 1) (h0 : ¬ (o ≠ 12 ∧ o ≠ 21 ∧ o ≠ 22) → post 0) : wpX_goesOn post (nI o) := by
  by_cases c1 : o = 12
  · subst c1; exact br_t rfl (h0 (by omega))
  by_cases c2 : o = 21
  · subst c2; exact br_f (by decide) (br_t rfl (h0 (by omega)))
  by_cases c3 : o = 22
  · subst c3; exact br_f (by decide) (br_f (by decide) (br_t rfl (h0 (by omega))))
  exact br_f (ix_ne 12 rfl c1 (by omega) (by decide)) (br_f (ix_ne 21 rfl c2 (by omega) (by decide)) (br_f (ix_ne 22 rfl c3 (by omega) (by decide)) (h1 ⟨c1, c2, c3⟩)))
theorem yl_end2 {post : Int32 → Prop} {o : Nat} (ho : o < 24) (h1 : (o ≠ 12 ∧ o ≠ 21 ∧ o ≠ 22) → post 0) (h0 : ¬ (o ≠ 12 ∧ o ≠ 21 ∧ o ≠ 22) → post 1) : wpY_ends post (q, wp, tn, sl, yd, nd, co, ca, cb, le, he, kl, tu, uy, tl, ul, tm, gc, ga, gp, ss, st, sf, fd, tc, tr, ow, ti, ft, fn, fh, fp, fz, fl, fv, rs, au) (nI o) := by
  by_cases c1 : o = 12
  · subst c1; exact br_t rfl (h0 (by omega))
  by_cases c2 : o = 21
  · subst c2; exact br_f (by decide) (br_t rfl (h0 (by omega)))
  by_cases c3 : o = 22
  · subst c3; exact br_f (by decide) (br_f (by decide) (br_t rfl (h0 (by omega))))
  exact br_f (ix_ne 12 rfl c1 (by omega) (by decide)) (br_f (ix_ne 21 rfl c2 (by omega) (by decide)) (br_f (ix_ne 22 rfl c3 (by omega) (by decide)) (h1 ⟨c1, c2, c3⟩)))
/-- X's second half of a flow -/
theorem xl_85 {post : Int32 → SX → Prop} {n o t : Nat} {w f a : Int32} {base : Nat → Int32} (hn : n ≤ 64) (ho : o < 24) (ht : js_B o = true → a = nI t ∧ t < n) (hw : n9_P w) (hN : nw_P n base he f) (hp : ∀ g : Int32, nw_P n base (go_1 he (js_B o) t w) g → post g (q, tn, sl, pc, wp, go_1 he (js_B o) t w, co, ca, cb, fs, fc, ts, tu, ux, tl, ul, tm, gc, ga, gp, ss, st, sf, tc, tr, ow, ti, fd, ft, fk, fn, fh, fl, fv, rs, nt)) : wX_spreadFrom_85 post (nI o) a w f q tn sl pc wp he co ca cb fs fc ts tu ux tl ul tm gc ga gp ss st sf tc tr ow ti fd ft fk fn fh fl fv rs nt := by
  cases hJ : js_B o with
  | false =>
    have hno : ¬ (o = 12 ∨ o = 13) := by simpa [js_B] using hJ
    have e : go_1 he (js_B o) t w = he := by unfold go_1; rw [hJ, if_neg (by decide)]
    rw [e] at hp
    exact br_f (ix_ne 12 rfl (by omega) (by omega) (by decide)) (br_f (ix_ne 13 rfl (by omega) (by omega) (by decide)) ⟨nb_01 (nw_01 hN), hp f hN⟩)
  | true =>
    have hyes : o = 12 ∨ o = 13 := by simpa [js_B] using hJ
    obtain ⟨ea, htn⟩ := ht hJ
    have e : go_1 he (js_B o) t w = ad_w he t w := by unfold go_1; rw [hJ, if_pos rfl]
    rw [e] at hp
    have et : (nI t).toNatClampNeg = t := nI_clamp (by omega)
    have vt : vp_in (nI t) 64 := vp_in_nI (by omega) (by decide)
    have key : wX_spreadFrom_97 post a w f q tn sl pc wp he co ca cb fs fc ts tu ux tl ul tm gc ga gp ss st sf tc tr ow ti fd ft fk fn fh fl fv rs nt := by
      rw [ea]
      have k121 : ∀ g : Int32, nw_P n base (ad_w he t w) g → wX_spreadFrom_121 post (nI t) w g q tn sl pc wp he co ca cb fs fc ts tu ux tl ul tm gc ga gp ss st sf tc tr ow ti fd ft fk fn fh fl fv rs nt := fun g hg => ⟨vt, vt, nm_r (e' := ad_w he t w) (by rw [et]; rfl) ⟨nb_01 (nw_01 hg), hp g hg⟩⟩
      rcases hN with ⟨rfl, rfl⟩ | ⟨rfl, hlt⟩
      · refine br_t rfl ⟨vt, ?_⟩
        rw [et]
        rcases ad_c (he := he) (n := n) htn hw with ⟨z1, z2⟩ | ⟨z1, z2⟩
        · exact br_t ((bi_sub w (he t)).mpr z1) (k121 0 (Or.inl ⟨rfl, z2⟩))
        · refine br_f (fun z => z1 ((bi_sub w (he t)).mp z)) ?_
          unfold wX_spreadFrom_116
          exact k121 1 (Or.inr ⟨rfl, z2⟩)
      · refine br_f (by decide) ?_
        unfold wX_spreadFrom_116
        exact k121 1 (Or.inr ⟨rfl, Nat.lt_of_lt_of_le hlt (mu_mono (mo_ad he n t w))⟩)
    rcases hyes with rfl | rfl
    · exact br_t rfl key
    · exact br_f (by decide) (br_t rfl key)
theorem xl_sp {post : Int32 → SX → Prop} {n i o t : Nat} (hl : pc = nI n) (hn : n ≤ 64) (hi : i < n) (ho : o < 24) (eo : co (256 + i) = nI o) (ht : js_B o = true → ca (256 + i) = nI t ∧ t < n) (h9 : h9_P n he)
    (hp : ∀ g : Int32, nw_P n he (fo_h he n i o t (ca (256 + i))) g → post g (q, tn, sl, pc, wp, fo_h he n i o t (ca (256 + i)), co, ca, cb, fs, fc, ts, tu, ux, tl, ul, tm, gc, ga, gp, ss, st, sf, tc, tr, ow, ti, fd, ft, fk, fn, fh, fl, fv, rs, nt)) : wpX_spreadFrom post (q, tn, sl, pc, wp, he, co, ca, cb, fs, fc, ts, tu, ux, tl, ul, tm, gc, ga, gp, ss, st, sf, tc, tr, ow, ti, fd, ft, fk, fn, fh, fl, fv, rs, nt) (nI i) := by
  have e1 : 256 + nI i = nI (256 + i) := ix_a 256 rfl i
  have e2 : (nI (256 + i)).toNatClampNeg = 256 + i := nI_clamp (by omega)
  have v1 : vp_in (256 + nI i) 320 := by rw [e1]; exact vp_in_nI (by omega) (by decide)
  have hw : n9_P (af_w (he i) (st_po o (ca (256 + i))) (st_pu o (ca (256 + i)))) := af_9 _ (po_le _ _) (pu_le _ _)
  unfold fo_h fo_2 at hp
  refine ⟨v1, nm_r (e' := nI o) (by rw [e1, e2, eo]) ⟨v1, nm_r (e' := ca (256 + i)) (by rw [e1, e2]) (xl_ha (by omega) ho eo ?_)⟩⟩
  generalize af_w (he i) (st_po o (ca (256 + i))) (st_pu o (ca (256 + i))) = w at hp hw ⊢
  have stay : gs_B o n i = false → wX_spreadFrom_85 post (nI o) (ca (256 + i)) w 0 q tn sl pc wp he co ca cb fs fc ts tu ux tl ul tm gc ga gp ss st sf tc tr ow ti fd ft fk fn fh fl fv rs nt := by
    intro hG
    have e : go_1 he (gs_B o n i) (i + 1) w = he := by unfold go_1; rw [hG, if_neg (by decide)]
    rw [e] at hp
    exact xl_85 (t := t) hn ho ht hw (Or.inl ⟨rfl, rfl⟩) hp
  refine xl_gon ho (fun hg => br_f (by decide) ?_) (fun hg => br_t rfl (stay ?_))
  · by_cases c : i + 1 < n
    · have hG : gs_B o n i = true := by unfold gs_B; rw [decide_eq_true hg, decide_eq_true c]; rfl
      have e : go_1 he (gs_B o n i) (i + 1) w = ad_w he (i + 1) w := by unfold go_1; rw [hG, if_pos rfl]
      rw [e] at hp
      have ei : nI i + 1 = nI (i + 1) := nI_1 i
      have ec : (nI (i + 1)).toNatClampNeg = i + 1 := nI_clamp (by omega)
      have vi : vp_in (nI i + 1) 64 := by rw [ei]; exact vp_in_nI (by omega) (by decide)
      have k70 : ∀ g : Int32, nw_P n he (ad_w he (i + 1) w) g → wX_spreadFrom_70 post (nI i) (nI o) (ca (256 + i)) w g q tn sl pc wp he co ca cb fs fc ts tu ux tl ul tm gc ga gp ss st sf tc tr ow ti fd ft fk fn fh fl fv rs nt := fun g hg' =>
        ⟨vi, vi, nm_r (e' := ad_w he (i + 1) w) (by rw [ei, ec]; rfl) (xl_85 (t := t) hn ho ht hw hg' hp)⟩
      refine br_f (by rw [hl, ei]; exact nI_ge c (by omega)) ⟨vi, ?_⟩
      rw [ei, ec]
      rcases ad_c (he := he) (n := n) c hw with ⟨z1, z2⟩ | ⟨z1, z2⟩
      · exact br_t ((bi_sub w _).mpr z1) (k70 0 (Or.inl ⟨rfl, z2⟩))
      · exact br_f (fun z => z1 ((bi_sub w _).mp z)) (k70 1 (Or.inr ⟨rfl, z2⟩))
    · refine br_t (by rw [hl, nI_1]; exact nI_le (by omega) (by omega)) (stay ?_)
      unfold gs_B
      rw [decide_eq_false c, Bool.and_false]
  · unfold gs_B
    rw [decide_eq_false hg, Bool.false_and]
theorem yl_rc {post : Int32 → SY → Prop} {n y b : Nat} {f : Int32} {base : Nat → Int32} (hy : y < n) (hn : n ≤ 64) (hb : b < 9) (hN : nw_P n base he f)
    (hp : ∀ r : Int32, nw_P n base (ad_w he y ((1 : Int32) <<< (nI b &&& 31))) (f ||| r) → post r (q, wp, tn, sl, yd, nd, co, ca, cb, le, ad_w he y ((1 : Int32) <<< (nI b &&& 31)), kl, tu, uy, tl, ul, tm, gc, ga, gp, ss, st, sf, fd, tc, tr, ow, ti, ft, fn, fh, fp, fz, fl, fv, rs, au)) : wpY_reach post (q, wp, tn, sl, yd, nd, co, ca, cb, le, he, kl, tu, uy, tl, ul, tm, gc, ga, gp, ss, st, sf, fd, tc, tr, ow, ti, ft, fn, fh, fp, fz, fl, fv, rs, au) (nI y) (nI b) := by
  have ey : (nI y).toNatClampNeg = y := nI_clamp (by omega)
  have vy : vp_in (nI y) 64 := vp_in_nI (by omega) (by decide)
  have hw : n9_P ((1 : Int32) <<< (nI b &&& 31)) := fun j h1 h2 => by rw [b_one b (by omega) j h2, decide_eq_false (by omega)]
  have k18 : ∀ r : Int32, nw_P n he (ad_w he y ((1 : Int32) <<< (nI b &&& 31))) r → wY_reach_18 post (nI y) (nI b) r q wp tn sl yd nd co ca cb le he kl tu uy tl ul tm gc ga gp ss st sf fd tc tr ow ti ft fn fh fp fz fl fv rs au := fun r hr =>
    ⟨vy, vy, nm_r (e' := ad_w he y ((1 : Int32) <<< (nI b &&& 31))) (by rw [ey]; rfl) ⟨nb_01 (nw_01 hr), hp r (nw_tr hN hr)⟩⟩
  refine ⟨vy, ?_⟩
  rw [ey]
  have eq : he y ||| ((1 : Int32) <<< (nI b &&& 31)) = he y ↔ bt (he y) b = true := by
    constructor
    · intro h
      have e := congrArg (fun z => bt z b) h
      simp only [b_or, b_one b (by omega) b (by omega), decide_true, Bool.or_true] at e
      exact e.symm
    · intro h
      apply b_ext
      intro j hj
      rw [b_or, b_one b (by omega) j hj]
      by_cases c : j = b
      · subst c; rw [h]; rfl
      · rw [decide_eq_false c, Bool.or_false]
  rcases ad_c (he := he) (n := n) hy hw with ⟨z1, z2⟩ | ⟨z1, z2⟩
  · refine br_f (fun z => ?_) (k18 0 (Or.inl ⟨rfl, z2⟩))
    rw [bi_0 _ (by omega), eq.mp z1] at z
    exact absurd z (by decide)
  · refine br_t ((bi_0 _ (by omega)).mpr ?_) (k18 1 (Or.inr ⟨rfl, z2⟩))
    cases h : bt (he y) b with
    | false => rfl
    | true => exact absurd (eq.mpr h) z1
theorem yl_fit {post : Int32 → Prop} {i o h : Nat} (hi : i < 64) (hh : h < 9) (ho : o < 24) (eo : co (256 + i) = nI o) (h1 : (st_po o (ca (256 + i)) ≤ h ∧ h - st_po o (ca (256 + i)) + st_pu o (ca (256 + i)) ≤ 8) → post 1) (h0 : ¬ (st_po o (ca (256 + i)) ≤ h ∧ h - st_po o (ca (256 + i)) + st_pu o (ca (256 + i)) ≤ 8) → post 0) : wpY_fits post (q, wp, tn, sl, yd, nd, co, ca, cb, le, he, kl, tu, uy, tl, ul, tm, gc, ga, gp, ss, st, sf, fd, tc, tr, ow, ti, ft, fn, fh, fp, fz, fl, fv, rs, au) (nI i) (nI h) := by
  have e1 : 256 + nI i = nI (256 + i) := ix_a 256 rfl i
  have e2 : (nI (256 + i)).toNatClampNeg = 256 + i := nI_clamp (by omega)
  have v1 : vp_in (256 + nI i) 320 := by rw [e1]; exact vp_in_nI (by omega) (by decide)
  have pl := po_le o (ca (256 + i))
  have ql := pu_le o (ca (256 + i))
  refine ⟨v1, v1, ?_⟩
  rw [e1, e2, eo]
  refine yl_pops ho ⟨by rw [← e1]; exact v1, by rw [← e1]; exact v1, yl_pushes ho ?_⟩
  generalize st_po o (ca (256 + i)) = p at h1 h0 pl ⊢
  generalize st_pu o (ca (256 + i)) = r at h1 h0 ql ⊢
  by_cases c1 : h < p
  · exact br_t (nI_lt c1 (by omega)) (h0 (by omega))
  · have e3 : nI h - nI p + nI r = nI (h - p + r) := by rw [pk_sub (by omega), nI_add]
    refine br_f (nI_nlt (by omega) (by omega)) ?_
    rw [e3]
    by_cases c2 : 8 < h - p + r
    · exact br_t (nI_lt (a := 8) c2 (by omega)) (h0 (by omega))
    · exact br_f (nI_nlt (a := 8) (by omega) (by decide)) (h1 (by omega))
theorem ix_by {h p r : Nat} (hp : p ≤ h) : nI h + (nI r - nI p) = nI (h - p + r) := by
  obtain ⟨c, rfl⟩ : ∃ c, h = c + p := ⟨h - p, by omega⟩
  rw [show c + p - p + r = c + r by omega, ← nI_add, ← nI_add]
  grind
theorem yl_118 {post : Int32 → SY → Prop} {J : Int32 → Int32 → Int32 → Int32 → Int32 → Int32 → Int32 → Int32 → (Nat → Int32) → (Nat → Int32) → (Nat → Int32) → (Nat → Int32) → (Nat → Int32) → (Nat → Int32) → (Nat → Int32) → (Nat → Int32) → (Nat → Int32) → (Nat → Int32) → (Nat → Int32) → (Nat → Int32) → (Nat → Int32) → (Nat → Int32) → (Nat → Int32) → (Nat → Int32) → (Nat → Int32) → (Nat → Int32) → (Nat → Int32) → (Nat → Int32) → (Nat → Int32) → (Nat → Int32) → (Nat → Int32) → (Nat → Int32) → (Nat → Int32) → (Nat → Int32) → (Nat → Int32) → (Nat → Int32) → (Nat → Int32) → (Nat → Int32) → (Nat → Int32) → Prop} {n i o t h b : Nat} {f y : Int32} {base : Nat → Int32} (hn : n ≤ 64) (hi : i < n) (ho : o < 24) (ht : js_B o = true → ca (256 + i) = nI t ∧ t < n) (hb : b < 9) (hby : nI h + y = nI b) (hN : nw_P n base he f)
    (hp : ∀ g : Int32, nw_P n base (go_1 he (js_B o) t ((1 : Int32) <<< (nI b &&& 31))) g → J g (nI (h + 1)) q wp tn sl yd nd co ca cb le (go_1 he (js_B o) t ((1 : Int32) <<< (nI b &&& 31))) kl tu uy tl ul tm gc ga gp ss st sf fd tc tr ow ti ft fn fh fp fz fl fv rs au) : wY_flow_118 post J (nI i) f (nI o) y (nI h) q wp tn sl yd nd co ca cb le he kl tu uy tl ul tm gc ga gp ss st sf fd tc tr ow ti ft fn fh fp fz fl fv rs au := by
  cases hJ : js_B o with
  | false =>
    have hno : ¬ (o = 12 ∨ o = 13) := by simpa [js_B] using hJ
    have e : go_1 he (js_B o) t ((1 : Int32) <<< (nI b &&& 31)) = he := by unfold go_1; rw [hJ, if_neg (by decide)]
    rw [e] at hp
    exact br_f (ix_ne 12 rfl (by omega) (by omega) (by decide)) (br_f (ix_ne 13 rfl (by omega) (by omega) (by decide)) (nm_r (nI_1 h) (hp f hN)))
  | true =>
    have hyes : o = 12 ∨ o = 13 := by simpa [js_B] using hJ
    obtain ⟨ea, htn⟩ := ht hJ
    have e : go_1 he (js_B o) t ((1 : Int32) <<< (nI b &&& 31)) = ad_w he t ((1 : Int32) <<< (nI b &&& 31)) := by unfold go_1; rw [hJ, if_pos rfl]
    rw [e] at hp
    have e1 : 256 + nI i = nI (256 + i) := ix_a 256 rfl i
    have e2 : (nI (256 + i)).toNatClampNeg = 256 + i := nI_clamp (by omega)
    have v1 : vp_in (256 + nI i) 320 := by rw [e1]; exact vp_in_nI (by omega) (by decide)
    have key : wY_flow_130 post J (nI i) f (nI o) y (nI h) q wp tn sl yd nd co ca cb le he kl tu uy tl ul tm gc ga gp ss st sf fd tc tr ow ti ft fn fh fp fz fl fv rs au := by
      refine ⟨v1, ?_⟩
      rw [e1, e2, ea, hby]
      exact yl_rc htn hn hb hN (fun r hr => nm_e (nm_r (nI_1 h) (hp _ hr)))
    rcases hyes with rfl | rfl
    · exact br_t rfl key
    · exact br_f (by decide) (br_t rfl key)
theorem yl_fl {n i o t : Nat} (hl : le 4 = nI n) (hn : n ≤ 64) (hi : i < n) (ho : o < 24) (eo : co (256 + i) = nI o) (ht : js_B o = true → ca (256 + i) = nI t ∧ t < n) (h9 : h9_P n he) {post : Int32 → SY → Prop}
    (hp : ∀ g : Int32, nw_P n he (fo_h he n i o t (ca (256 + i))) g → post g (q, wp, tn, sl, yd, nd, co, ca, cb, le, fo_h he n i o t (ca (256 + i)), kl, tu, uy, tl, ul, tm, gc, ga, gp, ss, st, sf, fd, tc, tr, ow, ti, ft, fn, fh, fp, fz, fl, fv, rs, au)) : wpY_flow post (q, wp, tn, sl, yd, nd, co, ca, cb, le, he, kl, tu, uy, tl, ul, tm, gc, ga, gp, ss, st, sf, fd, tc, tr, ow, ti, ft, fn, fh, fp, fz, fl, fv, rs, au) (nI i) := by
  have e1 : 256 + nI i = nI (256 + i) := ix_a 256 rfl i
  have e2 : (nI (256 + i)).toNatClampNeg = 256 + i := nI_clamp (by omega)
  have v1 : vp_in (256 + nI i) 320 := by rw [e1]; exact vp_in_nI (by omega) (by decide)
  have e3 : (nI i).toNatClampNeg = i := nI_clamp (by omega)
  have vi : vp_in (nI i) 64 := vp_in_nI (by omega) (by decide)
  have pl := po_le o (ca (256 + i))
  have ql := pu_le o (ca (256 + i))
  have hx9 := h9 i hi
  unfold fo_h at hp
  rw [← fw_9 hx9 pl ql] at hp
  have key : ∀ m h : Nat, h + m = 9 → ∀ f : Int32, nw_P n he (fo_2 he (gs_B o n i) (js_B o) (i + 1) t (fw_w (he i) (st_po o (ca (256 + i))) (st_pu o (ca (256 + i))) h)) f →
      wY_flow_49 post (nI i) (nI o) (nI (st_pu o (ca (256 + i))) - nI (st_po o (ca (256 + i)))) (m + 1) f (nI h) q wp tn sl yd nd co ca cb le (fo_2 he (gs_B o n i) (js_B o) (i + 1) t (fw_w (he i) (st_po o (ca (256 + i))) (st_pu o (ca (256 + i))) h)) kl tu uy tl ul tm gc ga gp ss st sf fd tc tr ow ti ft fn fh fp fz fl fv rs au := by
    intro m
    induction m with
    | zero =>
      intro h hh f hN
      have : h = 9 := by omega
      subst this
      exact br_t (by decide) ⟨nb_01 (nw_01 hN), hp f hN⟩
    | succ m ih =>
      intro h hh f hN
      have ih' := ih (h + 1) (by omega)
      have self : bt (fo_2 he (gs_B o n i) (js_B o) (i + 1) t (fw_w (he i) (st_po o (ca (256 + i))) (st_pu o (ca (256 + i))) h) i) h = bt (he i) h := by
        rw [fo_b, decide_eq_false (show ¬ i = i + 1 by omega), Bool.and_false, Bool.false_or]
        cases hJ : js_B o with
        | false => rw [Bool.false_and, Bool.false_and, Bool.or_false]
        | true =>
          have hyes : o = 12 ∨ o = 13 := by simpa [js_B] using hJ
          have q0 : st_pu o (ca (256 + i)) = 0 := by
            rcases hyes with rfl | rfl
            · exact pu_12 _
            · exact pu_13 _
          rw [fw_b _ pl ql h (by omega) h (by omega), q0, decide_eq_false (show ¬ (0 ≤ h ∧ h < 9 ∧ st_po o (ca (256 + i)) + (h - 0) < h) by omega), Bool.false_and, Bool.and_false, Bool.or_false]
      refine br_f (ix_ge 9 rfl (by omega) (by decide)) ⟨vi, ?_⟩
      rw [e3]
      cases hb : bt (he i) h with
      | false =>
        refine br_t ((bi_0 _ (by omega)).mpr (by rw [self]; exact hb)) (nm_r (nI_1 h) ?_)
        rw [fw_w, if_neg (by rw [hb]; exact fun z => absurd z.1 (by decide))] at ih'
        exact ih' f hN
      | true =>
        refine br_f (fun z => ?_) ?_
        · rw [bi_0 _ (by omega), self, hb] at z
          exact absurd z (by decide)
        refine yl_fit (by omega) (by omega) ho eo (fun c => br_f (by decide) ?_) (fun c => br_t rfl (nm_r (nI_1 h) ?_))
        · rw [fw_w, if_pos ⟨hb, c⟩, ← fo_s] at ih'
          have hby := ix_by (r := st_pu o (ca (256 + i))) c.1
          generalize fo_2 he (gs_B o n i) (js_B o) (i + 1) t (fw_w (he i) (st_po o (ca (256 + i))) (st_pu o (ca (256 + i))) h) = cur at ih' hN ⊢
          generalize nI (st_pu o (ca (256 + i))) - nI (st_po o (ca (256 + i))) = yy at ih' hby ⊢
          have hb9 : h - st_po o (ca (256 + i)) + st_pu o (ca (256 + i)) < 9 := by omega
          generalize h - st_po o (ca (256 + i)) + st_pu o (ca (256 + i)) = b at ih' hby hb9 ⊢
          unfold fo_2 at ih'
          have stay : gs_B o n i = false → wY_flow_118 post (wY_flow_49 post (nI i) (nI o) yy (m + 1)) (nI i) f (nI o) yy (nI h) q wp tn sl yd nd co ca cb le cur kl tu uy tl ul tm gc ga gp ss st sf fd tc tr ow ti ft fn fh fp fz fl fv rs au := by
            intro hG
            have e : go_1 cur (gs_B o n i) (i + 1) ((1 : Int32) <<< (nI b &&& 31)) = cur := by unfold go_1; rw [hG, if_neg (by decide)]
            rw [e] at ih'
            exact yl_118 (he := cur) (t := t) hn hi ho ht hb9 hby hN ih'
          refine yl_end2 ho (fun hg => br_t rfl ?_) (fun hg => br_f (by decide) (stay ?_))
          · by_cases c' : i + 1 < n
            · have hG : gs_B o n i = true := by unfold gs_B; rw [decide_eq_true hg, decide_eq_true c']; rfl
              have e : go_1 cur (gs_B o n i) (i + 1) ((1 : Int32) <<< (nI b &&& 31)) = ad_w cur (i + 1) ((1 : Int32) <<< (nI b &&& 31)) := by unfold go_1; rw [hG, if_pos rfl]
              rw [e] at ih'
              refine br_f (by rw [hl, nI_1]; exact nI_ge c' (by omega)) ?_
              rw [nI_1, hby]
              exact yl_rc (he := cur) c' hn hb9 hN (fun r hr => nm_e (yl_118 (he := ad_w cur (i + 1) ((1 : Int32) <<< (nI b &&& 31))) (t := t) hn hi ho ht hb9 hby hr ih'))
            · refine br_t (by rw [hl, nI_1]; exact nI_le (by omega) (by omega)) (stay ?_)
              unfold gs_B
              rw [decide_eq_false c', Bool.and_false]
          · unfold gs_B
            rw [decide_eq_false hg, Bool.false_and]
        · rw [fw_w, if_neg (fun z => c z.2)] at ih'
          exact ih' f hN
  have k0 := key 9 0 rfl 0
  rw [fw_w, fo_0] at k0
  refine ⟨v1, nm_r (e' := nI o) (by rw [e1, e2, eo]) ⟨v1, ?_⟩⟩
  rw [e1, e2]
  exact yl_pushes ho ⟨by rw [← e1]; exact v1, yl_pops ho (nm_e ⟨10, k0 (Or.inl ⟨rfl, rfl⟩)⟩)⟩
end
