/-- the FUNC around row i of the pending bundle, whose row 0 is a FUNC -/
def la_f (co : Nat → Int32) : Nat → Nat
  | 0 => 0
  | i + 1 => if co (256 + (i + 1)) = 0 then i + 1 else la_f co i
theorem la_le (co : Nat → Int32) : ∀ i, la_f co i ≤ i
  | 0 => Nat.le_refl 0
  | i + 1 => by
    have := la_le co i
    simp only [la_f]
    split <;> omega
theorem la_0 {co : Nat → Int32} (h0 : co 256 = 0) : ∀ i, co (256 + la_f co i) = 0
  | 0 => h0
  | i + 1 => by
    have := la_0 h0 i
    simp only [la_f]
    split
    · assumption
    · exact this
theorem la_gt (co : Nat → Int32) : ∀ i j, la_f co i < j → j ≤ i → co (256 + j) ≠ 0
  | 0, j => fun h1 h2 => absurd h1 (by simp only [la_f]; omega)
  | i + 1, j => fun h1 h2 => by
    simp only [la_f] at h1
    by_cases c : co (256 + (i + 1)) = 0
    · rw [if_pos c] at h1; omega
    · rw [if_neg c] at h1
      by_cases cj : j = i + 1
      · rw [cj]; exact c
      · exact la_gt co i j h1 (by omega)
theorem la_eq {co : Nat → Int32} {s : Nat} (hs : co (256 + s) = 0) (h0 : co 256 = 0) : ∀ a, s ≤ a → (∀ j, s < j → j ≤ a → co (256 + j) ≠ 0) → la_f co a = s := by
  intro a
  induction a with
  | zero => intro h1 _; rw [show s = 0 by omega]; rfl
  | succ a ih =>
    intro h1 h2
    simp only [la_f]
    by_cases c : s = a + 1
    · rw [← c, if_pos hs]
    · rw [if_neg (h2 (a + 1) (by omega) (Nat.le_refl _))]
      exact ih (by omega) (fun j h3 h4 => h2 j h3 (by omega))
/-- row x lies in the function that begins at s, behind its FUNC -/
theorem la_in {co : Nat → Int32} (h0 : co 256 = 0) {i x : Nat} : (la_f co i < x ∧ ∀ j, la_f co i < j → j ≤ x → co (256 + j) ≠ 0) ↔ (co (256 + x) ≠ 0 ∧ la_f co x = la_f co i) := by
  constructor
  · rintro ⟨h1, h2⟩
    exact ⟨h2 x h1 (Nat.le_refl _), la_eq (la_0 h0 i) h0 x (by omega) h2⟩
  · rintro ⟨h1, h2⟩
    have hl := la_le co x
    have h3 : la_f co x ≠ x := fun z => h1 (by rw [← z]; exact la_0 h0 x)
    exact ⟨by omega, fun j h4 h5 => la_gt co x j (by omega) h5⟩
def wj_P (co : Nat → Int32) (n i : Nat) (a : Int32) : Prop := ∃ x : Nat, a = nI x ∧ x < n ∧ co (256 + x) ≠ 0 ∧ la_f co x = la_f co i
/-- the operands of row i are good (o: its code, a, b: its operands, F: the bundle's functions) -/
def wg_P (co ca : Nat → Int32) (n F i : Nat) (o a b : Int32) : Prop :=
  (∃ x : Nat, x < 24 ∧ o = nI x) ∧ (o = 0 → ¬ a < 1 ∧ ¬ 4 < a) ∧ (o = 10 ∨ o = 11 → ¬ a < 0 ∧ ¬ ca (256 + la_f co i) ≤ a) ∧ (o = 12 ∨ o = 13 → wj_P co n i a) ∧
  (o = 14 ∨ o = 15 ∨ o = 17 → ¬ a < 0 ∧ ¬ nI F ≤ a) ∧ (o = 16 → ¬ a < 0 ∧ ¬ 4 ≤ a) ∧ (o = 18 → (¬ a < 0 ∧ ¬ 4 ≤ a) ∧ (¬ b < 0 ∧ ¬ 84 ≤ b))
def wf_P (co ca cb : Nat → Int32) (n i : Nat) : Prop := wg_P co ca n (cf_n co 256 n) i (co (256 + i)) (ca (256 + i)) (cb (256 + i)) ∧ (co (256 + i) = 0 → cf_n co 256 i < 4)
theorem ix_l1 (a : Int32) : a ≤ 0 ↔ a < 1 := by
  rw [Int32.le_iff_toInt_le, Int32.lt_iff_toInt_lt, show (0 : Int32).toInt = 0 from by decide, show (1 : Int32).toInt = 1 from by decide]
  omega
theorem ix_l5 (a : Int32) : 5 ≤ a ↔ 4 < a := by
  rw [Int32.le_iff_toInt_le, Int32.lt_iff_toInt_lt, show (5 : Int32).toInt = 5 from by decide, show (4 : Int32).toInt = 4 from by decide]
  omega
theorem ix_l24 (a : Int32) : 24 ≤ a ↔ 23 < a := by
  rw [Int32.le_iff_toInt_le, Int32.lt_iff_toInt_lt, show (24 : Int32).toInt = 24 from by decide, show (23 : Int32).toInt = 23 from by decide]
  omega
section
variable {q tn sl pc wp yd nd : Int32} {he co ca cb fs fc ts tu ux tl ul tm gc ga gp ss st sf tc tr ow ti fd ft fk fn fh fl fv rs nt le kl uy fp fz au : Nat → Int32}
theorem xl_ins {post : Int32 → Prop} {n i : Nat} {a : Int32} (hl : pc = nI n) (hn : n ≤ 64) (h0 : co 256 = 0) (hi : i < n) (h1 : wj_P co n i a → post 1) (hz : ¬ wj_P co n i a → post 0) : wpX_isInsideFunction post (q, tn, sl, pc, wp, he, co, ca, cb, fs, fc, ts, tu, ux, tl, ul, tm, gc, ga, gp, ss, st, sf, tc, tr, ow, ti, fd, ft, fk, fn, fh, fl, fv, rs, nt) a (nI (la_f co i)) := by
  have ll := la_le co i
  by_cases c1 : a ≤ nI (la_f co i)
  · refine br_t c1 (hz ?_)
    rintro ⟨x, rfl, g1, g2, g3⟩
    rw [nI_leI (by omega) (by omega)] at c1
    have := (la_in h0 (i := i) (x := x)).mpr ⟨g2, g3⟩
    omega
  · have c0 : ¬ a < 0 := fun z => c1 (Int32.le_of_lt (Int32.lt_of_lt_of_le z (nI_pos' (by omega))))
    obtain ⟨x, hx, rfl⟩ := nI_of c0
    rw [nI_leI (by omega) (by omega)] at c1
    have c1' : ¬ nI x ≤ nI (la_f co i) := nI_ge (by omega) (by omega)
    by_cases c2 : x < n
    · have key : ∀ m j : Nat, j + m = x + 1 → la_f co i < j → (∀ y, la_f co i < y → y < j → co (256 + y) ≠ 0) → wX_isInsideFunction_19 post (nI x) q tn sl pc wp he co ca cb fs fc ts tu ux tl ul tm gc ga gp ss st sf tc tr ow ti fd ft fk fn fh fl fv rs nt (m + 1) (nI j) := by
        intro m
        induction m with
        | zero =>
          intro j hj g1 g2
          refine br_t (nI_lt (by omega) (by omega)) (h1 ⟨x, rfl, c2, ?_⟩)
          exact (la_in h0).mp ⟨by omega, fun y y1 y2 => g2 y y1 (by omega)⟩
        | succ m ih =>
          intro j hj g1 g2
          have e1 : 256 + nI j = nI (256 + j) := ix_a 256 rfl j
          have e2 : (nI (256 + j)).toNatClampNeg = 256 + j := nI_clamp (by omega)
          refine br_f (nI_nlt (by omega) (by omega)) ⟨by rw [e1]; exact vp_in_nI (by omega) (by decide), ?_⟩
          rw [e1, e2]
          by_cases c : co (256 + j) = 0
          · refine br_t c (hz ?_)
            rintro ⟨x', ex, q1, q2, q3⟩
            rw [nI_eq (by omega) (by omega)] at ex
            subst ex
            exact ((la_in h0 (i := i)).mpr ⟨q2, q3⟩).2 j g1 (by omega) c
          · refine br_f c (nm_r (nI_1 j) (ih (j + 1) (by omega) (by omega) (fun y y1 y2 => ?_)))
            by_cases cy : y = j
            · rw [cy]; exact c
            · exact g2 y y1 (by omega)
      refine br_f c1' (br_t (by rw [hl]; exact nI_lt c2 (by omega)) (nm_r (nI_1 _) ⟨x - la_f co i + 1, key _ _ (by omega) (by omega) (fun y y1 y2 => absurd y2 (by omega))⟩))
    · refine br_f c1' (br_f (by rw [hl]; exact nI_nlt (by omega) hx) (hz ?_))
      rintro ⟨x', ex, q1, q2, q3⟩
      rw [nI_eq (by omega) (by omega)] at ex
      omega
theorem yl_ar {post : Int32 → Prop} {i : Nat} (hi : i < 64) (h0 : co 256 = 0) (h : post (nI (la_f co i))) : wpY_around post (q, wp, tn, sl, yd, nd, co, ca, cb, le, he, kl, tu, uy, tl, ul, tm, gc, ga, gp, ss, st, sf, fd, tc, tr, ow, ti, ft, fn, fh, fp, fz, fl, fv, rs, au) (nI i) := by
  have key : ∀ m : Nat, m < 64 → post (nI (la_f co m)) → wY_around_2 post q wp tn sl yd nd co ca cb le he kl tu uy tl ul tm gc ga gp ss st sf fd tc tr ow ti ft fn fh fp fz fl fv rs au (m + 1) (nI m) := by
    intro m
    induction m with
    | zero => intro _ hp; exact ⟨vp_in_iff.mpr (by decide), br_t h0 hp⟩
    | succ m ih =>
      intro hm hp
      have e1 : 256 + nI (m + 1) = nI (256 + (m + 1)) := ix_a 256 rfl _
      have e2 : (nI (256 + (m + 1))).toNatClampNeg = 256 + (m + 1) := nI_clamp (by omega)
      refine ⟨by rw [e1]; exact vp_in_nI (by omega) (by decide), ?_⟩
      rw [e1, e2]
      by_cases c : co (256 + (m + 1)) = 0
      · simp only [la_f, if_pos c] at hp
        exact br_t c hp
      · simp only [la_f, if_neg c] at hp
        exact br_f c (nm_r (pk_m1 m) (ih (by omega) hp))
  exact ⟨i + 1, key i hi h⟩
theorem yl_sf {post : Int32 → Prop} {n i : Nat} {a : Int32} (hl : le 4 = nI n) (hn : n ≤ 64) (h0 : co 256 = 0) (hi : i < n) (h1 : wj_P co n i a → post 1) (hz : ¬ wj_P co n i a → post 0) : wpY_sameFunction post (q, wp, tn, sl, yd, nd, co, ca, cb, le, he, kl, tu, uy, tl, ul, tm, gc, ga, gp, ss, st, sf, fd, tc, tr, ow, ti, ft, fn, fh, fp, fz, fl, fv, rs, au) (nI i) a := by
  by_cases c0 : a < 0
  · refine br_t c0 (hz ?_)
    rintro ⟨x, rfl, g1, g2, g3⟩
    exact absurd c0 (nI_pos (by omega))
  · obtain ⟨x, hx, rfl⟩ := nI_of c0
    by_cases c2 : x < n
    · have e1 : 256 + nI x = nI (256 + x) := ix_a 256 rfl x
      have e2 : (nI (256 + x)).toNatClampNeg = 256 + x := nI_clamp (by omega)
      refine br_f c0 (br_f (by rw [hl]; exact nI_ge c2 (by omega)) ⟨by rw [e1]; exact vp_in_nI (by omega) (by decide), ?_⟩)
      rw [e1, e2]
      by_cases c : co (256 + x) = 0
      · refine br_t c (hz ?_)
        rintro ⟨x', ex, q1, q2, q3⟩
        rw [nI_eq (by omega) (by omega)] at ex
        subst ex
        exact q2 c
      · refine br_f c (yl_ar (by omega) h0 (yl_ar (by omega) h0 ?_))
        have lx := la_le co x
        have li := la_le co i
        by_cases ce : la_f co x = la_f co i
        · exact br_t (by rw [ce]) (h1 ⟨x, rfl, c2, c, ce⟩)
        · refine br_f (fun z => ce ((nI_eq (by omega) (by omega)).mp z)) (hz ?_)
          rintro ⟨x', ex, q1, q2, q3⟩
          rw [nI_eq (by omega) (by omega)] at ex
          subst ex
          exact ce q3
    · refine br_f c0 (br_t (by rw [hl]; exact nI_le (by omega) hx) (hz ?_))
      rintro ⟨x', ex, q1, q2, q3⟩
      rw [nI_eq (by omega) (by omega)] at ex
      omega
theorem pa_a {post : Int32 → Prop} {p : Int32} (c : p < 0) (h : post 0) : wpX_isPath post p := br_t c h
theorem pa_o {post : Int32 → Prop} {p : Int32} (c : ¬ p < 0) (d : (84 : Int32) ≤ p) (h : post 0) : wpX_isPath post p := br_f c (br_t d h)
theorem pa_c {post : Int32 → Prop} {p : Int32} (c : ¬ p < 0) (d : ¬ (84 : Int32) ≤ p) (h : post 1) : wpX_isPath post p := br_f c (br_f d h)
theorem nb_01 {r : Int32} (h : r = 0 ∨ r = 1) : narrow .boolean (.int r) = .int r := by
  rcases h with rfl | rfl <;> rfl
theorem xl_hg {post : Int32 → Prop} {n F i : Nat} (hl : pc = nI n) (hn : n ≤ 64) (h0 : co 256 = 0) (hi : i < n) (h1 : wg_P co ca n F i (co (256 + i)) (ca (256 + i)) (cb (256 + i)) → post 1) (hz : ¬ wg_P co ca n F i (co (256 + i)) (ca (256 + i)) (cb (256 + i)) → post 0) : wpX_hasGoodOperands post (q, tn, sl, pc, wp, he, co, ca, cb, fs, fc, ts, tu, ux, tl, ul, tm, gc, ga, gp, ss, st, sf, tc, tr, ow, ti, fd, ft, fk, fn, fh, fl, fv, rs, nt) (nI i) (nI (la_f co i)) (nI F) := by
  have ll := la_le co i
  have e1 : 256 + nI i = nI (256 + i) := ix_a 256 rfl i
  have e2 : (nI (256 + i)).toNatClampNeg = 256 + i := nI_clamp (by omega)
  have v1 : vp_in (256 + nI i) 320 := by rw [e1]; exact vp_in_nI (by omega) (by decide)
  have e3 : 256 + nI (la_f co i) = nI (256 + la_f co i) := ix_a 256 rfl _
  have e4 : (nI (256 + la_f co i)).toNatClampNeg = 256 + la_f co i := nI_clamp (by omega)
  have v3 : vp_in (256 + nI (la_f co i)) 320 := by rw [e3]; exact vp_in_nI (by omega) (by decide)
  refine ⟨v1, nm_r (e' := co (256 + i)) (by rw [e1, e2]) ⟨v1, nm_r (e' := ca (256 + i)) (by rw [e1, e2]) ⟨v1, nm_r (e' := cb (256 + i)) (by rw [e1, e2]) ?_⟩⟩⟩
  generalize co (256 + i) = o at h1 hz ⊢
  generalize ca (256 + i) = a at h1 hz ⊢
  generalize cb (256 + i) = b at h1 hz ⊢
  by_cases c0 : o < 0
  · refine br_t c0 (br_t c0 (hz ?_))
    rintro ⟨⟨x, x1, x2⟩, _⟩
    rw [x2] at c0
    exact absurd c0 (nI_pos (by omega))
  obtain ⟨ox, hox, rfl⟩ := nI_of c0
  by_cases c24 : ox < 24
  · have hx : ∃ x : Nat, x < 24 ∧ nI ox = nI x := ⟨ox, c24, rfl⟩
    have ho24 : ox = 0 ∨ ox = 1 ∨ ox = 2 ∨ ox = 3 ∨ ox = 4 ∨ ox = 5 ∨ ox = 6 ∨ ox = 7 ∨ ox = 8 ∨ ox = 9 ∨ ox = 10 ∨ ox = 11 ∨ ox = 12 ∨ ox = 13 ∨ ox = 14 ∨ ox = 15 ∨ ox = 16 ∨ ox = 17 ∨ ox = 18 ∨ ox = 19 ∨ ox = 20 ∨ ox = 21 ∨ ox = 22 ∨ ox = 23 := by omega
    clear hox c24
    rcases ho24 with rfl | rfl | rfl | rfl | rfl | rfl | rfl | rfl | rfl | rfl | rfl | rfl | rfl | rfl | rfl | rfl | rfl | rfl | rfl | rfl | rfl | rfl | rfl | rfl
    · refine br_f (by decide) (br_f (by decide) (br_t (by decide) (?_)))
      by_cases q1 : a < 1
      · exact br_t q1 (hz (fun z => (z.2.1 rfl).1 q1))
      · by_cases q2 : 4 < a
        · exact br_f q1 (br_t q2 (hz (fun z => (z.2.1 rfl).2 q2)))
        · exact br_f q1 (br_f q2 (h1 ⟨hx, fun _ => ⟨q1, q2⟩, (fun z => absurd z (by decide)), (fun z => absurd z (by decide)), (fun z => absurd z (by decide)), (fun z => absurd z (by decide)), (fun z => absurd z (by decide))⟩))
    · exact br_f (by decide) (br_f (by decide) (br_f (by decide) (br_t (by decide) (br_f (by decide) (br_f (by decide) (h1 ⟨hx, (fun z => absurd z (by decide)), (fun z => absurd z (by decide)), (fun z => absurd z (by decide)), (fun z => absurd z (by decide)), (fun z => absurd z (by decide)), (fun z => absurd z (by decide))⟩))))))
    · exact br_f (by decide) (br_f (by decide) (br_f (by decide) (br_f (by decide) (br_t (by decide) (br_f (by decide) (br_f (by decide) (h1 ⟨hx, (fun z => absurd z (by decide)), (fun z => absurd z (by decide)), (fun z => absurd z (by decide)), (fun z => absurd z (by decide)), (fun z => absurd z (by decide)), (fun z => absurd z (by decide))⟩)))))))
    · exact br_f (by decide) (br_f (by decide) (br_f (by decide) (br_f (by decide) (br_f (by decide) (br_t (by decide) (br_f (by decide) (br_f (by decide) (h1 ⟨hx, (fun z => absurd z (by decide)), (fun z => absurd z (by decide)), (fun z => absurd z (by decide)), (fun z => absurd z (by decide)), (fun z => absurd z (by decide)), (fun z => absurd z (by decide))⟩))))))))
    · exact br_f (by decide) (br_f (by decide) (br_f (by decide) (br_f (by decide) (br_f (by decide) (br_f (by decide) (br_t (by decide) (br_f (by decide) (br_f (by decide) (h1 ⟨hx, (fun z => absurd z (by decide)), (fun z => absurd z (by decide)), (fun z => absurd z (by decide)), (fun z => absurd z (by decide)), (fun z => absurd z (by decide)), (fun z => absurd z (by decide))⟩)))))))))
    · exact br_f (by decide) (br_f (by decide) (br_f (by decide) (br_f (by decide) (br_f (by decide) (br_f (by decide) (br_f (by decide) (br_t (by decide) (br_f (by decide) (br_f (by decide) (h1 ⟨hx, (fun z => absurd z (by decide)), (fun z => absurd z (by decide)), (fun z => absurd z (by decide)), (fun z => absurd z (by decide)), (fun z => absurd z (by decide)), (fun z => absurd z (by decide))⟩))))))))))
    · exact br_f (by decide) (br_f (by decide) (br_f (by decide) (br_f (by decide) (br_f (by decide) (br_f (by decide) (br_f (by decide) (br_f (by decide) (br_t (by decide) (br_f (by decide) (br_f (by decide) (h1 ⟨hx, (fun z => absurd z (by decide)), (fun z => absurd z (by decide)), (fun z => absurd z (by decide)), (fun z => absurd z (by decide)), (fun z => absurd z (by decide)), (fun z => absurd z (by decide))⟩)))))))))))
    · exact br_f (by decide) (br_f (by decide) (br_f (by decide) (br_f (by decide) (br_f (by decide) (br_f (by decide) (br_f (by decide) (br_f (by decide) (br_f (by decide) (br_t (by decide) (br_f (by decide) (br_f (by decide) (h1 ⟨hx, (fun z => absurd z (by decide)), (fun z => absurd z (by decide)), (fun z => absurd z (by decide)), (fun z => absurd z (by decide)), (fun z => absurd z (by decide)), (fun z => absurd z (by decide))⟩))))))))))))
    · exact br_f (by decide) (br_f (by decide) (br_f (by decide) (br_f (by decide) (br_f (by decide) (br_f (by decide) (br_f (by decide) (br_f (by decide) (br_f (by decide) (br_f (by decide) (br_t (by decide) (br_f (by decide) (br_f (by decide) (h1 ⟨hx, (fun z => absurd z (by decide)), (fun z => absurd z (by decide)), (fun z => absurd z (by decide)), (fun z => absurd z (by decide)), (fun z => absurd z (by decide)), (fun z => absurd z (by decide))⟩)))))))))))))
    · exact br_f (by decide) (br_f (by decide) (br_f (by decide) (br_f (by decide) (br_f (by decide) (br_f (by decide) (br_f (by decide) (br_f (by decide) (br_f (by decide) (br_f (by decide) (br_f (by decide) (br_t (by decide) (br_f (by decide) (br_f (by decide) (h1 ⟨hx, (fun z => absurd z (by decide)), (fun z => absurd z (by decide)), (fun z => absurd z (by decide)), (fun z => absurd z (by decide)), (fun z => absurd z (by decide)), (fun z => absurd z (by decide))⟩))))))))))))))
    · refine br_f (by decide) (br_f (by decide) (br_f (by decide) (br_f (by decide) (br_f (by decide) (br_f (by decide) (br_f (by decide) (br_f (by decide) (br_f (by decide) (br_f (by decide) (br_f (by decide) (br_f (by decide) (br_t (by decide) (?_)))))))))))))
      by_cases q1 : a < 0
      · exact br_t q1 (hz (fun z => (z.2.2.1 (by decide)).1 q1))
      · refine br_f q1 ⟨v3, ?_⟩
        rw [e3, e4]
        by_cases q2 : ca (256 + la_f co i) ≤ a
        · exact br_t q2 (hz (fun z => (z.2.2.1 (by decide)).2 q2))
        · exact br_f q2 (h1 ⟨hx, (fun z => absurd z (by decide)), fun _ => ⟨q1, q2⟩, (fun z => absurd z (by decide)), (fun z => absurd z (by decide)), (fun z => absurd z (by decide)), (fun z => absurd z (by decide))⟩)
    · refine br_f (by decide) (br_f (by decide) (br_f (by decide) (br_f (by decide) (br_f (by decide) (br_f (by decide) (br_f (by decide) (br_f (by decide) (br_f (by decide) (br_f (by decide) (br_f (by decide) (br_f (by decide) (br_f (by decide) (br_t (by decide) (?_))))))))))))))
      by_cases q1 : a < 0
      · exact br_t q1 (hz (fun z => (z.2.2.1 (by decide)).1 q1))
      · refine br_f q1 ⟨v3, ?_⟩
        rw [e3, e4]
        by_cases q2 : ca (256 + la_f co i) ≤ a
        · exact br_t q2 (hz (fun z => (z.2.2.1 (by decide)).2 q2))
        · exact br_f q2 (h1 ⟨hx, (fun z => absurd z (by decide)), fun _ => ⟨q1, q2⟩, (fun z => absurd z (by decide)), (fun z => absurd z (by decide)), (fun z => absurd z (by decide)), (fun z => absurd z (by decide))⟩)
    · refine br_f (by decide) (br_f (by decide) (br_f (by decide) (br_f (by decide) (br_f (by decide) (br_f (by decide) (br_f (by decide) (br_f (by decide) (br_f (by decide) (br_f (by decide) (br_f (by decide) (br_f (by decide) (br_f (by decide) (br_f (by decide) (br_t (by decide) (?_)))))))))))))))
      unfold wX_hasGoodOperands_172
      exact xl_ins hl hn h0 hi (fun q1 => ⟨nb_01 (Or.inr rfl), h1 ⟨hx, (fun z => absurd z (by decide)), (fun z => absurd z (by decide)), fun _ => q1, (fun z => absurd z (by decide)), (fun z => absurd z (by decide)), (fun z => absurd z (by decide))⟩⟩) (fun q1 => ⟨nb_01 (Or.inl rfl), hz (fun z => q1 (z.2.2.2.1 (by decide)))⟩)
    · refine br_f (by decide) (br_f (by decide) (br_f (by decide) (br_f (by decide) (br_f (by decide) (br_f (by decide) (br_f (by decide) (br_f (by decide) (br_f (by decide) (br_f (by decide) (br_f (by decide) (br_f (by decide) (br_f (by decide) (br_f (by decide) (br_f (by decide) (br_t (by decide) (?_))))))))))))))))
      unfold wX_hasGoodOperands_172
      exact xl_ins hl hn h0 hi (fun q1 => ⟨nb_01 (Or.inr rfl), h1 ⟨hx, (fun z => absurd z (by decide)), (fun z => absurd z (by decide)), fun _ => q1, (fun z => absurd z (by decide)), (fun z => absurd z (by decide)), (fun z => absurd z (by decide))⟩⟩) (fun q1 => ⟨nb_01 (Or.inl rfl), hz (fun z => q1 (z.2.2.2.1 (by decide)))⟩)
    · refine br_f (by decide) (br_f (by decide) (br_f (by decide) (br_f (by decide) (br_f (by decide) (br_f (by decide) (br_f (by decide) (br_f (by decide) (br_f (by decide) (br_f (by decide) (br_f (by decide) (br_f (by decide) (br_f (by decide) (br_f (by decide) (br_f (by decide) (br_f (by decide) (br_t (by decide) (?_)))))))))))))))))
      by_cases q1 : a < 0
      · exact br_t q1 (hz (fun z => (z.2.2.2.2.1 (by decide)).1 q1))
      · by_cases q2 : nI F ≤ a
        · exact br_f q1 (br_t q2 (hz (fun z => (z.2.2.2.2.1 (by decide)).2 q2)))
        · exact br_f q1 (br_f q2 (h1 ⟨hx, (fun z => absurd z (by decide)), (fun z => absurd z (by decide)), (fun z => absurd z (by decide)), fun _ => ⟨q1, q2⟩, (fun z => absurd z (by decide)), (fun z => absurd z (by decide))⟩))
    · refine br_f (by decide) (br_f (by decide) (br_f (by decide) (br_f (by decide) (br_f (by decide) (br_f (by decide) (br_f (by decide) (br_f (by decide) (br_f (by decide) (br_f (by decide) (br_f (by decide) (br_f (by decide) (br_f (by decide) (br_f (by decide) (br_f (by decide) (br_f (by decide) (br_f (by decide) (br_t (by decide) (?_))))))))))))))))))
      by_cases q1 : a < 0
      · exact br_t q1 (hz (fun z => (z.2.2.2.2.1 (by decide)).1 q1))
      · by_cases q2 : nI F ≤ a
        · exact br_f q1 (br_t q2 (hz (fun z => (z.2.2.2.2.1 (by decide)).2 q2)))
        · exact br_f q1 (br_f q2 (h1 ⟨hx, (fun z => absurd z (by decide)), (fun z => absurd z (by decide)), (fun z => absurd z (by decide)), fun _ => ⟨q1, q2⟩, (fun z => absurd z (by decide)), (fun z => absurd z (by decide))⟩))
    · refine br_f (by decide) (br_f (by decide) (br_f (by decide) (br_f (by decide) (br_f (by decide) (br_f (by decide) (br_f (by decide) (br_f (by decide) (br_f (by decide) (br_f (by decide) (br_f (by decide) (br_f (by decide) (br_f (by decide) (br_f (by decide) (br_f (by decide) (br_f (by decide) (br_f (by decide) (br_f (by decide) (br_t (by decide) (?_)))))))))))))))))))
      by_cases q1 : a < 0
      · exact sl_a q1 ⟨nb_01 (Or.inl rfl), hz (fun z => (z.2.2.2.2.2.1 (by decide)).1 q1)⟩
      · by_cases q2 : 4 ≤ a
        · exact sl_b q1 q2 ⟨nb_01 (Or.inl rfl), hz (fun z => (z.2.2.2.2.2.1 (by decide)).2 q2)⟩
        · exact sl_c q1 q2 ⟨nb_01 (Or.inr rfl), h1 ⟨hx, (fun z => absurd z (by decide)), (fun z => absurd z (by decide)), (fun z => absurd z (by decide)), (fun z => absurd z (by decide)), fun _ => ⟨q1, q2⟩, (fun z => absurd z (by decide))⟩⟩
    · refine br_f (by decide) (br_f (by decide) (br_f (by decide) (br_f (by decide) (br_f (by decide) (br_f (by decide) (br_f (by decide) (br_f (by decide) (br_f (by decide) (br_f (by decide) (br_f (by decide) (br_f (by decide) (br_f (by decide) (br_f (by decide) (br_f (by decide) (br_f (by decide) (br_f (by decide) (br_f (by decide) (br_f (by decide) (br_t (by decide) (?_))))))))))))))))))))
      by_cases q1 : a < 0
      · exact br_t q1 (hz (fun z => (z.2.2.2.2.1 (by decide)).1 q1))
      · by_cases q2 : nI F ≤ a
        · exact br_f q1 (br_t q2 (hz (fun z => (z.2.2.2.2.1 (by decide)).2 q2)))
        · exact br_f q1 (br_f q2 (h1 ⟨hx, (fun z => absurd z (by decide)), (fun z => absurd z (by decide)), (fun z => absurd z (by decide)), fun _ => ⟨q1, q2⟩, (fun z => absurd z (by decide)), (fun z => absurd z (by decide))⟩))
    · refine br_f (by decide) (br_f (by decide) (br_f (by decide) (br_f (by decide) (br_f (by decide) (br_f (by decide) (br_f (by decide) (br_f (by decide) (br_f (by decide) (br_f (by decide) (br_f (by decide) (br_f (by decide) (br_f (by decide) (br_f (by decide) (br_f (by decide) (br_f (by decide) (br_f (by decide) (br_f (by decide) (br_f (by decide) (br_f (by decide) (br_t (by decide) (?_)))))))))))))))))))))
      by_cases q1 : a < 0
      · exact br_t q1 (hz (fun z => (z.2.2.2.2.2.2 (by decide)).1.1 q1))
      · by_cases q2 : 4 ≤ a
        · exact br_f q1 (br_t q2 (hz (fun z => (z.2.2.2.2.2.2 (by decide)).1.2 q2)))
        · refine br_f q1 (br_f q2 ?_)
          by_cases q3 : b < 0
          · exact pa_a q3 (br_t rfl (hz (fun z => (z.2.2.2.2.2.2 (by decide)).2.1 q3)))
          · by_cases q4 : 84 ≤ b
            · exact pa_o q3 q4 (br_t rfl (hz (fun z => (z.2.2.2.2.2.2 (by decide)).2.2 q4)))
            · exact pa_c q3 q4 (br_f (by decide) (h1 ⟨hx, (fun z => absurd z (by decide)), (fun z => absurd z (by decide)), (fun z => absurd z (by decide)), (fun z => absurd z (by decide)), (fun z => absurd z (by decide)), fun _ => ⟨⟨q1, q2⟩, ⟨q3, q4⟩⟩⟩))
    · exact br_f (by decide) (br_t (by decide) (br_f (by decide) (br_f (by decide) (h1 ⟨hx, (fun z => absurd z (by decide)), (fun z => absurd z (by decide)), (fun z => absurd z (by decide)), (fun z => absurd z (by decide)), (fun z => absurd z (by decide)), (fun z => absurd z (by decide))⟩))))
    · exact br_f (by decide) (br_t (by decide) (br_f (by decide) (br_f (by decide) (h1 ⟨hx, (fun z => absurd z (by decide)), (fun z => absurd z (by decide)), (fun z => absurd z (by decide)), (fun z => absurd z (by decide)), (fun z => absurd z (by decide)), (fun z => absurd z (by decide))⟩))))
    · exact br_f (by decide) (br_t (by decide) (br_f (by decide) (br_f (by decide) (h1 ⟨hx, (fun z => absurd z (by decide)), (fun z => absurd z (by decide)), (fun z => absurd z (by decide)), (fun z => absurd z (by decide)), (fun z => absurd z (by decide)), (fun z => absurd z (by decide))⟩))))
    · exact br_f (by decide) (br_t (by decide) (br_f (by decide) (br_f (by decide) (h1 ⟨hx, (fun z => absurd z (by decide)), (fun z => absurd z (by decide)), (fun z => absurd z (by decide)), (fun z => absurd z (by decide)), (fun z => absurd z (by decide)), (fun z => absurd z (by decide))⟩))))
    · exact br_f (by decide) (br_t (by decide) (br_f (by decide) (br_f (by decide) (h1 ⟨hx, (fun z => absurd z (by decide)), (fun z => absurd z (by decide)), (fun z => absurd z (by decide)), (fun z => absurd z (by decide)), (fun z => absurd z (by decide)), (fun z => absurd z (by decide))⟩))))
  · have q1 : ¬ nI ox < 0 := c0
    have q2 : (18 : Int32) < nI ox := nI_lt (a := 18) (by omega) hox
    have q3 : (23 : Int32) < nI ox := nI_lt (a := 23) (by omega) hox
    refine br_f q1 (br_t q2 (br_f q1 (br_t q3 (hz ?_))))
    rintro ⟨⟨x, x1, x2⟩, _⟩
    rw [nI_eq hox (by omega)] at x2
    omega
theorem yl_42 {post : Int32 → Prop} {i : Nat} {a : Int32} (hi : i < 64) (h1 : ¬ a < 1 → ¬ 4 < a → cf_n co 256 i < 4 → post 1) (hz : (a < 1 ∨ 4 < a ∨ ¬ cf_n co 256 i < 4) → post 0) : ∃ n : Nat, wY_wellFormed_42 post (nI i) a q wp tn sl yd nd co ca cb le he kl tu uy tl ul tm gc ga gp ss st sf fd tc tr ow ti ft fn fh fp fz fl fv rs au n 0 0 := by
  have key : ∀ m j : Nat, j + m = i → wY_wellFormed_42 post (nI i) a q wp tn sl yd nd co ca cb le he kl tu uy tl ul tm gc ga gp ss st sf fd tc tr ow ti ft fn fh fp fz fl fv rs au (m + 1) (nI (cf_n co 256 j)) (nI j) := by
    intro m
    induction m with
    | zero =>
      intro j hj
      have : j = i := by omega
      subst this
      have cl := cf_le co 256 j
      refine br_t (nI_le (Nat.le_refl _) (by omega)) ?_
      by_cases q1 : a < 1
      · exact br_t ((ix_l1 a).mpr q1) (hz (Or.inl q1))
      · refine br_f (fun z => q1 ((ix_l1 a).mp z)) ?_
        by_cases q2 : 4 < a
        · exact br_t ((ix_l5 a).mpr q2) (hz (Or.inr (Or.inl q2)))
        · refine br_f (fun z => q2 ((ix_l5 a).mp z)) ?_
          by_cases q3 : cf_n co 256 j < 4
          · exact br_f (ix_ge 4 rfl q3 (by decide)) (h1 q1 q2 q3)
          · exact br_t (ix_le 4 rfl (by omega) (by omega)) (hz (Or.inr (Or.inr q3)))
    | succ m ih =>
      intro j hj
      have z := ih (j + 1) (by omega)
      have e1 : 256 + nI j = nI (256 + j) := ix_a 256 rfl j
      have e2 : (nI (256 + j)).toNatClampNeg = 256 + j := nI_clamp (by omega)
      refine br_f (nI_ge (by omega) (by omega)) ⟨by rw [e1]; exact vp_in_nI (by omega) (by decide), ?_⟩
      rw [e1, e2]
      by_cases c : co (256 + j) = 0
      · rw [cf_t c] at z
        exact br_t c (nm_r (nI_1 _) (nm_r (nI_1 _) z))
      · rw [cf_f c] at z
        exact br_f c (nm_r (nI_1 _) z)
  exact ⟨i + 1, key i 0 (by omega)⟩
theorem yl_wf {post : Int32 → Prop} {n i : Nat} (hl : le 4 = nI n) (hn : n ≤ 64) (h0 : co 256 = 0) (hi : i < n) (h1 : wf_P co ca cb n i → post 1) (hz : ¬ wf_P co ca cb n i → post 0) : wpY_wellFormed post (q, wp, tn, sl, yd, nd, co, ca, cb, le, he, kl, tu, uy, tl, ul, tm, gc, ga, gp, ss, st, sf, fd, tc, tr, ow, ti, ft, fn, fh, fp, fz, fl, fv, rs, au) (nI i) := by
  have ll := la_le co i
  have e1 : 256 + nI i = nI (256 + i) := ix_a 256 rfl i
  have e2 : (nI (256 + i)).toNatClampNeg = 256 + i := nI_clamp (by omega)
  have v1 : vp_in (256 + nI i) 320 := by rw [e1]; exact vp_in_nI (by omega) (by decide)
  have e3 : 256 + nI (la_f co i) = nI (256 + la_f co i) := ix_a 256 rfl _
  have e4 : (nI (256 + la_f co i)).toNatClampNeg = 256 + la_f co i := nI_clamp (by omega)
  have v3 : vp_in (256 + nI (la_f co i)) 320 := by rw [e3]; exact vp_in_nI (by omega) (by decide)
  have i0 : i = 0 → co (256 + i) = 0 := fun z => by rw [z]; exact h0
  unfold wf_P at h1 hz
  have key : wY_wellFormed_32 post (nI i) (co (256 + i)) (ca (256 + i)) q wp tn sl yd nd co ca cb le he kl tu uy tl ul tm gc ga gp ss st sf fd tc tr ow ti ft fn fh fp fz fl fv rs au := by
    unfold wY_wellFormed_32
    rw [e1, e2]
    generalize co (256 + i) = o at h1 hz ⊢
    generalize ca (256 + i) = a at h1 hz ⊢
    generalize cb (256 + i) = b at h1 hz ⊢
    by_cases c0 : o < 0
    · have nz : ∀ x : Nat, x < 2 ^ 31 → ¬ o = nI x := fun x hx z => by rw [z] at c0; exact absurd c0 (nI_pos hx)
      refine br_f (nz 0 (by decide)) (br_f (nz 10 (by decide)) (br_f (nz 11 (by decide)) (br_f (nz 12 (by decide)) (br_f (nz 13 (by decide)) (br_f (nz 14 (by decide)) (br_f (nz 15 (by decide)) (br_f (nz 17 (by decide)) (br_f (nz 16 (by decide)) (br_f (nz 18 (by decide)) (?_))))))))))
      refine br_t (Int32.le_of_lt c0) (hz ?_)
      rintro ⟨⟨⟨x, x1, x2⟩, _⟩, _⟩
      exact nz x (by omega) x2
    obtain ⟨ox, hox, rfl⟩ := nI_of c0
    by_cases c24 : ox < 24
    · have hx : ∃ x : Nat, x < 24 ∧ nI ox = nI x := ⟨ox, c24, rfl⟩
      have ho24 : ox = 0 ∨ ox = 1 ∨ ox = 2 ∨ ox = 3 ∨ ox = 4 ∨ ox = 5 ∨ ox = 6 ∨ ox = 7 ∨ ox = 8 ∨ ox = 9 ∨ ox = 10 ∨ ox = 11 ∨ ox = 12 ∨ ox = 13 ∨ ox = 14 ∨ ox = 15 ∨ ox = 16 ∨ ox = 17 ∨ ox = 18 ∨ ox = 19 ∨ ox = 20 ∨ ox = 21 ∨ ox = 22 ∨ ox = 23 := by omega
      clear hox c24
      rcases ho24 with rfl | rfl | rfl | rfl | rfl | rfl | rfl | rfl | rfl | rfl | rfl | rfl | rfl | rfl | rfl | rfl | rfl | rfl | rfl | rfl | rfl | rfl | rfl | rfl
      · refine br_t (by decide) (?_)
        exact yl_42 (by omega) (fun q1 q2 q3 => h1 ⟨⟨hx, fun _ => ⟨q1, q2⟩, (fun z => absurd z (by decide)), (fun z => absurd z (by decide)), (fun z => absurd z (by decide)), (fun z => absurd z (by decide)), (fun z => absurd z (by decide))⟩, fun _ => q3⟩) (fun z => hz (fun y => z.elim (y.1.2.1 rfl).1 (fun z2 => z2.elim (y.1.2.1 rfl).2 (fun z3 => z3 (y.2 rfl)))))
      · exact br_f (by decide) (br_f (by decide) (br_f (by decide) (br_f (by decide) (br_f (by decide) (br_f (by decide) (br_f (by decide) (br_f (by decide) (br_f (by decide) (br_f (by decide) (br_f (by decide) (br_f (by decide) (h1 ⟨⟨hx, (fun z => absurd z (by decide)), (fun z => absurd z (by decide)), (fun z => absurd z (by decide)), (fun z => absurd z (by decide)), (fun z => absurd z (by decide)), (fun z => absurd z (by decide))⟩, (fun z => absurd z (by decide))⟩))))))))))))
      · exact br_f (by decide) (br_f (by decide) (br_f (by decide) (br_f (by decide) (br_f (by decide) (br_f (by decide) (br_f (by decide) (br_f (by decide) (br_f (by decide) (br_f (by decide) (br_f (by decide) (br_f (by decide) (h1 ⟨⟨hx, (fun z => absurd z (by decide)), (fun z => absurd z (by decide)), (fun z => absurd z (by decide)), (fun z => absurd z (by decide)), (fun z => absurd z (by decide)), (fun z => absurd z (by decide))⟩, (fun z => absurd z (by decide))⟩))))))))))))
      · exact br_f (by decide) (br_f (by decide) (br_f (by decide) (br_f (by decide) (br_f (by decide) (br_f (by decide) (br_f (by decide) (br_f (by decide) (br_f (by decide) (br_f (by decide) (br_f (by decide) (br_f (by decide) (h1 ⟨⟨hx, (fun z => absurd z (by decide)), (fun z => absurd z (by decide)), (fun z => absurd z (by decide)), (fun z => absurd z (by decide)), (fun z => absurd z (by decide)), (fun z => absurd z (by decide))⟩, (fun z => absurd z (by decide))⟩))))))))))))
      · exact br_f (by decide) (br_f (by decide) (br_f (by decide) (br_f (by decide) (br_f (by decide) (br_f (by decide) (br_f (by decide) (br_f (by decide) (br_f (by decide) (br_f (by decide) (br_f (by decide) (br_f (by decide) (h1 ⟨⟨hx, (fun z => absurd z (by decide)), (fun z => absurd z (by decide)), (fun z => absurd z (by decide)), (fun z => absurd z (by decide)), (fun z => absurd z (by decide)), (fun z => absurd z (by decide))⟩, (fun z => absurd z (by decide))⟩))))))))))))
      · exact br_f (by decide) (br_f (by decide) (br_f (by decide) (br_f (by decide) (br_f (by decide) (br_f (by decide) (br_f (by decide) (br_f (by decide) (br_f (by decide) (br_f (by decide) (br_f (by decide) (br_f (by decide) (h1 ⟨⟨hx, (fun z => absurd z (by decide)), (fun z => absurd z (by decide)), (fun z => absurd z (by decide)), (fun z => absurd z (by decide)), (fun z => absurd z (by decide)), (fun z => absurd z (by decide))⟩, (fun z => absurd z (by decide))⟩))))))))))))
      · exact br_f (by decide) (br_f (by decide) (br_f (by decide) (br_f (by decide) (br_f (by decide) (br_f (by decide) (br_f (by decide) (br_f (by decide) (br_f (by decide) (br_f (by decide) (br_f (by decide) (br_f (by decide) (h1 ⟨⟨hx, (fun z => absurd z (by decide)), (fun z => absurd z (by decide)), (fun z => absurd z (by decide)), (fun z => absurd z (by decide)), (fun z => absurd z (by decide)), (fun z => absurd z (by decide))⟩, (fun z => absurd z (by decide))⟩))))))))))))
      · exact br_f (by decide) (br_f (by decide) (br_f (by decide) (br_f (by decide) (br_f (by decide) (br_f (by decide) (br_f (by decide) (br_f (by decide) (br_f (by decide) (br_f (by decide) (br_f (by decide) (br_f (by decide) (h1 ⟨⟨hx, (fun z => absurd z (by decide)), (fun z => absurd z (by decide)), (fun z => absurd z (by decide)), (fun z => absurd z (by decide)), (fun z => absurd z (by decide)), (fun z => absurd z (by decide))⟩, (fun z => absurd z (by decide))⟩))))))))))))
      · exact br_f (by decide) (br_f (by decide) (br_f (by decide) (br_f (by decide) (br_f (by decide) (br_f (by decide) (br_f (by decide) (br_f (by decide) (br_f (by decide) (br_f (by decide) (br_f (by decide) (br_f (by decide) (h1 ⟨⟨hx, (fun z => absurd z (by decide)), (fun z => absurd z (by decide)), (fun z => absurd z (by decide)), (fun z => absurd z (by decide)), (fun z => absurd z (by decide)), (fun z => absurd z (by decide))⟩, (fun z => absurd z (by decide))⟩))))))))))))
      · exact br_f (by decide) (br_f (by decide) (br_f (by decide) (br_f (by decide) (br_f (by decide) (br_f (by decide) (br_f (by decide) (br_f (by decide) (br_f (by decide) (br_f (by decide) (br_f (by decide) (br_f (by decide) (h1 ⟨⟨hx, (fun z => absurd z (by decide)), (fun z => absurd z (by decide)), (fun z => absurd z (by decide)), (fun z => absurd z (by decide)), (fun z => absurd z (by decide)), (fun z => absurd z (by decide))⟩, (fun z => absurd z (by decide))⟩))))))))))))
      · refine br_f (by decide) (br_t (by decide) (?_))
        unfold wY_wellFormed_104
        refine yl_ar (by omega) h0 ?_
        by_cases q1 : a < 0
        · exact br_t q1 (hz (fun z => (z.1.2.2.1 (by decide)).1 q1))
        · refine br_f q1 ⟨v3, ?_⟩
          rw [e3, e4]
          by_cases q2 : ca (256 + la_f co i) ≤ a
          · exact br_t q2 (hz (fun z => (z.1.2.2.1 (by decide)).2 q2))
          · exact br_f q2 (h1 ⟨⟨hx, (fun z => absurd z (by decide)), fun _ => ⟨q1, q2⟩, (fun z => absurd z (by decide)), (fun z => absurd z (by decide)), (fun z => absurd z (by decide)), (fun z => absurd z (by decide))⟩, (fun z => absurd z (by decide))⟩)
      · refine br_f (by decide) (br_f (by decide) (br_t (by decide) (?_)))
        unfold wY_wellFormed_104
        refine yl_ar (by omega) h0 ?_
        by_cases q1 : a < 0
        · exact br_t q1 (hz (fun z => (z.1.2.2.1 (by decide)).1 q1))
        · refine br_f q1 ⟨v3, ?_⟩
          rw [e3, e4]
          by_cases q2 : ca (256 + la_f co i) ≤ a
          · exact br_t q2 (hz (fun z => (z.1.2.2.1 (by decide)).2 q2))
          · exact br_f q2 (h1 ⟨⟨hx, (fun z => absurd z (by decide)), fun _ => ⟨q1, q2⟩, (fun z => absurd z (by decide)), (fun z => absurd z (by decide)), (fun z => absurd z (by decide)), (fun z => absurd z (by decide))⟩, (fun z => absurd z (by decide))⟩)
      · refine br_f (by decide) (br_f (by decide) (br_f (by decide) (br_t (by decide) (?_))))
        unfold wY_wellFormed_148
        exact yl_sf hl hn h0 hi (fun q1 => ⟨nb_01 (Or.inr rfl), h1 ⟨⟨hx, (fun z => absurd z (by decide)), (fun z => absurd z (by decide)), fun _ => q1, (fun z => absurd z (by decide)), (fun z => absurd z (by decide)), (fun z => absurd z (by decide))⟩, (fun z => absurd z (by decide))⟩⟩) (fun q1 => ⟨nb_01 (Or.inl rfl), hz (fun z => q1 (z.1.2.2.2.1 (by decide)))⟩)
      · refine br_f (by decide) (br_f (by decide) (br_f (by decide) (br_f (by decide) (br_t (by decide) (?_)))))
        unfold wY_wellFormed_148
        exact yl_sf hl hn h0 hi (fun q1 => ⟨nb_01 (Or.inr rfl), h1 ⟨⟨hx, (fun z => absurd z (by decide)), (fun z => absurd z (by decide)), fun _ => q1, (fun z => absurd z (by decide)), (fun z => absurd z (by decide)), (fun z => absurd z (by decide))⟩, (fun z => absurd z (by decide))⟩⟩) (fun q1 => ⟨nb_01 (Or.inl rfl), hz (fun z => q1 (z.1.2.2.2.1 (by decide)))⟩)
      · refine br_f (by decide) (br_f (by decide) (br_f (by decide) (br_f (by decide) (br_f (by decide) (br_t (by decide) (?_))))))
        by_cases q1 : a < 0
        · exact br_t q1 (hz (fun z => (z.1.2.2.2.2.1 (by decide)).1 q1))
        · refine br_f q1 (yl_fns (t := 4) (by decide) hl hn ?_)
          by_cases q2 : nI (cf_n co 256 n) ≤ a
          · exact br_t q2 (hz (fun z => (z.1.2.2.2.2.1 (by decide)).2 q2))
          · exact br_f q2 (h1 ⟨⟨hx, (fun z => absurd z (by decide)), (fun z => absurd z (by decide)), (fun z => absurd z (by decide)), fun _ => ⟨q1, q2⟩, (fun z => absurd z (by decide)), (fun z => absurd z (by decide))⟩, (fun z => absurd z (by decide))⟩)
      · refine br_f (by decide) (br_f (by decide) (br_f (by decide) (br_f (by decide) (br_f (by decide) (br_f (by decide) (br_t (by decide) (?_)))))))
        by_cases q1 : a < 0
        · exact br_t q1 (hz (fun z => (z.1.2.2.2.2.1 (by decide)).1 q1))
        · refine br_f q1 (yl_fns (t := 4) (by decide) hl hn ?_)
          by_cases q2 : nI (cf_n co 256 n) ≤ a
          · exact br_t q2 (hz (fun z => (z.1.2.2.2.2.1 (by decide)).2 q2))
          · exact br_f q2 (h1 ⟨⟨hx, (fun z => absurd z (by decide)), (fun z => absurd z (by decide)), (fun z => absurd z (by decide)), fun _ => ⟨q1, q2⟩, (fun z => absurd z (by decide)), (fun z => absurd z (by decide))⟩, (fun z => absurd z (by decide))⟩)
      · refine br_f (by decide) (br_f (by decide) (br_f (by decide) (br_f (by decide) (br_f (by decide) (br_f (by decide) (br_f (by decide) (br_f (by decide) (br_t (by decide) (?_)))))))))
        by_cases q1 : a < 0
        · exact br_t q1 (hz (fun z => (z.1.2.2.2.2.2.1 (by decide)).1 q1))
        · by_cases q2 : 4 ≤ a
          · exact br_f q1 (br_t q2 (hz (fun z => (z.1.2.2.2.2.2.1 (by decide)).2 q2)))
          · exact br_f q1 (br_f q2 (h1 ⟨⟨hx, (fun z => absurd z (by decide)), (fun z => absurd z (by decide)), (fun z => absurd z (by decide)), (fun z => absurd z (by decide)), fun _ => ⟨q1, q2⟩, (fun z => absurd z (by decide))⟩, (fun z => absurd z (by decide))⟩))
      · refine br_f (by decide) (br_f (by decide) (br_f (by decide) (br_f (by decide) (br_f (by decide) (br_f (by decide) (br_f (by decide) (br_t (by decide) (?_))))))))
        by_cases q1 : a < 0
        · exact br_t q1 (hz (fun z => (z.1.2.2.2.2.1 (by decide)).1 q1))
        · refine br_f q1 (yl_fns (t := 4) (by decide) hl hn ?_)
          by_cases q2 : nI (cf_n co 256 n) ≤ a
          · exact br_t q2 (hz (fun z => (z.1.2.2.2.2.1 (by decide)).2 q2))
          · exact br_f q2 (h1 ⟨⟨hx, (fun z => absurd z (by decide)), (fun z => absurd z (by decide)), (fun z => absurd z (by decide)), fun _ => ⟨q1, q2⟩, (fun z => absurd z (by decide)), (fun z => absurd z (by decide))⟩, (fun z => absurd z (by decide))⟩)
      · refine br_f (by decide) (br_f (by decide) (br_f (by decide) (br_f (by decide) (br_f (by decide) (br_f (by decide) (br_f (by decide) (br_f (by decide) (br_f (by decide) (br_t (by decide) (?_))))))))))
        by_cases q1 : a < 0
        · exact br_t q1 (hz (fun z => (z.1.2.2.2.2.2.2 (by decide)).1.1 q1))
        · by_cases q2 : 4 ≤ a
          · exact br_f q1 (br_t q2 (hz (fun z => (z.1.2.2.2.2.2.2 (by decide)).1.2 q2)))
          · refine br_f q1 (br_f q2 ⟨by rw [← e1]; exact v1, ?_⟩)
            by_cases q3 : b < 0
            · exact br_t q3 (hz (fun z => (z.1.2.2.2.2.2.2 (by decide)).2.1 q3))
            · refine br_f q3 ⟨by rw [← e1]; exact v1, ?_⟩
              by_cases q4 : 84 ≤ b
              · exact br_t q4 (hz (fun z => (z.1.2.2.2.2.2.2 (by decide)).2.2 q4))
              · exact br_f q4 (h1 ⟨⟨hx, (fun z => absurd z (by decide)), (fun z => absurd z (by decide)), (fun z => absurd z (by decide)), (fun z => absurd z (by decide)), (fun z => absurd z (by decide)), fun _ => ⟨⟨q1, q2⟩, ⟨q3, q4⟩⟩⟩, (fun z => absurd z (by decide))⟩)
      · exact br_f (by decide) (br_f (by decide) (br_f (by decide) (br_f (by decide) (br_f (by decide) (br_f (by decide) (br_f (by decide) (br_f (by decide) (br_f (by decide) (br_f (by decide) (br_f (by decide) (br_f (by decide) (h1 ⟨⟨hx, (fun z => absurd z (by decide)), (fun z => absurd z (by decide)), (fun z => absurd z (by decide)), (fun z => absurd z (by decide)), (fun z => absurd z (by decide)), (fun z => absurd z (by decide))⟩, (fun z => absurd z (by decide))⟩))))))))))))
      · exact br_f (by decide) (br_f (by decide) (br_f (by decide) (br_f (by decide) (br_f (by decide) (br_f (by decide) (br_f (by decide) (br_f (by decide) (br_f (by decide) (br_f (by decide) (br_f (by decide) (br_f (by decide) (h1 ⟨⟨hx, (fun z => absurd z (by decide)), (fun z => absurd z (by decide)), (fun z => absurd z (by decide)), (fun z => absurd z (by decide)), (fun z => absurd z (by decide)), (fun z => absurd z (by decide))⟩, (fun z => absurd z (by decide))⟩))))))))))))
      · exact br_f (by decide) (br_f (by decide) (br_f (by decide) (br_f (by decide) (br_f (by decide) (br_f (by decide) (br_f (by decide) (br_f (by decide) (br_f (by decide) (br_f (by decide) (br_f (by decide) (br_f (by decide) (h1 ⟨⟨hx, (fun z => absurd z (by decide)), (fun z => absurd z (by decide)), (fun z => absurd z (by decide)), (fun z => absurd z (by decide)), (fun z => absurd z (by decide)), (fun z => absurd z (by decide))⟩, (fun z => absurd z (by decide))⟩))))))))))))
      · exact br_f (by decide) (br_f (by decide) (br_f (by decide) (br_f (by decide) (br_f (by decide) (br_f (by decide) (br_f (by decide) (br_f (by decide) (br_f (by decide) (br_f (by decide) (br_f (by decide) (br_f (by decide) (h1 ⟨⟨hx, (fun z => absurd z (by decide)), (fun z => absurd z (by decide)), (fun z => absurd z (by decide)), (fun z => absurd z (by decide)), (fun z => absurd z (by decide)), (fun z => absurd z (by decide))⟩, (fun z => absurd z (by decide))⟩))))))))))))
      · exact br_f (by decide) (br_f (by decide) (br_f (by decide) (br_f (by decide) (br_f (by decide) (br_f (by decide) (br_f (by decide) (br_f (by decide) (br_f (by decide) (br_f (by decide) (br_f (by decide) (br_f (by decide) (h1 ⟨⟨hx, (fun z => absurd z (by decide)), (fun z => absurd z (by decide)), (fun z => absurd z (by decide)), (fun z => absurd z (by decide)), (fun z => absurd z (by decide)), (fun z => absurd z (by decide))⟩, (fun z => absurd z (by decide))⟩))))))))))))
    · have nz : ∀ x : Nat, x < 24 → ¬ nI ox = nI x := fun x hx z => by
        rw [nI_eq hox (by omega)] at z
        omega
      refine br_f (nz 0 (by decide)) (br_f (nz 10 (by decide)) (br_f (nz 11 (by decide)) (br_f (nz 12 (by decide)) (br_f (nz 13 (by decide)) (br_f (nz 14 (by decide)) (br_f (nz 15 (by decide)) (br_f (nz 17 (by decide)) (br_f (nz 16 (by decide)) (br_f (nz 18 (by decide)) (?_))))))))))
      refine br_f (nI_nle (by omega) hox) (br_t (ix_le 24 rfl (by omega) hox) (hz ?_))
      rintro ⟨⟨⟨x, x1, x2⟩, _⟩, _⟩
      exact nz x x1 x2
  refine ⟨v1, nm_r (e' := co (256 + i)) (by rw [e1, e2]) ⟨v1, nm_r (e' := ca (256 + i)) (by rw [e1, e2]) ?_⟩⟩
  by_cases c : nI i = 0
  · have ci : i = 0 := (nI_eq (by omega) (by decide)).mp c
    exact br_t c (br_t (i0 ci) key)
  · exact br_f c key
end
