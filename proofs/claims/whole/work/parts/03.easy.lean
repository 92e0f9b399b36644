theorem ix_f {j n : Nat} {N N1 : Int32} (hN : N = nI n) (h1 : N1 = nI (n - 1)) (h : j < n) (hn : n < 2 ^ 31) : ¬ nI j < 0 ∧ ¬ N ≤ nI j ∧ ¬ N1 < nI j ∧ nI j < N ∧ nI j ≤ N1 := by
  rw [hN, h1]
  exact ⟨nI_pos (by omega), nI_ge h hn, nI_nlt (by omega) (by omega), nI_lt h hn, nI_le (by omega) (by omega)⟩
theorem ix_c (x : Int32) {n : Nat} {N N1 : Int32} (hN : N = nI n) (h1 : N1 = nI (n - 1)) (h0 : 0 < n) (hn : n < 2 ^ 31) :
    x < 0 ∨ (¬ x < 0 ∧ N ≤ x ∧ N1 < x ∧ ¬ x < N ∧ ¬ x ≤ N1) ∨ ∃ j : Nat, j < n ∧ x = nI j := by
  by_cases c : x < 0
  · exact Or.inl c
  · obtain ⟨j, hj, rfl⟩ := nI_of c
    by_cases c2 : j < n
    · exact Or.inr (Or.inr ⟨j, c2, rfl⟩)
    · rw [hN, h1]
      exact Or.inr (Or.inl ⟨c, nI_le (by omega) hj, nI_lt (by omega) hj, nI_nlt (by omega) hj, nI_ge (by omega) hj⟩)
section
variable {q tn sl pc wp yd nd : Int32} {he co ca cb fs fc ts tu ux tl ul tm gc ga gp ss st sf tc tr ow ti fd ft fk fn fh fl fv rs nt le kl uy fp fz au : Nat → Int32}
theorem xl_ten1 {post : Int32 → Prop} {t : Nat} (ht : t < 4) (h : post 1) : wpX_isTenant post (nI t) := by
  have f := ix_f (N := 4) (N1 := 3) rfl rfl ht (by decide)
  exact br_f f.1 (br_f f.2.1 h)
theorem yl_ten1 {post : Int32 → Prop} {v : SY} {t : Nat} (ht : t < 4) (h : post 1) : wpY_isTenant post v (nI t) := by
  have f := ix_f (N := 4) (N1 := 3) rfl rfl ht (by decide)
  exact br_f f.1 (br_f f.2.1 h)
theorem xl_ten0 {post : Int32 → Prop} {p : Int32} (hp : p < 0 ∨ ((4 : Int32) ≤ p)) (h : post 0) : wpX_isTenant post p := by
  by_cases c : p < 0
  · exact br_t c h
  · exact br_f c (br_t (hp.resolve_left c) h)
theorem yl_ten0 {post : Int32 → Prop} {v : SY} {p : Int32} (hp : p < 0 ∨ ((4 : Int32) ≤ p)) (h : post 0) : wpY_isTenant post v p := by
  by_cases c : p < 0
  · exact br_t c h
  · exact br_f c (br_t (hp.resolve_left c) h)
theorem ten_c (x : Int32) : (x < 0 ∨ (4 : Int32) ≤ x) ∨ ∃ j : Nat, j < 4 ∧ x = nI j := by
  rcases ix_c x (n := 4) (N := 4) (N1 := 3) rfl rfl (by decide) (by decide) with c | c | c
  · exact Or.inl (Or.inl c)
  · exact Or.inl (Or.inr c.2.1)
  · exact Or.inr c
theorem i_vc_place {k : Nat} {u : SX} {v : SY} (I : i_Rel k u v) (hk : k + 5 ≤ 2561) : wpX_place (fun r => wpY_place (fun r' => r' = r ∧ i_Rel (k + 5) u v) v) u := by
  have I5 := i_up I
  obtain ⟨H, q, tn, sl, pc, wp, yd, nd, he, co, ca, cb, fs, fc, ts, tu, ux, tl, ul, tm, gc, ga, gp, ss, st, sf, tc, tr, ow, ti, fd, ft, fk, fn, fh, fl, fv, rs, nt, le, kl, uy, fp, fz, au, rfl, rfl, a1, a2, a3, a4, a5, a6, a7, a8, a9, a10⟩ := I
  exact ⟨rfl, I5⟩
theorem i_vc_code {k : Nat} {u : SX} {v : SY} (I : i_Rel k u v) (hk : k + 5 ≤ 2561) (v1 : Int32) (v2 : Int32) (v3 : Int32) : wpX_code (fun r u' => wpY_code (fun r' v' => r' = r ∧ i_Rel (k + 5) u' v') v v1 v2 v3) u v1 v2 v3 := by
  have I5 := i_up I
  obtain ⟨H, q, tn, sl, pc, wp, yd, nd, he, co, ca, cb, fs, fc, ts, tu, ux, tl, ul, tm, gc, ga, gp, ss, st, sf, tc, tr, ow, ti, fd, ft, fk, fn, fh, fl, fv, rs, nt, le, kl, uy, fp, fz, au, rfl, rfl, a1, a2, a3, a4, a5, a6, a7, a8, a9, a10⟩ := I
  obtain ⟨p, hp, rfl, hl⟩ := a3
  by_cases h : p < 64
  · have c1 : nI p < 64 := nI_lt (b := 64) h (by decide)
    have c2 : ¬ nI p = 64 := ix_ne 64 rfl (by omega) (by omega) (by decide)
    have e1 : 256 + nI p = nI (256 + p) := ix_a 256 rfl p
    have e2 : (nI (256 + p)).toNatClampNeg = 256 + p := nI_clamp (by omega)
    have vi : vp_in (nI (256 + p)) 320 := vp_in_nI (by omega) (by decide)
    simp only [wpX_code, wpY_code, hl, c1, c2, e1, e2, vi, forall_eq, true_implies, not_true_eq_false, not_false_eq_true, false_implies, and_true, true_and, nI_1]
    refine mk_rel ⟨a1, a2, ⟨p + 1, by omega, rfl, by rw [pk_us]⟩, ?_, a5, a6, a7, a8, a9, rl_nU a10 (by omega)⟩
    intro t ht
    obtain ⟨n, c, b1, b2, b3, b4, b5, b6, b7, b8, b9, b10, b11⟩ := a4 t ht
    have g : ∀ (f : Nat → Int32) (w : Int32) (i : Nat), i < n → upd f (256 + p) w (64 * t + i) = f (64 * t + i) := fun f w i hi => pk_un (by omega)
    have gc : ∀ j, j ≤ n → cf_n (upd co (256 + p) v1) (64 * t) j = cf_n co (64 * t) j := by
      intro j
      induction j with
      | zero => intro _; rfl
      | succ j ih => intro hj; simp only [cf_n]; rw [ih (by omega), g _ _ _ (by omega)]
    refine ⟨n, c, b1, by rw [pk_un (by omega)]; exact b2, b3, b4, by rw [gc n (Nat.le_refl _)]; exact b5, b6, b7, b8, ?_, ?_, ?_⟩
    · intro f hf
      obtain ⟨i, h1, h2, h3, h4⟩ := b9 f hf
      exact ⟨i, h1, h2, by rw [g _ _ _ h1]; exact h3, by rw [gc i (by omega)]; exact h4⟩
    · intro i hi h0
      rw [g _ _ _ hi] at h0
      exact b10 i hi h0
    · intro i hh hH
      have z := b11 i hh hH
      have hi : i < n := z.1
      unfold bu_ok at z ⊢
      rw [g _ _ _ hi, g _ _ _ hi, g _ _ _ hi]
      exact z
  · have e : p = 64 := by omega
    subst e
    have c1 : ¬ nI 64 < 64 := by decide
    have c2 : nI 64 = 64 := rfl
    simp only [wpX_code, wpY_code, hl, c1, c2, not_false_eq_true, true_implies, false_implies, true_and, not_true_eq_false, and_true]
    simp only [c1, not_false_eq_true, true_implies, false_implies, true_and, not_true_eq_false, and_true, Int32.lt_irrefl]
    exact I5
theorem i_vc_resource {k : Nat} {u : SX} {v : SY} (I : i_Rel k u v) (hk : k + 5 ≤ 2561) (v1 : Int32) : wpX_resource (fun r => wpY_resource (fun r' => r' = r ∧ i_Rel (k + 5) u v) v v1) u v1 := by
  have I5 := i_up I
  obtain ⟨H, q, tn, sl, pc, wp, yd, nd, he, co, ca, cb, fs, fc, ts, tu, ux, tl, ul, tm, gc, ga, gp, ss, st, sf, tc, tr, ow, ti, fd, ft, fk, fn, fh, fl, fv, rs, nt, le, kl, uy, fp, fz, au, rfl, rfl, a1, a2, a3, a4, a5, a6, a7, a8, a9, a10⟩ := I
  rcases ix_c v1 (n := 84) (N := 84) (N1 := 83) rfl rfl (by decide) (by decide) with c | ⟨c1, c2, c3, c4, c5⟩ | ⟨j, hj, rfl⟩
  · simp only [wpX_resource, wpY_resource, wpX_isPath, c, true_implies, not_true_eq_false, false_implies, and_true, true_and]
    exact I5
  · simp only [wpX_resource, wpY_resource, wpX_isPath, c1, c2, c3, c5, true_implies, not_true_eq_false, not_false_eq_true, false_implies, and_true, true_and]
    exact I5
  · obtain ⟨f1, f2, f3, f4, f5⟩ := ix_f (N := 84) (N1 := 83) rfl rfl hj (by decide)
    have vi : vp_in (nI j) 84 := vp_in_nI hj (by decide)
    have z : ¬ (1 : Int32) = 0 := by decide
    simp only [wpX_resource, wpY_resource, wpX_isPath, f1, f2, f3, f5, vi, z, true_implies, not_true_eq_false, not_false_eq_true, false_implies, and_true, true_and]
    exact I5
theorem i_vc_audit {k : Nat} {u : SX} {v : SY} (I : i_Rel k u v) (hk : k + 5 ≤ 2561) (v1 : Int32) : wpX_audit (fun r => wpY_audit (fun r' => r' = r ∧ i_Rel (k + 5) u v) v v1) u v1 := by
  have I5 := i_up I
  obtain ⟨H, q, tn, sl, pc, wp, yd, nd, he, co, ca, cb, fs, fc, ts, tu, ux, tl, ul, tm, gc, ga, gp, ss, st, sf, tc, tr, ow, ti, fd, ft, fk, fn, fh, fl, fv, rs, nt, le, kl, uy, fp, fz, au, rfl, rfl, a1, a2, a3, a4, a5, a6, a7, a8, a9, a10⟩ := I
  obtain ⟨m, hm, rfl, hn⟩ := a10
  rcases ix_c v1 (n := 8) (N := 8) (N1 := 7) rfl rfl (by decide) (by decide) with c | ⟨c1, c2, c3, c4, c5⟩ | ⟨j, hj, rfl⟩
  · simp only [wpX_audit, wpY_audit, c, true_implies, not_true_eq_false, false_implies, and_true, true_and]
    exact I5
  · simp only [wpX_audit, wpY_audit, c1, c2, c3, true_implies, not_true_eq_false, not_false_eq_true, false_implies, and_true, true_and]
    exact I5
  · obtain ⟨f1, f2, f3, f4, f5⟩ := ix_f (N := 8) (N1 := 7) rfl rfl hj (by decide)
    have vi : vp_in (nI j) 8 := vp_in_nI hj (by decide)
    have ec : (nI j).toNatClampNeg = j := nI_clamp (by omega)
    have e := hn j hj
    by_cases c : j < m
    · rw [if_pos c] at e
      have q1 : nI j < nI m := nI_lt c (by omega)
      have q2 : nI m - 1 - nI j = nI (m - 1 - j) := by rw [ix_p (by omega), pk_sub (by omega)]
      have q3 : nI (m - 1 - j) &&& 7 = nI ((m - 1 - j) % 8) := pk_andN (by omega) 3 (by decide)
      have q4 : (nI ((m - 1 - j) % 8)).toNatClampNeg = (m - 1 - j) % 8 := nI_clamp (by omega)
      have q5 : vp_in (nI ((m - 1 - j) % 8)) 8 := vp_in_nI (by omega) (by decide)
      simp only [wpX_audit, wpY_audit, f1, f2, f3, vi, ec, e, q1, q2, q3, q4, q5, true_implies, not_true_eq_false, not_false_eq_true, false_implies, and_true, true_and]
      exact I5
    · rw [if_neg c] at e
      have q1 : ¬ nI j < nI m := nI_nlt (by omega) (by omega)
      simp only [wpX_audit, wpY_audit, f1, f2, f3, vi, ec, e, q1, true_implies, not_true_eq_false, not_false_eq_true, false_implies, and_true, true_and]
      exact I5
end
