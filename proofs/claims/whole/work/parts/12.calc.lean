def pl_P (o i : Nat) (a : Int32) : Prop := o = 0 ∨ (14 ≤ o ∧ o ≤ 17) ∨ ((o = 12 ∨ o = 13) ∧ a ≤ nI i)
def bs_R (k d t i h o : Nat) (fd ft fn fh co : Nat → Int32) : Prop :=
  k < 6 ∧ 0 < d ∧ d ≤ 6 ∧ fd k = nI d ∧ t < 4 ∧ ft (6 * k + (d - 1)) = nI t ∧ fn (6 * k + (d - 1)) = nI i ∧ fh (6 * k + (d - 1)) = nI h ∧ i < 64 ∧ o < 24 ∧ co (64 * t + i) = nI o
section
variable {q tn sl pc wp yd nd : Int32} {he co ca cb fs fc ts tu ux tl ul tm gc ga gp ss st sf tc tr ow ti fd ft fk fn fh fl fv rs nt le kl uy fp fz au : Nat → Int32}
theorem xl_poll {post : Int32 → Prop} {t i o : Nat} (ht : t < 4) (hi : i < 64) (ho : o < 24) (eo : co (64 * t + i) = nI o) (h1 : pl_P o i (ca (64 * t + i)) → post 1) (h0 : ¬ pl_P o i (ca (64 * t + i)) → post 0) : wpX_isPoll post (q, tn, sl, pc, wp, he, co, ca, cb, fs, fc, ts, tu, ux, tl, ul, tm, gc, ga, gp, ss, st, sf, tc, tr, ow, ti, fd, ft, fk, fn, fh, fl, fv, rs, nt) (nI t) (nI i) := by
  have e1 : nI t * 64 + nI i = nI (64 * t + i) := ix_r 64 rfl t i
  have e2 : (nI (64 * t + i)).toNatClampNeg = 64 * t + i := nI_clamp (by omega)
  have v1 : vp_in (nI t * 64 + nI i) 320 := by rw [e1]; exact vp_in_nI (by omega) (by decide)
  refine ⟨v1, nm_r (e' := nI o) (by rw [e1, e2, eo]) ?_⟩
  clear eo
  have ho24 : o = 0 ∨ o = 1 ∨ o = 2 ∨ o = 3 ∨ o = 4 ∨ o = 5 ∨ o = 6 ∨ o = 7 ∨ o = 8 ∨ o = 9 ∨ o = 10 ∨ o = 11 ∨ o = 12 ∨ o = 13 ∨ o = 14 ∨ o = 15 ∨ o = 16 ∨ o = 17 ∨ o = 18 ∨ o = 19 ∨ o = 20 ∨ o = 21 ∨ o = 22 ∨ o = 23 := by omega
  rcases ho24 with rfl | rfl | rfl | rfl | rfl | rfl | rfl | rfl | rfl | rfl | rfl | rfl | rfl | rfl | rfl | rfl | rfl | rfl | rfl | rfl | rfl | rfl | rfl | rfl
  · exact br_f (by decide) (br_f (by decide) (br_t (by decide) (h1 (by unfold pl_P; omega))))
  · exact br_f (by decide) (br_f (by decide) (br_f (by decide) (br_t (by decide) (h0 (by unfold pl_P; omega)))))
  · exact br_f (by decide) (br_f (by decide) (br_f (by decide) (br_f (by decide) (br_t (by decide) (h0 (by unfold pl_P; omega))))))
  · exact br_f (by decide) (br_f (by decide) (br_f (by decide) (br_f (by decide) (br_f (by decide) (br_t (by decide) (h0 (by unfold pl_P; omega)))))))
  · exact br_f (by decide) (br_f (by decide) (br_f (by decide) (br_f (by decide) (br_f (by decide) (br_f (by decide) (br_t (by decide) (h0 (by unfold pl_P; omega))))))))
  · exact br_f (by decide) (br_f (by decide) (br_f (by decide) (br_f (by decide) (br_f (by decide) (br_f (by decide) (br_f (by decide) (br_t (by decide) (h0 (by unfold pl_P; omega)))))))))
  · exact br_f (by decide) (br_f (by decide) (br_f (by decide) (br_f (by decide) (br_f (by decide) (br_f (by decide) (br_f (by decide) (br_f (by decide) (br_t (by decide) (h0 (by unfold pl_P; omega))))))))))
  · exact br_f (by decide) (br_f (by decide) (br_f (by decide) (br_f (by decide) (br_f (by decide) (br_f (by decide) (br_f (by decide) (br_f (by decide) (br_f (by decide) (br_t (by decide) (h0 (by unfold pl_P; omega)))))))))))
  · exact br_f (by decide) (br_f (by decide) (br_f (by decide) (br_f (by decide) (br_f (by decide) (br_f (by decide) (br_f (by decide) (br_f (by decide) (br_f (by decide) (br_f (by decide) (br_t (by decide) (h0 (by unfold pl_P; omega))))))))))))
  · exact br_f (by decide) (br_f (by decide) (br_f (by decide) (br_f (by decide) (br_f (by decide) (br_f (by decide) (br_f (by decide) (br_f (by decide) (br_f (by decide) (br_f (by decide) (br_f (by decide) (br_t (by decide) (h0 (by unfold pl_P; omega)))))))))))))
  · exact br_f (by decide) (br_f (by decide) (br_f (by decide) (br_f (by decide) (br_f (by decide) (br_f (by decide) (br_f (by decide) (br_f (by decide) (br_f (by decide) (br_f (by decide) (br_f (by decide) (br_f (by decide) (br_t (by decide) (h0 (by unfold pl_P; omega))))))))))))))
  · exact br_f (by decide) (br_f (by decide) (br_f (by decide) (br_f (by decide) (br_f (by decide) (br_f (by decide) (br_f (by decide) (br_f (by decide) (br_f (by decide) (br_f (by decide) (br_f (by decide) (br_f (by decide) (br_f (by decide) (br_t (by decide) (h0 (by unfold pl_P; omega)))))))))))))))
  · refine br_f (by decide) (br_f (by decide) (br_f (by decide) (br_f (by decide) (br_f (by decide) (br_f (by decide) (br_f (by decide) (br_f (by decide) (br_f (by decide) (br_f (by decide) (br_f (by decide) (br_f (by decide) (br_f (by decide) (br_f (by decide) (br_t (by decide) (?_)))))))))))))))
    refine (show wX_isPoll_98 post (nI t) (nI i) q tn sl pc wp he co ca cb fs fc ts tu ux tl ul tm gc ga gp ss st sf tc tr ow ti fd ft fk fn fh fl fv rs nt from ⟨v1, ?_⟩)
    rw [e1, e2]
    by_cases c : nI i < ca (64 * t + i)
    · exact br_t c (h0 (by intro z; rcases z with z | z | z; omega; omega; exact absurd c (Int32.not_lt.mpr z.2)))
    · exact br_f c (h1 (Or.inr (Or.inr ⟨by omega, Int32.not_lt.mp c⟩)))
  · refine br_f (by decide) (br_f (by decide) (br_f (by decide) (br_f (by decide) (br_f (by decide) (br_f (by decide) (br_f (by decide) (br_f (by decide) (br_f (by decide) (br_f (by decide) (br_f (by decide) (br_f (by decide) (br_f (by decide) (br_f (by decide) (br_f (by decide) (br_t (by decide) (?_))))))))))))))))
    refine (show wX_isPoll_98 post (nI t) (nI i) q tn sl pc wp he co ca cb fs fc ts tu ux tl ul tm gc ga gp ss st sf tc tr ow ti fd ft fk fn fh fl fv rs nt from ⟨v1, ?_⟩)
    rw [e1, e2]
    by_cases c : nI i < ca (64 * t + i)
    · exact br_t c (h0 (by intro z; rcases z with z | z | z; omega; omega; exact absurd c (Int32.not_lt.mpr z.2)))
    · exact br_f c (h1 (Or.inr (Or.inr ⟨by omega, Int32.not_lt.mp c⟩)))
  · exact br_f (by decide) (br_f (by decide) (br_f (by decide) (br_f (by decide) (br_f (by decide) (br_f (by decide) (br_f (by decide) (br_f (by decide) (br_f (by decide) (br_f (by decide) (br_f (by decide) (br_f (by decide) (br_f (by decide) (br_f (by decide) (br_f (by decide) (br_f (by decide) (br_t (by decide) (h1 (by unfold pl_P; omega))))))))))))))))))
  · exact br_f (by decide) (br_f (by decide) (br_f (by decide) (br_f (by decide) (br_f (by decide) (br_f (by decide) (br_f (by decide) (br_f (by decide) (br_f (by decide) (br_f (by decide) (br_f (by decide) (br_f (by decide) (br_f (by decide) (br_f (by decide) (br_f (by decide) (br_f (by decide) (br_f (by decide) (br_t (by decide) (h1 (by unfold pl_P; omega)))))))))))))))))))
  · exact br_f (by decide) (br_f (by decide) (br_f (by decide) (br_f (by decide) (br_f (by decide) (br_f (by decide) (br_f (by decide) (br_f (by decide) (br_f (by decide) (br_f (by decide) (br_f (by decide) (br_f (by decide) (br_f (by decide) (br_f (by decide) (br_f (by decide) (br_f (by decide) (br_f (by decide) (br_f (by decide) (br_t (by decide) (h1 (by unfold pl_P; omega))))))))))))))))))))
  · exact br_f (by decide) (br_f (by decide) (br_f (by decide) (br_f (by decide) (br_f (by decide) (br_f (by decide) (br_f (by decide) (br_f (by decide) (br_f (by decide) (br_f (by decide) (br_f (by decide) (br_f (by decide) (br_f (by decide) (br_f (by decide) (br_f (by decide) (br_f (by decide) (br_f (by decide) (br_f (by decide) (br_f (by decide) (br_t (by decide) (h1 (by unfold pl_P; omega)))))))))))))))))))))
  · exact br_f (by decide) (br_t (by decide) (h0 (by unfold pl_P; omega)))
  · exact br_f (by decide) (br_t (by decide) (h0 (by unfold pl_P; omega)))
  · exact br_f (by decide) (br_t (by decide) (h0 (by unfold pl_P; omega)))
  · exact br_f (by decide) (br_t (by decide) (h0 (by unfold pl_P; omega)))
  · exact br_f (by decide) (br_t (by decide) (h0 (by unfold pl_P; omega)))
  · exact br_f (by decide) (br_t (by decide) (h0 (by unfold pl_P; omega)))
theorem yl_poll {post : Int32 → Prop} {i o : Nat} {a : Int32} (ho : o < 24) (h1 : pl_P o i a → post 1) (h0 : ¬ pl_P o i a → post 0) : wpY_poll post (q, wp, tn, sl, yd, nd, co, ca, cb, le, he, kl, tu, uy, tl, ul, tm, gc, ga, gp, ss, st, sf, fd, tc, tr, ow, ti, ft, fn, fh, fp, fz, fl, fv, rs, au) (nI o) (nI i) a := by
  have ho24 : o = 0 ∨ o = 1 ∨ o = 2 ∨ o = 3 ∨ o = 4 ∨ o = 5 ∨ o = 6 ∨ o = 7 ∨ o = 8 ∨ o = 9 ∨ o = 10 ∨ o = 11 ∨ o = 12 ∨ o = 13 ∨ o = 14 ∨ o = 15 ∨ o = 16 ∨ o = 17 ∨ o = 18 ∨ o = 19 ∨ o = 20 ∨ o = 21 ∨ o = 22 ∨ o = 23 := by omega
  rcases ho24 with rfl | rfl | rfl | rfl | rfl | rfl | rfl | rfl | rfl | rfl | rfl | rfl | rfl | rfl | rfl | rfl | rfl | rfl | rfl | rfl | rfl | rfl | rfl | rfl
  · exact br_t (by decide) (h1 (by unfold pl_P; omega))
  · exact br_f (by decide) (br_t (by decide) (br_f (by decide) (br_f (by decide) (h0 (by unfold pl_P; omega)))))
  · exact br_f (by decide) (br_t (by decide) (br_f (by decide) (br_f (by decide) (h0 (by unfold pl_P; omega)))))
  · exact br_f (by decide) (br_t (by decide) (br_f (by decide) (br_f (by decide) (h0 (by unfold pl_P; omega)))))
  · exact br_f (by decide) (br_t (by decide) (br_f (by decide) (br_f (by decide) (h0 (by unfold pl_P; omega)))))
  · exact br_f (by decide) (br_t (by decide) (br_f (by decide) (br_f (by decide) (h0 (by unfold pl_P; omega)))))
  · exact br_f (by decide) (br_t (by decide) (br_f (by decide) (br_f (by decide) (h0 (by unfold pl_P; omega)))))
  · exact br_f (by decide) (br_t (by decide) (br_f (by decide) (br_f (by decide) (h0 (by unfold pl_P; omega)))))
  · exact br_f (by decide) (br_t (by decide) (br_f (by decide) (br_f (by decide) (h0 (by unfold pl_P; omega)))))
  · exact br_f (by decide) (br_t (by decide) (br_f (by decide) (br_f (by decide) (h0 (by unfold pl_P; omega)))))
  · exact br_f (by decide) (br_t (by decide) (br_f (by decide) (br_f (by decide) (h0 (by unfold pl_P; omega)))))
  · exact br_f (by decide) (br_t (by decide) (br_f (by decide) (br_f (by decide) (h0 (by unfold pl_P; omega)))))
  · refine br_f (by decide) (br_t (by decide) (br_t (by decide) (?_)))
    by_cases c : nI i < a
    · exact br_t c (h0 (by intro z; rcases z with z | z | z; omega; omega; exact absurd c (Int32.not_lt.mpr z.2)))
    · exact br_f c (h1 (Or.inr (Or.inr ⟨by omega, Int32.not_lt.mp c⟩)))
  · refine br_f (by decide) (br_t (by decide) (br_f (by decide) (br_t (by decide) (?_))))
    by_cases c : nI i < a
    · exact br_t c (h0 (by intro z; rcases z with z | z | z; omega; omega; exact absurd c (Int32.not_lt.mpr z.2)))
    · exact br_f c (h1 (Or.inr (Or.inr ⟨by omega, Int32.not_lt.mp c⟩)))
  · exact br_f (by decide) (br_f (by decide) (br_t (by decide) (h1 (by unfold pl_P; omega))))
  · exact br_f (by decide) (br_f (by decide) (br_t (by decide) (h1 (by unfold pl_P; omega))))
  · exact br_f (by decide) (br_f (by decide) (br_t (by decide) (h1 (by unfold pl_P; omega))))
  · exact br_f (by decide) (br_f (by decide) (br_t (by decide) (h1 (by unfold pl_P; omega))))
  · exact br_f (by decide) (br_f (by decide) (br_f (by decide) (br_f (by decide) (br_f (by decide) (h0 (by unfold pl_P; omega))))))
  · exact br_f (by decide) (br_f (by decide) (br_f (by decide) (br_f (by decide) (br_f (by decide) (h0 (by unfold pl_P; omega))))))
  · exact br_f (by decide) (br_f (by decide) (br_f (by decide) (br_f (by decide) (br_f (by decide) (h0 (by unfold pl_P; omega))))))
  · exact br_f (by decide) (br_f (by decide) (br_f (by decide) (br_f (by decide) (br_f (by decide) (h0 (by unfold pl_P; omega))))))
  · exact br_f (by decide) (br_f (by decide) (br_f (by decide) (br_f (by decide) (br_f (by decide) (h0 (by unfold pl_P; omega))))))
  · exact br_f (by decide) (br_f (by decide) (br_f (by decide) (br_f (by decide) (br_f (by decide) (h0 (by unfold pl_P; omega))))))
theorem po_0 (a : Int32) : st_po 0 a = 0 := by simp [st_po]
theorem po_1 (a : Int32) : st_po 1 a = 0 := by simp [st_po]
theorem po_2 (a : Int32) : st_po 2 a = 1 := by simp [st_po]
theorem po_3 (a : Int32) : st_po 3 a = 1 := by simp [st_po]
theorem po_4 (a : Int32) : st_po 4 a = 2 := by simp [st_po]
theorem po_5 (a : Int32) : st_po 5 a = 2 := by simp [st_po]
theorem po_6 (a : Int32) : st_po 6 a = 2 := by simp [st_po]
theorem po_7 (a : Int32) : st_po 7 a = 2 := by simp [st_po]
theorem po_8 (a : Int32) : st_po 8 a = 2 := by simp [st_po]
theorem po_9 (a : Int32) : st_po 9 a = 2 := by simp [st_po]
theorem po_10 (a : Int32) : st_po 10 a = 0 := by simp [st_po]
theorem po_11 (a : Int32) : st_po 11 a = 1 := by simp [st_po]
theorem po_12 (a : Int32) : st_po 12 a = 0 := by simp [st_po]
theorem po_13 (a : Int32) : st_po 13 a = 1 := by simp [st_po]
theorem po_14 (a : Int32) : st_po 14 a = 1 := by simp [st_po]
theorem po_15 (a : Int32) : st_po 15 a = 1 := by simp [st_po]
theorem po_16 (a : Int32) : st_po 16 a = 1 := by simp [st_po]
theorem po_17 (a : Int32) : st_po 17 a = 1 := by simp [st_po]
theorem po_19 (a : Int32) : st_po 19 a = 1 := by simp [st_po]
theorem po_20 (a : Int32) : st_po 20 a = 1 := by simp [st_po]
theorem po_21 (a : Int32) : st_po 21 a = 1 := by simp [st_po]
theorem po_22 (a : Int32) : st_po 22 a = 1 := by simp [st_po]
theorem po_23 (a : Int32) : st_po 23 a = 0 := by simp [st_po]
theorem pu_0 (a : Int32) : st_pu 0 a = 0 := by simp [st_pu]
theorem pu_1 (a : Int32) : st_pu 1 a = 1 := by simp [st_pu]
theorem pu_2 (a : Int32) : st_pu 2 a = 2 := by simp [st_pu]
theorem pu_3 (a : Int32) : st_pu 3 a = 0 := by simp [st_pu]
theorem pu_4 (a : Int32) : st_pu 4 a = 2 := by simp [st_pu]
theorem pu_5 (a : Int32) : st_pu 5 a = 1 := by simp [st_pu]
theorem pu_6 (a : Int32) : st_pu 6 a = 1 := by simp [st_pu]
theorem pu_7 (a : Int32) : st_pu 7 a = 1 := by simp [st_pu]
theorem pu_8 (a : Int32) : st_pu 8 a = 1 := by simp [st_pu]
theorem pu_9 (a : Int32) : st_pu 9 a = 1 := by simp [st_pu]
theorem pu_10 (a : Int32) : st_pu 10 a = 1 := by simp [st_pu]
theorem pu_11 (a : Int32) : st_pu 11 a = 0 := by simp [st_pu]
theorem pu_12 (a : Int32) : st_pu 12 a = 0 := by simp [st_pu]
theorem pu_13 (a : Int32) : st_pu 13 a = 0 := by simp [st_pu]
theorem pu_14 (a : Int32) : st_pu 14 a = 1 := by simp [st_pu]
theorem pu_15 (a : Int32) : st_pu 15 a = 1 := by simp [st_pu]
theorem pu_16 (a : Int32) : st_pu 16 a = 2 := by simp [st_pu]
theorem pu_17 (a : Int32) : st_pu 17 a = 1 := by simp [st_pu]
theorem pu_19 (a : Int32) : st_pu 19 a = 1 := by simp [st_pu]
theorem pu_20 (a : Int32) : st_pu 20 a = 0 := by simp [st_pu]
theorem pu_21 (a : Int32) : st_pu 21 a = 0 := by simp [st_pu]
theorem pu_22 (a : Int32) : st_pu 22 a = 0 := by simp [st_pu]
theorem pu_23 (a : Int32) : st_pu 23 a = 0 := by simp [st_pu]
theorem po_18 (a : Int32) : st_po 18 a = if a = 1 then 1 else 0 := by simp [st_po]
theorem pu_18 (a : Int32) : st_pu 18 a = if a = 1 then 0 else 1 := by simp [st_pu]
theorem yl_pops {post : Int32 → Prop} {o : Nat} {a : Int32} (ho : o < 24) (h : post (nI (st_po o a))) : wpY_pops post (q, wp, tn, sl, yd, nd, co, ca, cb, le, he, kl, tu, uy, tl, ul, tm, gc, ga, gp, ss, st, sf, fd, tc, tr, ow, ti, ft, fn, fh, fp, fz, fl, fv, rs, au) (nI o) a := by
  have ho24 : o = 0 ∨ o = 1 ∨ o = 2 ∨ o = 3 ∨ o = 4 ∨ o = 5 ∨ o = 6 ∨ o = 7 ∨ o = 8 ∨ o = 9 ∨ o = 10 ∨ o = 11 ∨ o = 12 ∨ o = 13 ∨ o = 14 ∨ o = 15 ∨ o = 16 ∨ o = 17 ∨ o = 18 ∨ o = 19 ∨ o = 20 ∨ o = 21 ∨ o = 22 ∨ o = 23 := by omega
  rcases ho24 with rfl | rfl | rfl | rfl | rfl | rfl | rfl | rfl | rfl | rfl | rfl | rfl | rfl | rfl | rfl | rfl | rfl | rfl | rfl | rfl | rfl | rfl | rfl | rfl
  · rw [po_0] at h
    exact br_f (by decide) (br_t (by decide) (br_f (by decide) (br_f (by decide) (br_f (by decide) (br_f (by decide) (br_t (by decide) (br_t (by decide) (h))))))))
  · rw [po_1] at h
    exact br_f (by decide) (br_t (by decide) (br_f (by decide) (br_f (by decide) (br_f (by decide) (br_f (by decide) (br_t (by decide) (br_t (by decide) (h))))))))
  · rw [po_2] at h
    exact br_f (by decide) (br_t (by decide) (br_f (by decide) (br_t (by decide) (h))))
  · rw [po_3] at h
    exact br_f (by decide) (br_t (by decide) (br_f (by decide) (br_f (by decide) (br_t (by decide) (h)))))
  · rw [po_4] at h
    exact br_t (by decide) (h)
  · rw [po_5] at h
    exact br_f (by decide) (br_f (by decide) (br_f (by decide) (h)))
  · rw [po_6] at h
    exact br_f (by decide) (br_f (by decide) (br_f (by decide) (h)))
  · rw [po_7] at h
    exact br_f (by decide) (br_f (by decide) (br_f (by decide) (h)))
  · rw [po_8] at h
    exact br_f (by decide) (br_f (by decide) (br_f (by decide) (h)))
  · rw [po_9] at h
    exact br_f (by decide) (br_f (by decide) (br_f (by decide) (h)))
  · rw [po_10] at h
    exact br_f (by decide) (br_f (by decide) (br_t (by decide) (br_f (by decide) (br_f (by decide) (br_f (by decide) (br_f (by decide) (br_t (by decide) (br_t (by decide) (h)))))))))
  · rw [po_11] at h
    exact br_f (by decide) (br_f (by decide) (br_t (by decide) (br_f (by decide) (br_f (by decide) (br_f (by decide) (br_t (by decide) (h)))))))
  · rw [po_12] at h
    exact br_f (by decide) (br_f (by decide) (br_t (by decide) (br_f (by decide) (br_f (by decide) (br_f (by decide) (br_f (by decide) (br_t (by decide) (br_t (by decide) (h)))))))))
  · rw [po_13] at h
    exact br_f (by decide) (br_f (by decide) (br_t (by decide) (br_f (by decide) (br_f (by decide) (br_f (by decide) (br_f (by decide) (br_f (by decide) (br_t (by decide) (h)))))))))
  · rw [po_14] at h
    exact br_f (by decide) (br_f (by decide) (br_t (by decide) (br_f (by decide) (br_f (by decide) (br_f (by decide) (br_f (by decide) (br_f (by decide) (br_t (by decide) (h)))))))))
  · rw [po_15] at h
    exact br_f (by decide) (br_f (by decide) (br_t (by decide) (br_f (by decide) (br_f (by decide) (br_f (by decide) (br_f (by decide) (br_f (by decide) (br_t (by decide) (h)))))))))
  · rw [po_16] at h
    exact br_f (by decide) (br_f (by decide) (br_t (by decide) (br_f (by decide) (br_f (by decide) (br_f (by decide) (br_f (by decide) (br_f (by decide) (br_t (by decide) (h)))))))))
  · rw [po_17] at h
    exact br_f (by decide) (br_f (by decide) (br_t (by decide) (br_f (by decide) (br_f (by decide) (br_f (by decide) (br_f (by decide) (br_f (by decide) (br_t (by decide) (h)))))))))
  · rw [po_18] at h
    by_cases c : a = 1
    · rw [if_pos c] at h
      exact br_f (by decide) (br_f (by decide) (br_t (by decide) (br_t (by decide) (br_t c h))))
    · rw [if_neg c] at h
      exact br_f (by decide) (br_f (by decide) (br_t (by decide) (br_t (by decide) (br_f c h))))
  · rw [po_19] at h
    exact br_f (by decide) (br_f (by decide) (br_t (by decide) (br_f (by decide) (br_f (by decide) (br_f (by decide) (br_f (by decide) (br_f (by decide) (br_f (by decide) (br_f (by decide) (br_f (by decide) (h)))))))))))
  · rw [po_20] at h
    exact br_f (by decide) (br_f (by decide) (br_t (by decide) (br_f (by decide) (br_f (by decide) (br_f (by decide) (br_f (by decide) (br_f (by decide) (br_f (by decide) (br_f (by decide) (br_f (by decide) (h)))))))))))
  · rw [po_21] at h
    exact br_f (by decide) (br_f (by decide) (br_t (by decide) (br_f (by decide) (br_f (by decide) (br_f (by decide) (br_f (by decide) (br_f (by decide) (br_f (by decide) (br_f (by decide) (br_f (by decide) (h)))))))))))
  · rw [po_22] at h
    exact br_f (by decide) (br_f (by decide) (br_t (by decide) (br_f (by decide) (br_f (by decide) (br_f (by decide) (br_f (by decide) (br_f (by decide) (br_f (by decide) (br_f (by decide) (br_f (by decide) (h)))))))))))
  · rw [po_23] at h
    exact br_f (by decide) (br_f (by decide) (br_t (by decide) (br_f (by decide) (br_f (by decide) (br_f (by decide) (br_f (by decide) (br_f (by decide) (br_f (by decide) (br_f (by decide) (br_t (by decide) (h)))))))))))
theorem yl_pushes {post : Int32 → Prop} {o : Nat} {a : Int32} (ho : o < 24) (h : post (nI (st_pu o a))) : wpY_pushes post (q, wp, tn, sl, yd, nd, co, ca, cb, le, he, kl, tu, uy, tl, ul, tm, gc, ga, gp, ss, st, sf, fd, tc, tr, ow, ti, ft, fn, fh, fp, fz, fl, fv, rs, au) (nI o) a := by
  have ho24 : o = 0 ∨ o = 1 ∨ o = 2 ∨ o = 3 ∨ o = 4 ∨ o = 5 ∨ o = 6 ∨ o = 7 ∨ o = 8 ∨ o = 9 ∨ o = 10 ∨ o = 11 ∨ o = 12 ∨ o = 13 ∨ o = 14 ∨ o = 15 ∨ o = 16 ∨ o = 17 ∨ o = 18 ∨ o = 19 ∨ o = 20 ∨ o = 21 ∨ o = 22 ∨ o = 23 := by omega
  rcases ho24 with rfl | rfl | rfl | rfl | rfl | rfl | rfl | rfl | rfl | rfl | rfl | rfl | rfl | rfl | rfl | rfl | rfl | rfl | rfl | rfl | rfl | rfl | rfl | rfl
  · rw [pu_0] at h
    exact br_f (by decide) (br_f (by decide) (br_f (by decide) (br_f (by decide) (br_f (by decide) (br_t (by decide) (br_f (by decide) (br_f (by decide) (br_f (by decide) (br_f (by decide) (h))))))))))
  · rw [pu_1] at h
    exact br_f (by decide) (br_f (by decide) (br_f (by decide) (br_f (by decide) (br_t (by decide) (h)))))
  · rw [pu_2] at h
    exact br_t (by decide) (h)
  · rw [pu_3] at h
    exact br_f (by decide) (br_f (by decide) (br_f (by decide) (br_f (by decide) (br_f (by decide) (br_t (by decide) (br_f (by decide) (br_f (by decide) (br_f (by decide) (br_f (by decide) (h))))))))))
  · rw [pu_4] at h
    exact br_f (by decide) (br_t (by decide) (h))
  · rw [pu_5] at h
    exact br_f (by decide) (br_f (by decide) (br_f (by decide) (br_f (by decide) (br_f (by decide) (br_f (by decide) (br_t (by decide) (h)))))))
  · rw [pu_6] at h
    exact br_f (by decide) (br_f (by decide) (br_f (by decide) (br_f (by decide) (br_f (by decide) (br_f (by decide) (br_t (by decide) (h)))))))
  · rw [pu_7] at h
    exact br_f (by decide) (br_f (by decide) (br_f (by decide) (br_f (by decide) (br_f (by decide) (br_f (by decide) (br_t (by decide) (h)))))))
  · rw [pu_8] at h
    exact br_f (by decide) (br_f (by decide) (br_f (by decide) (br_f (by decide) (br_f (by decide) (br_f (by decide) (br_t (by decide) (h)))))))
  · rw [pu_9] at h
    exact br_f (by decide) (br_f (by decide) (br_f (by decide) (br_f (by decide) (br_f (by decide) (br_f (by decide) (br_t (by decide) (h)))))))
  · rw [pu_10] at h
    exact br_f (by decide) (br_f (by decide) (br_f (by decide) (br_f (by decide) (br_f (by decide) (br_f (by decide) (br_t (by decide) (h)))))))
  · rw [pu_11] at h
    exact br_f (by decide) (br_f (by decide) (br_f (by decide) (br_f (by decide) (br_f (by decide) (br_f (by decide) (br_f (by decide) (br_f (by decide) (br_f (by decide) (br_f (by decide) (br_f (by decide) (h)))))))))))
  · rw [pu_12] at h
    exact br_f (by decide) (br_f (by decide) (br_f (by decide) (br_f (by decide) (br_f (by decide) (br_f (by decide) (br_f (by decide) (br_f (by decide) (br_f (by decide) (br_f (by decide) (br_f (by decide) (h)))))))))))
  · rw [pu_13] at h
    exact br_f (by decide) (br_f (by decide) (br_f (by decide) (br_f (by decide) (br_f (by decide) (br_f (by decide) (br_f (by decide) (br_f (by decide) (br_f (by decide) (br_f (by decide) (br_f (by decide) (h)))))))))))
  · rw [pu_14] at h
    exact br_f (by decide) (br_f (by decide) (br_f (by decide) (br_f (by decide) (br_f (by decide) (br_f (by decide) (br_f (by decide) (br_t (by decide) (h))))))))
  · rw [pu_15] at h
    exact br_f (by decide) (br_f (by decide) (br_f (by decide) (br_f (by decide) (br_f (by decide) (br_f (by decide) (br_f (by decide) (br_f (by decide) (br_t (by decide) (h)))))))))
  · rw [pu_16] at h
    exact br_f (by decide) (br_f (by decide) (br_t (by decide) (h)))
  · rw [pu_17] at h
    exact br_f (by decide) (br_f (by decide) (br_f (by decide) (br_f (by decide) (br_f (by decide) (br_f (by decide) (br_f (by decide) (br_f (by decide) (br_f (by decide) (br_t (by decide) (h))))))))))
  · rw [pu_18] at h
    by_cases c : a = 1
    · rw [if_pos c] at h
      exact br_f (by decide) (br_f (by decide) (br_f (by decide) (br_t (by decide) (br_t c h))))
    · rw [if_neg c] at h
      exact br_f (by decide) (br_f (by decide) (br_f (by decide) (br_t (by decide) (br_f c h))))
  · rw [pu_19] at h
    exact br_f (by decide) (br_f (by decide) (br_f (by decide) (br_f (by decide) (br_f (by decide) (br_f (by decide) (br_f (by decide) (br_f (by decide) (br_f (by decide) (br_f (by decide) (br_t (by decide) (h)))))))))))
  · rw [pu_20] at h
    exact br_f (by decide) (br_f (by decide) (br_f (by decide) (br_f (by decide) (br_f (by decide) (br_f (by decide) (br_f (by decide) (br_f (by decide) (br_f (by decide) (br_f (by decide) (br_f (by decide) (h)))))))))))
  · rw [pu_21] at h
    exact br_f (by decide) (br_f (by decide) (br_f (by decide) (br_f (by decide) (br_f (by decide) (br_f (by decide) (br_f (by decide) (br_f (by decide) (br_f (by decide) (br_f (by decide) (br_f (by decide) (h)))))))))))
  · rw [pu_22] at h
    exact br_f (by decide) (br_f (by decide) (br_f (by decide) (br_f (by decide) (br_f (by decide) (br_f (by decide) (br_f (by decide) (br_f (by decide) (br_f (by decide) (br_f (by decide) (br_f (by decide) (h)))))))))))
  · rw [pu_23] at h
    exact br_f (by decide) (br_f (by decide) (br_f (by decide) (br_f (by decide) (br_f (by decide) (br_f (by decide) (br_f (by decide) (br_f (by decide) (br_f (by decide) (br_f (by decide) (br_f (by decide) (h)))))))))))
theorem xl_popped {post : Int32 → Prop} {o : Nat} {a : Int32} (ho : o < 24) (h : post (nI (st_po o a))) : wpX_popped post (nI o) a := by
  have ho24 : o = 0 ∨ o = 1 ∨ o = 2 ∨ o = 3 ∨ o = 4 ∨ o = 5 ∨ o = 6 ∨ o = 7 ∨ o = 8 ∨ o = 9 ∨ o = 10 ∨ o = 11 ∨ o = 12 ∨ o = 13 ∨ o = 14 ∨ o = 15 ∨ o = 16 ∨ o = 17 ∨ o = 18 ∨ o = 19 ∨ o = 20 ∨ o = 21 ∨ o = 22 ∨ o = 23 := by omega
  rcases ho24 with rfl | rfl | rfl | rfl | rfl | rfl | rfl | rfl | rfl | rfl | rfl | rfl | rfl | rfl | rfl | rfl | rfl | rfl | rfl | rfl | rfl | rfl | rfl | rfl
  · rw [po_0] at h
    exact br_t (by decide) (h)
  · rw [po_1] at h
    exact br_t (by decide) (h)
  · rw [po_2] at h
    exact br_f (by decide) (br_f (by decide) (br_t (by decide) (h)))
  · rw [po_3] at h
    exact br_f (by decide) (br_f (by decide) (br_f (by decide) (br_t (by decide) (h))))
  · rw [po_4] at h
    exact br_f (by decide) (br_f (by decide) (br_f (by decide) (br_f (by decide) (br_t (by decide) (h)))))
  · rw [po_5] at h
    exact br_f (by decide) (br_f (by decide) (br_f (by decide) (br_f (by decide) (br_f (by decide) (br_t (by decide) (h))))))
  · rw [po_6] at h
    exact br_f (by decide) (br_f (by decide) (br_f (by decide) (br_f (by decide) (br_f (by decide) (br_f (by decide) (br_t (by decide) (h)))))))
  · rw [po_7] at h
    exact br_f (by decide) (br_f (by decide) (br_f (by decide) (br_f (by decide) (br_f (by decide) (br_f (by decide) (br_f (by decide) (br_t (by decide) (h))))))))
  · rw [po_8] at h
    exact br_f (by decide) (br_f (by decide) (br_f (by decide) (br_f (by decide) (br_f (by decide) (br_f (by decide) (br_f (by decide) (br_f (by decide) (br_t (by decide) (h)))))))))
  · rw [po_9] at h
    exact br_f (by decide) (br_f (by decide) (br_f (by decide) (br_f (by decide) (br_f (by decide) (br_f (by decide) (br_f (by decide) (br_f (by decide) (br_f (by decide) (br_t (by decide) (h))))))))))
  · rw [po_10] at h
    exact br_f (by decide) (br_f (by decide) (br_f (by decide) (br_f (by decide) (br_f (by decide) (br_f (by decide) (br_f (by decide) (br_f (by decide) (br_f (by decide) (br_f (by decide) (br_t (by decide) (h)))))))))))
  · rw [po_11] at h
    exact br_f (by decide) (br_f (by decide) (br_f (by decide) (br_f (by decide) (br_f (by decide) (br_f (by decide) (br_f (by decide) (br_f (by decide) (br_f (by decide) (br_f (by decide) (br_f (by decide) (br_t (by decide) (h))))))))))))
  · rw [po_12] at h
    exact br_f (by decide) (br_f (by decide) (br_f (by decide) (br_f (by decide) (br_f (by decide) (br_f (by decide) (br_f (by decide) (br_f (by decide) (br_f (by decide) (br_f (by decide) (br_f (by decide) (br_f (by decide) (br_t (by decide) (h)))))))))))))
  · rw [po_13] at h
    exact br_f (by decide) (br_f (by decide) (br_f (by decide) (br_f (by decide) (br_f (by decide) (br_f (by decide) (br_f (by decide) (br_f (by decide) (br_f (by decide) (br_f (by decide) (br_f (by decide) (br_f (by decide) (br_f (by decide) (br_t (by decide) (h))))))))))))))
  · rw [po_14] at h
    exact br_f (by decide) (br_f (by decide) (br_f (by decide) (br_f (by decide) (br_f (by decide) (br_f (by decide) (br_f (by decide) (br_f (by decide) (br_f (by decide) (br_f (by decide) (br_f (by decide) (br_f (by decide) (br_f (by decide) (br_f (by decide) (br_t (by decide) (h)))))))))))))))
  · rw [po_15] at h
    exact br_f (by decide) (br_f (by decide) (br_f (by decide) (br_f (by decide) (br_f (by decide) (br_f (by decide) (br_f (by decide) (br_f (by decide) (br_f (by decide) (br_f (by decide) (br_f (by decide) (br_f (by decide) (br_f (by decide) (br_f (by decide) (br_f (by decide) (br_t (by decide) (h))))))))))))))))
  · rw [po_16] at h
    exact br_f (by decide) (br_f (by decide) (br_f (by decide) (br_f (by decide) (br_f (by decide) (br_f (by decide) (br_f (by decide) (br_f (by decide) (br_f (by decide) (br_f (by decide) (br_f (by decide) (br_f (by decide) (br_f (by decide) (br_f (by decide) (br_f (by decide) (br_f (by decide) (br_t (by decide) (h)))))))))))))))))
  · rw [po_17] at h
    exact br_f (by decide) (br_f (by decide) (br_f (by decide) (br_f (by decide) (br_f (by decide) (br_f (by decide) (br_f (by decide) (br_f (by decide) (br_f (by decide) (br_f (by decide) (br_f (by decide) (br_f (by decide) (br_f (by decide) (br_f (by decide) (br_f (by decide) (br_f (by decide) (br_f (by decide) (br_t (by decide) (h))))))))))))))))))
  · rw [po_18] at h
    by_cases c : a = 1
    · rw [if_pos c] at h
      exact br_f (by decide) (br_f (by decide) (br_f (by decide) (br_f (by decide) (br_f (by decide) (br_f (by decide) (br_f (by decide) (br_f (by decide) (br_f (by decide) (br_f (by decide) (br_f (by decide) (br_f (by decide) (br_f (by decide) (br_f (by decide) (br_f (by decide) (br_f (by decide) (br_f (by decide) (br_f (by decide) (br_t (by decide) (br_t c h)))))))))))))))))))
    · rw [if_neg c] at h
      exact br_f (by decide) (br_f (by decide) (br_f (by decide) (br_f (by decide) (br_f (by decide) (br_f (by decide) (br_f (by decide) (br_f (by decide) (br_f (by decide) (br_f (by decide) (br_f (by decide) (br_f (by decide) (br_f (by decide) (br_f (by decide) (br_f (by decide) (br_f (by decide) (br_f (by decide) (br_f (by decide) (br_t (by decide) (br_f c h)))))))))))))))))))
  · rw [po_19] at h
    exact br_f (by decide) (br_f (by decide) (br_f (by decide) (br_f (by decide) (br_f (by decide) (br_f (by decide) (br_f (by decide) (br_f (by decide) (br_f (by decide) (br_f (by decide) (br_f (by decide) (br_f (by decide) (br_f (by decide) (br_f (by decide) (br_f (by decide) (br_f (by decide) (br_f (by decide) (br_f (by decide) (br_f (by decide) (br_t (by decide) (h))))))))))))))))))))
  · rw [po_20] at h
    exact br_f (by decide) (br_f (by decide) (br_f (by decide) (br_f (by decide) (br_f (by decide) (br_f (by decide) (br_f (by decide) (br_f (by decide) (br_f (by decide) (br_f (by decide) (br_f (by decide) (br_f (by decide) (br_f (by decide) (br_f (by decide) (br_f (by decide) (br_f (by decide) (br_f (by decide) (br_f (by decide) (br_f (by decide) (br_f (by decide) (br_t (by decide) (h)))))))))))))))))))))
  · rw [po_21] at h
    exact br_f (by decide) (br_f (by decide) (br_f (by decide) (br_f (by decide) (br_f (by decide) (br_f (by decide) (br_f (by decide) (br_f (by decide) (br_f (by decide) (br_f (by decide) (br_f (by decide) (br_f (by decide) (br_f (by decide) (br_f (by decide) (br_f (by decide) (br_f (by decide) (br_f (by decide) (br_f (by decide) (br_f (by decide) (br_f (by decide) (br_f (by decide) (br_t (by decide) (h))))))))))))))))))))))
  · rw [po_22] at h
    exact br_f (by decide) (br_f (by decide) (br_f (by decide) (br_f (by decide) (br_f (by decide) (br_f (by decide) (br_f (by decide) (br_f (by decide) (br_f (by decide) (br_f (by decide) (br_f (by decide) (br_f (by decide) (br_f (by decide) (br_f (by decide) (br_f (by decide) (br_f (by decide) (br_f (by decide) (br_f (by decide) (br_f (by decide) (br_f (by decide) (br_f (by decide) (br_f (by decide) (br_t (by decide) (h)))))))))))))))))))))))
  · rw [po_23] at h
    exact br_f (by decide) (br_t (by decide) (h))
theorem xl_pushed {post : Int32 → Prop} {o : Nat} {a : Int32} (ho : o < 24) (h : post (nI (st_pu o a))) : wpX_pushed post (nI o) a := by
  have ho24 : o = 0 ∨ o = 1 ∨ o = 2 ∨ o = 3 ∨ o = 4 ∨ o = 5 ∨ o = 6 ∨ o = 7 ∨ o = 8 ∨ o = 9 ∨ o = 10 ∨ o = 11 ∨ o = 12 ∨ o = 13 ∨ o = 14 ∨ o = 15 ∨ o = 16 ∨ o = 17 ∨ o = 18 ∨ o = 19 ∨ o = 20 ∨ o = 21 ∨ o = 22 ∨ o = 23 := by omega
  rcases ho24 with rfl | rfl | rfl | rfl | rfl | rfl | rfl | rfl | rfl | rfl | rfl | rfl | rfl | rfl | rfl | rfl | rfl | rfl | rfl | rfl | rfl | rfl | rfl | rfl
  · rw [pu_0] at h
    exact br_t (by decide) (h)
  · rw [pu_1] at h
    exact br_f (by decide) (br_f (by decide) (br_t (by decide) (h)))
  · rw [pu_2] at h
    exact br_f (by decide) (br_f (by decide) (br_f (by decide) (br_t (by decide) (h))))
  · rw [pu_3] at h
    exact br_f (by decide) (br_f (by decide) (br_f (by decide) (br_f (by decide) (br_t (by decide) (h)))))
  · rw [pu_4] at h
    exact br_f (by decide) (br_f (by decide) (br_f (by decide) (br_f (by decide) (br_f (by decide) (br_t (by decide) (h))))))
  · rw [pu_5] at h
    exact br_f (by decide) (br_f (by decide) (br_f (by decide) (br_f (by decide) (br_f (by decide) (br_f (by decide) (br_t (by decide) (h)))))))
  · rw [pu_6] at h
    exact br_f (by decide) (br_f (by decide) (br_f (by decide) (br_f (by decide) (br_f (by decide) (br_f (by decide) (br_f (by decide) (br_t (by decide) (h))))))))
  · rw [pu_7] at h
    exact br_f (by decide) (br_f (by decide) (br_f (by decide) (br_f (by decide) (br_f (by decide) (br_f (by decide) (br_f (by decide) (br_f (by decide) (br_t (by decide) (h)))))))))
  · rw [pu_8] at h
    exact br_f (by decide) (br_f (by decide) (br_f (by decide) (br_f (by decide) (br_f (by decide) (br_f (by decide) (br_f (by decide) (br_f (by decide) (br_f (by decide) (br_t (by decide) (h))))))))))
  · rw [pu_9] at h
    exact br_f (by decide) (br_f (by decide) (br_f (by decide) (br_f (by decide) (br_f (by decide) (br_f (by decide) (br_f (by decide) (br_f (by decide) (br_f (by decide) (br_f (by decide) (br_t (by decide) (h)))))))))))
  · rw [pu_10] at h
    exact br_f (by decide) (br_f (by decide) (br_f (by decide) (br_f (by decide) (br_f (by decide) (br_f (by decide) (br_f (by decide) (br_f (by decide) (br_f (by decide) (br_f (by decide) (br_f (by decide) (br_t (by decide) (h))))))))))))
  · rw [pu_11] at h
    exact br_f (by decide) (br_f (by decide) (br_f (by decide) (br_f (by decide) (br_f (by decide) (br_f (by decide) (br_f (by decide) (br_f (by decide) (br_f (by decide) (br_f (by decide) (br_f (by decide) (br_f (by decide) (br_t (by decide) (h)))))))))))))
  · rw [pu_12] at h
    exact br_f (by decide) (br_f (by decide) (br_f (by decide) (br_f (by decide) (br_f (by decide) (br_f (by decide) (br_f (by decide) (br_f (by decide) (br_f (by decide) (br_f (by decide) (br_f (by decide) (br_f (by decide) (br_f (by decide) (br_t (by decide) (h))))))))))))))
  · rw [pu_13] at h
    exact br_f (by decide) (br_f (by decide) (br_f (by decide) (br_f (by decide) (br_f (by decide) (br_f (by decide) (br_f (by decide) (br_f (by decide) (br_f (by decide) (br_f (by decide) (br_f (by decide) (br_f (by decide) (br_f (by decide) (br_f (by decide) (br_t (by decide) (h)))))))))))))))
  · rw [pu_14] at h
    exact br_f (by decide) (br_f (by decide) (br_f (by decide) (br_f (by decide) (br_f (by decide) (br_f (by decide) (br_f (by decide) (br_f (by decide) (br_f (by decide) (br_f (by decide) (br_f (by decide) (br_f (by decide) (br_f (by decide) (br_f (by decide) (br_f (by decide) (br_t (by decide) (h))))))))))))))))
  · rw [pu_15] at h
    exact br_f (by decide) (br_f (by decide) (br_f (by decide) (br_f (by decide) (br_f (by decide) (br_f (by decide) (br_f (by decide) (br_f (by decide) (br_f (by decide) (br_f (by decide) (br_f (by decide) (br_f (by decide) (br_f (by decide) (br_f (by decide) (br_f (by decide) (br_f (by decide) (br_t (by decide) (h)))))))))))))))))
  · rw [pu_16] at h
    exact br_f (by decide) (br_f (by decide) (br_f (by decide) (br_f (by decide) (br_f (by decide) (br_f (by decide) (br_f (by decide) (br_f (by decide) (br_f (by decide) (br_f (by decide) (br_f (by decide) (br_f (by decide) (br_f (by decide) (br_f (by decide) (br_f (by decide) (br_f (by decide) (br_f (by decide) (br_t (by decide) (h))))))))))))))))))
  · rw [pu_17] at h
    exact br_f (by decide) (br_f (by decide) (br_f (by decide) (br_f (by decide) (br_f (by decide) (br_f (by decide) (br_f (by decide) (br_f (by decide) (br_f (by decide) (br_f (by decide) (br_f (by decide) (br_f (by decide) (br_f (by decide) (br_f (by decide) (br_f (by decide) (br_f (by decide) (br_f (by decide) (br_f (by decide) (br_t (by decide) (h)))))))))))))))))))
  · rw [pu_18] at h
    by_cases c : a = 1
    · rw [if_pos c] at h
      exact br_f (by decide) (br_f (by decide) (br_f (by decide) (br_f (by decide) (br_f (by decide) (br_f (by decide) (br_f (by decide) (br_f (by decide) (br_f (by decide) (br_f (by decide) (br_f (by decide) (br_f (by decide) (br_f (by decide) (br_f (by decide) (br_f (by decide) (br_f (by decide) (br_f (by decide) (br_f (by decide) (br_f (by decide) (br_t (by decide) (br_t c h))))))))))))))))))))
    · rw [if_neg c] at h
      exact br_f (by decide) (br_f (by decide) (br_f (by decide) (br_f (by decide) (br_f (by decide) (br_f (by decide) (br_f (by decide) (br_f (by decide) (br_f (by decide) (br_f (by decide) (br_f (by decide) (br_f (by decide) (br_f (by decide) (br_f (by decide) (br_f (by decide) (br_f (by decide) (br_f (by decide) (br_f (by decide) (br_f (by decide) (br_t (by decide) (br_f c h))))))))))))))))))))
  · rw [pu_19] at h
    exact br_f (by decide) (br_f (by decide) (br_f (by decide) (br_f (by decide) (br_f (by decide) (br_f (by decide) (br_f (by decide) (br_f (by decide) (br_f (by decide) (br_f (by decide) (br_f (by decide) (br_f (by decide) (br_f (by decide) (br_f (by decide) (br_f (by decide) (br_f (by decide) (br_f (by decide) (br_f (by decide) (br_f (by decide) (br_f (by decide) (br_t (by decide) (h)))))))))))))))))))))
  · rw [pu_20] at h
    exact br_f (by decide) (br_t (by decide) (h))
  · rw [pu_21] at h
    exact br_f (by decide) (br_t (by decide) (h))
  · rw [pu_22] at h
    exact br_f (by decide) (br_t (by decide) (h))
  · rw [pu_23] at h
    exact br_f (by decide) (br_t (by decide) (h))
theorem xl_fb {post : Int32 → Prop} {k d t i h o : Nat} (B : bs_R k d t i h o fd ft fn fh co) (h3 : ts t = 2 → pl_P o i (ca (64 * t + i)) → post 3) (h2 : (ts t ≠ 2 ∨ ¬ pl_P o i (ca (64 * t + i))) → ¬ tu t < tl t → post 2) (h0 : (ts t ≠ 2 ∨ ¬ pl_P o i (ca (64 * t + i))) → tu t < tl t → post 0) : wpX_faultBefore post (q, tn, sl, pc, wp, he, co, ca, cb, fs, fc, ts, tu, ux, tl, ul, tm, gc, ga, gp, ss, st, sf, tc, tr, ow, ti, fd, ft, fk, fn, fh, fl, fv, rs, nt) (nI k) := by
  obtain ⟨hk, hd0, hd6, ed, ht, eft, efn, efh, hi, ho, eo⟩ := B
  have ex : (nI (6 * k + (d - 1))).toNatClampNeg = 6 * k + (d - 1) := nI_clamp (by omega)
  have vx : vp_in (nI (6 * k + (d - 1))) 36 := vp_in_nI (by omega) (by decide)
  have et : (nI t).toNatClampNeg = t := nI_clamp (by omega)
  have vt : vp_in (nI t) 4 := vp_in_nI ht (by decide)
  have q39 : (ts t ≠ 2 ∨ ¬ pl_P o i (ca (64 * t + i))) → wX_faultBefore_39 post (nI t) q tn sl pc wp he co ca cb fs fc ts tu ux tl ul tm gc ga gp ss st sf tc tr ow ti fd ft fk fn fh fl fv rs nt := by
    intro z
    refine ⟨vt, vt, ?_⟩
    rw [et]
    by_cases c : tu t < tl t
    · exact br_t c (h0 z c)
    · exact br_f c (h2 z c)
  unfold wpX_faultBefore; dsimp only
  refine xl_top hk hd0 ed ⟨vx, nm_r (e' := nI t) (by rw [ex, eft]) ⟨vt, ?_⟩⟩
  rw [et]
  by_cases c : ts t = 2
  · refine br_t c ⟨vx, ?_⟩
    rw [ex, efn]
    exact xl_poll ht hi ho eo (fun z => br_f (by decide) (h3 c z)) (fun z => br_t rfl (q39 (Or.inr z)))
  · exact br_f c (q39 (Or.inl c))
theorem yl_s88 {post : SY → Prop} {k d t i h o : Nat} (B : bs_R k d t i h o fd ft fn fh co) (hn : kl t = 0 ∨ ¬ pl_P o i (ca (64 * t + i))) (hp : wY_step_88 post (nI k) (nI (6 * k + (d - 1))) (nI t) (nI i) (nI o) (ca (64 * t + i)) q wp tn sl yd nd co ca cb le he kl tu uy tl ul tm gc ga gp ss st sf fd tc tr ow ti ft fn fh fp fz fl fv rs au) : wpY_step post (q, wp, tn, sl, yd, nd, co, ca, cb, le, he, kl, tu, uy, tl, ul, tm, gc, ga, gp, ss, st, sf, fd, tc, tr, ow, ti, ft, fn, fh, fp, fz, fl, fv, rs, au) (nI k) := by
  obtain ⟨hk, hd0, hd6, ed, ht, eft, efn, efh, hi, ho, eo⟩ := B
  have ek : (nI k).toNatClampNeg = k := nI_clamp (by omega)
  have ex : (nI (6 * k + (d - 1))).toNatClampNeg = 6 * k + (d - 1) := nI_clamp (by omega)
  have vx : vp_in (nI (6 * k + (d - 1))) 36 := vp_in_nI (by omega) (by decide)
  have et : (nI t).toNatClampNeg = t := nI_clamp (by omega)
  have vt : vp_in (nI t) 4 := vp_in_nI ht (by decide)
  have e1 : 64 * nI t + nI i = nI (64 * t + i) := ix_l 64 rfl t i
  have e2 : (nI (64 * t + i)).toNatClampNeg = 64 * t + i := nI_clamp (by omega)
  have v1 : vp_in (64 * nI t + nI i) 320 := by rw [e1]; exact vp_in_nI (by omega) (by decide)
  have e0 : 6 * nI k + fd (nI k).toNatClampNeg - 1 = nI (6 * k + (d - 1)) := by
    rw [ek, ed, ix_l (M := 6) 6 rfl, ix_p (by omega)]
    exact congrArg nI (by omega)
  refine ⟨vp_in_nI hk (by decide), nm_r e0 ⟨vx, nm_r (e' := nI t) (by rw [ex, eft]) ⟨vx, nm_r (e' := nI i) (by rw [ex, efn]) ⟨v1, nm_r (e' := nI o) (by rw [e1, e2, eo]) ⟨v1, nm_r (e' := ca (64 * t + i)) (by rw [e1, e2]) ⟨vt, ?_⟩⟩⟩⟩⟩⟩
  rw [et]
  by_cases c : kl t = 0
  · exact br_t c hp
  · exact br_f c (yl_poll ho (fun z => absurd z (hn.resolve_left c)) (fun _ => br_t rfl hp))
theorem yl_s3 {post : SY → Prop} {k d t i h o : Nat} (v1 : SY) (B : bs_R k d t i h o fd ft fn fh co) (hn : kl t ≠ 0) (hP : pl_P o i (ca (64 * t + i))) (hr : ∀ post' : SY → Prop, post' v1 → wpY_raise post' (q, wp, tn, sl, yd, nd, co, ca, cb, le, he, kl, tu, uy, tl, ul, tm, gc, ga, gp, ss, st, sf, fd, tc, tr, ow, ti, ft, fn, fh, fp, fz, fl, fv, rs, au) (nI k) 3) (hp : post v1) : wpY_step post (q, wp, tn, sl, yd, nd, co, ca, cb, le, he, kl, tu, uy, tl, ul, tm, gc, ga, gp, ss, st, sf, fd, tc, tr, ow, ti, ft, fn, fh, fp, fz, fl, fv, rs, au) (nI k) := by
  obtain ⟨hk, hd0, hd6, ed, ht, eft, efn, efh, hi, ho, eo⟩ := B
  have ek : (nI k).toNatClampNeg = k := nI_clamp (by omega)
  have ex : (nI (6 * k + (d - 1))).toNatClampNeg = 6 * k + (d - 1) := nI_clamp (by omega)
  have vx : vp_in (nI (6 * k + (d - 1))) 36 := vp_in_nI (by omega) (by decide)
  have et : (nI t).toNatClampNeg = t := nI_clamp (by omega)
  have vt : vp_in (nI t) 4 := vp_in_nI ht (by decide)
  have e1 : 64 * nI t + nI i = nI (64 * t + i) := ix_l 64 rfl t i
  have e2 : (nI (64 * t + i)).toNatClampNeg = 64 * t + i := nI_clamp (by omega)
  have v1' : vp_in (64 * nI t + nI i) 320 := by rw [e1]; exact vp_in_nI (by omega) (by decide)
  have e0 : 6 * nI k + fd (nI k).toNatClampNeg - 1 = nI (6 * k + (d - 1)) := by
    rw [ek, ed, ix_l (M := 6) 6 rfl, ix_p (by omega)]
    exact congrArg nI (by omega)
  refine ⟨vp_in_nI hk (by decide), nm_r e0 ⟨vx, nm_r (e' := nI t) (by rw [ex, eft]) ⟨vx, nm_r (e' := nI i) (by rw [ex, efn]) ⟨v1', nm_r (e' := nI o) (by rw [e1, e2, eo]) ⟨v1', nm_r (e' := ca (64 * t + i)) (by rw [e1, e2]) ⟨vt, br_f (by rw [et]; exact hn) (yl_poll ho (fun z => br_f (by decide) (hr _ ?_)) (fun z => absurd hP z))⟩⟩⟩⟩⟩⟩
  obtain ⟨y0, y1, y2, y3, y4, y5, y6, y7, y8, y9, y10, y11, y12, y13, y14, y15, y16, y17, y18, y19, y20, y21, y22, y23, y24, y25, y26, y27, y28, y29, y30, y31, y32, y33, y34, y35, y36⟩ := v1
  exact hp
theorem yl_s2 {post : SY → Prop} {k d t i h o : Nat} (v1 : SY) (B : bs_R k d t i h o fd ft fn fh co) (hn : kl t = 0 ∨ ¬ pl_P o i (ca (64 * t + i))) (hl : ¬ tu t < tl t) (hr : ∀ post' : SY → Prop, post' v1 → wpY_raise post' (q, wp, tn, sl, yd, nd, co, ca, cb, le, he, kl, tu, uy, tl, ul, tm, gc, ga, gp, ss, st, sf, fd, tc, tr, ow, ti, ft, fn, fh, fp, fz, fl, fv, rs, au) (nI k) 2) (hp : post v1) : wpY_step post (q, wp, tn, sl, yd, nd, co, ca, cb, le, he, kl, tu, uy, tl, ul, tm, gc, ga, gp, ss, st, sf, fd, tc, tr, ow, ti, ft, fn, fh, fp, fz, fl, fv, rs, au) (nI k) := by
  refine yl_s88 B hn ?_
  have ht := B.2.2.2.2.1
  have et : (nI t).toNatClampNeg = t := nI_clamp (by omega)
  have vt : vp_in (nI t) 4 := vp_in_nI ht (by decide)
  refine ⟨vt, vt, br_f (by rw [et]; exact hl) (hr _ ?_)⟩
  obtain ⟨y0, y1, y2, y3, y4, y5, y6, y7, y8, y9, y10, y11, y12, y13, y14, y15, y16, y17, y18, y19, y20, y21, y22, y23, y24, y25, y26, y27, y28, y29, y30, y31, y32, y33, y34, y35, y36⟩ := v1
  exact hp

theorem yl_sc {post : SY → Prop} {k d t i h o : Nat} (v1 : SY) (B : bs_R k d t i h o fd ft fn fh co) (hn : kl t = 0 ∨ ¬ pl_P o i (ca (64 * t + i))) (hl : tu t < tl t) (ho : o < 14)
    (hr : ∀ post' : SY → Prop, post' v1 → wpY_calculate post' (q, wp, tn, sl, yd, nd, co, ca, cb, le, he, kl, upd tu t (tu t + 1), uy, tl, ul, tm, gc, ga, gp, ss, st, sf, fd, tc, tr, ow, ti, ft, upd fn (6 * k + (d - 1)) (nI (i + 1)), fh, fp, fz, fl, fv, rs, au) (nI (6 * k + (d - 1))) (nI o) (ca (64 * t + i))) (hp : post v1) : wpY_step post (q, wp, tn, sl, yd, nd, co, ca, cb, le, he, kl, tu, uy, tl, ul, tm, gc, ga, gp, ss, st, sf, fd, tc, tr, ow, ti, ft, fn, fh, fp, fz, fl, fv, rs, au) (nI k) := by
  refine yl_s88 B hn ?_
  obtain ⟨hk, hd0, hd6, ed, ht, eft, efn, efh, hi, ho24, eo⟩ := B
  have ex : (nI (6 * k + (d - 1))).toNatClampNeg = 6 * k + (d - 1) := nI_clamp (by omega)
  have vx : vp_in (nI (6 * k + (d - 1))) 36 := vp_in_nI (by omega) (by decide)
  have et : (nI t).toNatClampNeg = t := nI_clamp (by omega)
  have vt : vp_in (nI t) 4 := vp_in_nI ht (by decide)
  have e1 : 64 * nI t + nI i = nI (64 * t + i) := ix_l 64 rfl t i
  have e2 : (nI (64 * t + i)).toNatClampNeg = 64 * t + i := nI_clamp (by omega)
  have v320 : vp_in (64 * nI t + nI i) 320 := by rw [e1]; exact vp_in_nI (by omega) (by decide)
  refine ⟨vt, vt, br_t (by rw [et]; exact hl) ⟨vt, vt, nm_r (e' := upd tu t (tu t + 1)) (by rw [et]) ⟨vx, vx, nm_r (e' := upd fn (6 * k + (d - 1)) (nI (i + 1))) (by rw [ex, efn, nI_1]) ?_⟩⟩⟩
  refine br_f (ix_ge 14 rfl ho (by decide)) (hr _ ?_)
  obtain ⟨y0, y1, y2, y3, y4, y5, y6, y7, y8, y9, y10, y11, y12, y13, y14, y15, y16, y17, y18, y19, y20, y21, y22, y23, y24, y25, y26, y27, y28, y29, y30, y31, y32, y33, y34, y35, y36⟩ := v1
  exact hp

theorem yl_sa {post : SY → Prop} {k d t i h o : Nat} (v1 : SY) (B : bs_R k d t i h o fd ft fn fh co) (hn : kl t = 0 ∨ ¬ pl_P o i (ca (64 * t + i))) (hl : tu t < tl t) (ho : 14 ≤ o) (ho18 : o ≠ 18)
    (hr : ∀ post' : SY → Prop, post' v1 → wpY_act post' (q, wp, tn, sl, yd, nd, co, ca, cb, le, he, kl, upd tu t (tu t + 1), uy, tl, ul, tm, gc, ga, gp, ss, st, sf, fd, tc, tr, ow, ti, ft, upd fn (6 * k + (d - 1)) (nI (i + 1)), fh, fp, fz, fl, fv, rs, au) (nI k) (nI (6 * k + (d - 1))) (nI o) (ca (64 * t + i))) (hp : post v1) : wpY_step post (q, wp, tn, sl, yd, nd, co, ca, cb, le, he, kl, tu, uy, tl, ul, tm, gc, ga, gp, ss, st, sf, fd, tc, tr, ow, ti, ft, fn, fh, fp, fz, fl, fv, rs, au) (nI k) := by
  refine yl_s88 B hn ?_
  obtain ⟨hk, hd0, hd6, ed, ht, eft, efn, efh, hi, ho24, eo⟩ := B
  have ex : (nI (6 * k + (d - 1))).toNatClampNeg = 6 * k + (d - 1) := nI_clamp (by omega)
  have vx : vp_in (nI (6 * k + (d - 1))) 36 := vp_in_nI (by omega) (by decide)
  have et : (nI t).toNatClampNeg = t := nI_clamp (by omega)
  have vt : vp_in (nI t) 4 := vp_in_nI ht (by decide)
  have e1 : 64 * nI t + nI i = nI (64 * t + i) := ix_l 64 rfl t i
  have e2 : (nI (64 * t + i)).toNatClampNeg = 64 * t + i := nI_clamp (by omega)
  have v320 : vp_in (64 * nI t + nI i) 320 := by rw [e1]; exact vp_in_nI (by omega) (by decide)
  refine ⟨vt, vt, br_t (by rw [et]; exact hl) ⟨vt, vt, nm_r (e' := upd tu t (tu t + 1)) (by rw [et]) ⟨vx, vx, nm_r (e' := upd fn (6 * k + (d - 1)) (nI (i + 1))) (by rw [ex, efn, nI_1]) ?_⟩⟩⟩
  refine br_t (ix_le 14 rfl ho (by omega)) (br_f (ix_ne 18 rfl ho18 (by omega) (by decide)) (hr _ ?_))
  obtain ⟨y0, y1, y2, y3, y4, y5, y6, y7, y8, y9, y10, y11, y12, y13, y14, y15, y16, y17, y18, y19, y20, y21, y22, y23, y24, y25, y26, y27, y28, y29, y30, y31, y32, y33, y34, y35, y36⟩ := v1
  exact hp

theorem yl_sg {post : SY → Prop} {k d t i h o : Nat} (v1 : SY) (B : bs_R k d t i h o fd ft fn fh co) (hn : kl t = 0 ∨ ¬ pl_P o i (ca (64 * t + i))) (hl : tu t < tl t) (ho : o = 18)
    (hr : ∀ post' : SY → Prop, post' v1 → wpY_guard post' (q, wp, tn, sl, yd, nd, co, ca, cb, le, he, kl, upd tu t (tu t + 1), uy, tl, ul, tm, gc, ga, gp, ss, st, sf, fd, tc, tr, ow, ti, ft, upd fn (6 * k + (d - 1)) (nI (i + 1)), fh, fp, fz, fl, fv, rs, au) (nI k) (nI (6 * k + (d - 1))) (ca (64 * t + i)) (cb (64 * t + i))) (hp : post v1) : wpY_step post (q, wp, tn, sl, yd, nd, co, ca, cb, le, he, kl, tu, uy, tl, ul, tm, gc, ga, gp, ss, st, sf, fd, tc, tr, ow, ti, ft, fn, fh, fp, fz, fl, fv, rs, au) (nI k) := by
  refine yl_s88 B hn ?_
  obtain ⟨hk, hd0, hd6, ed, ht, eft, efn, efh, hi, ho24, eo⟩ := B
  have ex : (nI (6 * k + (d - 1))).toNatClampNeg = 6 * k + (d - 1) := nI_clamp (by omega)
  have vx : vp_in (nI (6 * k + (d - 1))) 36 := vp_in_nI (by omega) (by decide)
  have et : (nI t).toNatClampNeg = t := nI_clamp (by omega)
  have vt : vp_in (nI t) 4 := vp_in_nI ht (by decide)
  have e1 : 64 * nI t + nI i = nI (64 * t + i) := ix_l 64 rfl t i
  have e2 : (nI (64 * t + i)).toNatClampNeg = 64 * t + i := nI_clamp (by omega)
  have v320 : vp_in (64 * nI t + nI i) 320 := by rw [e1]; exact vp_in_nI (by omega) (by decide)
  refine ⟨vt, vt, br_t (by rw [et]; exact hl) ⟨vt, vt, nm_r (e' := upd tu t (tu t + 1)) (by rw [et]) ⟨vx, vx, nm_r (e' := upd fn (6 * k + (d - 1)) (nI (i + 1))) (by rw [ex, efn, nI_1]) ?_⟩⟩⟩
  subst ho
  refine br_t (by decide) (br_t rfl ⟨v320, ?_⟩)
  rw [e1, e2]
  refine hr _ ?_
  obtain ⟨y0, y1, y2, y3, y4, y5, y6, y7, y8, y9, y10, y11, y12, y13, y14, y15, y16, y17, y18, y19, y20, y21, y22, y23, y24, y25, y26, y27, y28, y29, y30, y31, y32, y33, y34, y35, y36⟩ := v1
  exact hp

end
