theorem pt_sh : ∀ k, k < 3 → ∀ m, m < 512 → (nI m >>> ((3 * nI k) &&& 31)) &&& 7 = nI (pt_d m k) := by decide +kernel
theorem pt_lt (m k : Nat) : pt_d m k < 8 := Nat.mod_lt _ (by decide)
theorem pt_c {m k : Nat} (d : Nat) (D : Int32) (hD : D = nI d) (hd : d < 8) : nI (pt_d m k) = D ↔ pt_d m k = d := by
  have := pt_lt m k
  rw [hD, nI_eq (by omega) (by omega)]
section
variable {q tn sl pc wp yd nd : Int32} {he co ca cb fs fc ts tu ux tl ul tm gc ga gp ss st sf tc tr ow ti fd ft fk fn fh fl fv rs nt le kl uy fp fz au : Nat → Int32}
theorem xp_it {post : Int32 → Prop} {m k n : Nat} {e : Int32} (hm : m < 512) (hk : k < 3)
    (h0 : (pt_d m k = 6 ∨ (e ≠ 0 ∧ pt_d m k ≠ 7) ∨ (k = 0 ∧ pt_d m k = 7)) → post 0)
    (h1 : ¬ (pt_d m k = 6 ∨ (e ≠ 0 ∧ pt_d m k ≠ 7) ∨ (k = 0 ∧ pt_d m k = 7)) → wX_isPattern_17 post (nI m) n (if pt_d m k = 7 ∨ pt_d m k = 5 then 1 else 0) (nI (k + 1))) :
    wX_isPattern_17 post (nI m) (n + 1) e (nI k) := by
  have c3 : ¬ (3 : Int32) ≤ nI k := ix_ge 3 rfl hk (by decide)
  have q7 := pt_c (m := m) (k := k) 7 7 rfl (by decide)
  have q6 := pt_c (m := m) (k := k) 6 6 rfl (by decide)
  have q5 := pt_c (m := m) (k := k) 5 5 rfl (by decide)
  have k0 : nI k = 0 ↔ k = 0 := by rw [show (0 : Int32) = nI 0 from rfl, nI_eq (by omega) (by decide)]
  have z : ¬ (1 : Int32) = 0 := by decide
  have z' : ¬ (0 : Nat) = 7 := by decide
  simp only [wX_isPattern_17, c3, pt_sh k hk m hm, forall_eq, wX_isPattern_42, wX_isPattern_59, wX_isPattern_70, q7, q6, q5, k0, nI_1, z, false_implies, true_implies, not_false_eq_true, not_true_eq_false, true_and, and_true]
  by_cases c6 : pt_d m k = 6
  · simp only [c6, true_implies, not_true_eq_false, false_implies, and_true, show ¬ (6 : Nat) = 7 by decide, not_false_eq_true, true_and]
    exact h0 (Or.inl c6)
  · by_cases c7 : pt_d m k = 7
    · by_cases ck : k = 0
      · have hp := h0 (Or.inr (Or.inr ⟨ck, c7⟩))
        subst ck
        simp only [c7, true_implies, not_true_eq_false, false_implies, and_true, not_false_eq_true, true_and, show ¬ (7 : Nat) = 6 by decide]
        exact ⟨fun _ => hp, fun _ => hp⟩
      · have hp := h1 (by omega)
        rw [if_pos (Or.inl c7)] at hp
        simp only [c7, ck, true_implies, not_true_eq_false, false_implies, and_true, not_false_eq_true, true_and, show ¬ (7 : Nat) = 6 by decide]
        exact ⟨fun _ => hp, fun _ => hp⟩
    · by_cases ce : e = 0
      · have hp := h1 (by rintro (a | ⟨a, b⟩ | ⟨a, b⟩); exact c6 a; exact a ce; exact c7 b)
        by_cases c5 : pt_d m k = 5
        · rw [if_pos (Or.inr c5)] at hp
          simp only [c5, ce, true_implies, not_true_eq_false, false_implies, and_true, not_false_eq_true, true_and, show ¬ (5 : Nat) = 6 by decide, show ¬ (5 : Nat) = 7 by decide]
          exact ⟨fun _ => hp, fun _ => hp⟩
        · rw [if_neg (by omega)] at hp
          simp only [c5, c6, c7, ce, true_implies, not_true_eq_false, false_implies, and_true, not_false_eq_true, true_and]
          exact ⟨fun _ => hp, fun _ => hp⟩
      · have hp := h0 (Or.inr (Or.inl ⟨ce, c7⟩))
        simp only [c6, c7, ce, true_implies, not_true_eq_false, false_implies, and_true, not_false_eq_true, true_and]
        exact hp
theorem yp_it {post : Int32 → Prop} {m k n : Nat} {e : Int32} (hm : m < 512) (hk : k < 3)
    (h0 : (pt_d m k = 6 ∨ (e ≠ 0 ∧ pt_d m k ≠ 7)) → post 0)
    (h1 : ¬ (pt_d m k = 6 ∨ (e ≠ 0 ∧ pt_d m k ≠ 7)) → wY_isPattern_41 post (nI m) q wp tn sl yd nd co ca cb le he kl tu uy tl ul tm gc ga gp ss st sf fd tc tr ow ti ft fn fh fp fz fl fv rs au n (if pt_d m k = 7 ∨ pt_d m k = 5 then 1 else e) (nI (k + 1))) :
    wY_isPattern_41 post (nI m) q wp tn sl yd nd co ca cb le he kl tu uy tl ul tm gc ga gp ss st sf fd tc tr ow ti ft fn fh fp fz fl fv rs au (n + 1) e (nI k) := by
  have c3 : ¬ (3 : Int32) ≤ nI k := ix_ge 3 rfl hk (by decide)
  have q7 := pt_c (m := m) (k := k) 7 7 rfl (by decide)
  have q6 := pt_c (m := m) (k := k) 6 6 rfl (by decide)
  have q5 := pt_c (m := m) (k := k) 5 5 rfl (by decide)
  simp only [wY_isPattern_41, wpY_digit, c3, pt_sh k hk m hm, forall_eq, wY_isPattern_74, q7, q6, q5, nI_1, false_implies, true_implies, not_false_eq_true, not_true_eq_false, true_and, and_true]
  by_cases c6 : pt_d m k = 6
  · simp only [c6, true_implies, not_true_eq_false, false_implies, and_true]
    exact h0 (Or.inl c6)
  · by_cases c7 : pt_d m k = 7
    · have hp := h1 (by omega)
      rw [if_pos (Or.inl c7)] at hp
      simp only [c7, true_implies, not_true_eq_false, false_implies, and_true, not_false_eq_true, true_and, show ¬ (7 : Nat) = 6 by decide, show ¬ (7 : Nat) = 5 by decide]
      exact ⟨fun _ => hp, fun _ => hp⟩
    · by_cases ce : e = 0
      · have hp := h1 (by rintro (a | ⟨a, b⟩); exact c6 a; exact a ce)
        by_cases c5 : pt_d m k = 5
        · rw [if_pos (Or.inr c5)] at hp
          simp only [c5, ce, true_implies, not_true_eq_false, false_implies, and_true, not_false_eq_true, true_and, show ¬ (5 : Nat) = 6 by decide, show ¬ (5 : Nat) = 7 by decide]
          exact hp
        · rw [if_neg (by omega)] at hp
          simp only [c5, c6, c7, ce, true_implies, not_true_eq_false, false_implies, and_true, not_false_eq_true, true_and]
          rw [ce] at hp
          exact hp
      · have hp := h0 (Or.inr ⟨ce, c7⟩)
        simp only [c6, c7, ce, true_implies, not_true_eq_false, false_implies, and_true, not_false_eq_true, true_and]
        exact hp
theorem xp_ok {post : Int32 → Prop} {m : Nat} (hm : m < 512) (h1 : pt_v (pt_d m 0) (pt_d m 1) (pt_d m 2) → post 1) (h0 : ¬ pt_v (pt_d m 0) (pt_d m 1) (pt_d m 2) → post 0) : wpX_isPattern post (nI m) := by
  have l0 := pt_lt m 0
  have l1 := pt_lt m 1
  have l2 := pt_lt m 2
  unfold pt_v at h1 h0
  have i0 : ((if pt_d m 0 = 7 ∨ pt_d m 0 = 5 then 1 else 0 : Int32) ≠ 0) ↔ (pt_d m 0 = 7 ∨ pt_d m 0 = 5) := by
    by_cases c : pt_d m 0 = 7 ∨ pt_d m 0 = 5
    · rw [if_pos c]; exact ⟨fun _ => c, fun _ => by decide⟩
    · rw [if_neg c]; exact ⟨fun z => absurd rfl z, fun z => absurd z c⟩
  have i1 : ((if pt_d m 1 = 7 ∨ pt_d m 1 = 5 then 1 else 0 : Int32) ≠ 0) ↔ (pt_d m 1 = 7 ∨ pt_d m 1 = 5) := by
    by_cases c : pt_d m 1 = 7 ∨ pt_d m 1 = 5
    · rw [if_pos c]; exact ⟨fun _ => c, fun _ => by decide⟩
    · rw [if_neg c]; exact ⟨fun z => absurd rfl z, fun z => absurd z c⟩
  refine br_f (nI_pos (by omega)) (br_t (nI_lt (b := 512) hm (by decide)) ⟨4, ?_⟩)
  refine xp_it (k := 0) hm (by decide) (fun z => h0 ?_) (fun z0 => ?_)
  · rcases z with a | ⟨a, b⟩ | ⟨a, b⟩
    · omega
    · exact absurd rfl a
    · omega
  refine xp_it (k := 1) hm (by decide) (fun z => h0 ?_) (fun z1 => ?_)
  · rw [i0] at z
    omega
  refine xp_it (k := 2) hm (by decide) (fun z => h0 ?_) (fun z2 => ?_)
  · rw [i1] at z
    rw [i0] at z1
    omega
  refine br_t (ix_le 3 rfl (by decide) (by decide)) (h1 ?_)
  rw [i0] at z1
  rw [i1] at z2
  have z0' : ¬ (pt_d m 0 = 6 ∨ pt_d m 0 = 7) := fun a => z0 (a.elim Or.inl (fun b => Or.inr (Or.inr ⟨rfl, b⟩)))
  omega
theorem yp_ok {post : Int32 → Prop} {m : Nat} (hm : m < 512) (h1 : pt_v (pt_d m 0) (pt_d m 1) (pt_d m 2) → post 1) (h0 : ¬ pt_v (pt_d m 0) (pt_d m 1) (pt_d m 2) → post 0) : wpY_isPattern post (q, wp, tn, sl, yd, nd, co, ca, cb, le, he, kl, tu, uy, tl, ul, tm, gc, ga, gp, ss, st, sf, fd, tc, tr, ow, ti, ft, fn, fh, fp, fz, fl, fv, rs, au) (nI m) := by
  have l0 := pt_lt m 0
  have l1 := pt_lt m 1
  have l2 := pt_lt m 2
  have q5 := pt_c (m := m) (k := 0) 5 5 rfl (by decide)
  have s0 : (nI m >>> ((3 * 0) &&& 31)) &&& 7 = nI (pt_d m 0) := pt_sh 0 (by decide) m hm
  unfold pt_v at h1 h0
  have c511 : ¬ (511 : Int32) < nI m := nI_nlt (a := 511) (b := m) (by omega) (by decide)
  have hd5 : nI (pt_d m 0) ≤ 5 ↔ pt_d m 0 ≤ 5 := by rw [show (5 : Int32) = nI 5 from rfl, nI_leI (by omega) (by decide)]
  have key : ∀ e : Int32, (e ≠ 0 ↔ pt_d m 0 = 5) → pt_d m 0 ≤ 5 → wY_isPattern_41 post (nI m) q wp tn sl yd nd co ca cb le he kl tu uy tl ul tm gc ga gp ss st sf fd tc tr ow ti ft fn fh fp fz fl fv rs au 3 e 1 := by
    intro e he5 h05
    refine yp_it (k := 1) hm (by decide) (fun z => h0 ?_) (fun z1 => ?_)
    · rw [he5] at z
      omega
    · have i1 : ((if pt_d m 1 = 7 ∨ pt_d m 1 = 5 then 1 else e : Int32) ≠ 0) ↔ (pt_d m 1 = 7 ∨ pt_d m 1 = 5 ∨ pt_d m 0 = 5) := by
        by_cases c : pt_d m 1 = 7 ∨ pt_d m 1 = 5
        · rw [if_pos c]; exact ⟨fun _ => by omega, fun _ => by decide⟩
        · rw [if_neg c, he5]; omega
      rw [he5] at z1
      refine yp_it (k := 2) hm (by decide) (fun z => h0 ?_) (fun z2 => ?_)
      · rw [i1] at z
        omega
      · rw [i1] at z2
        exact br_t (ix_le 3 rfl (by decide) (by decide)) (h1 (by omega))
  simp only [wpY_isPattern, wpY_digit, s0, nI_pos (show m < 2 ^ 31 by omega), c511, hd5, q5, not_false_eq_true, true_implies, false_implies, true_and]
  refine ⟨fun h05 => ⟨fun h5 => ⟨3, key 1 (by rw [h5]; decide) h05⟩, fun h5 => ⟨3, key 0 ⟨fun z => absurd rfl z, fun z => absurd z h5⟩ h05⟩⟩, fun h => h0 (by omega)⟩
theorem xp_no {post : Int32 → Prop} {p : Int32} (c : p < 0 ∨ ¬ p < 512) (h : post 0) : wpX_isPattern post p := by
  by_cases c0 : p < 0
  · exact br_t c0 h
  · exact br_f c0 (br_f (c.resolve_left c0) h)
theorem yp_no {post : Int32 → Prop} {p : Int32} (c : p < 0 ∨ (511 : Int32) < p) (h : post 0) : wpY_isPattern post (q, wp, tn, sl, yd, nd, co, ca, cb, le, he, kl, tu, uy, tl, ul, tm, gc, ga, gp, ss, st, sf, fd, tc, tr, ow, ti, ft, fn, fh, fp, fz, fl, fv, rs, au) p := by
  by_cases c0 : p < 0
  · exact br_t c0 h
  · exact br_f c0 (br_t (c.resolve_left c0) h)
end
