def in_4 (w : Int32) : Nat → Int32 := upd (upd (upd (upd (fun _ => 0) 0 w) 1 w) 2 w) 3 w
def in_6 (w : Int32) : Nat → Int32 := upd (upd (upd (upd (upd (upd (fun _ => 0) 0 w) 1 w) 2 w) 3 w) 4 w) 5 w
def in_8 (w : Int32) : Nat → Int32 := upd (upd (upd (upd (upd (upd (upd (upd (fun _ => 0) 0 w) 1 w) 2 w) 3 w) 4 w) 5 w) 6 w) 7 w
section
variable {q tn sl pc wp yd nd : Int32} {he co ca cb fs fc ts tu ux tl ul tm gc ga gp ss st sf tc tr ow ti fd ft fk fn fh fl fv rs nt le kl uy fp fz au : Nat → Int32}
theorem xi_a {post : SX → Prop} {n i : Nat} (hi : i < 4) (h : wX_init_296 post q tn sl pc wp n (nI (i + 1)) he co ca cb fs fc ts tu ux (upd tl i 1000) (upd ul i 100) (upd tm i 3) gc ga gp ss st sf tc tr ow ti fd ft fk fn fh fl fv rs nt) : wX_init_296 post q tn sl pc wp (n + 1) (nI i) he co ca cb fs fc ts tu ux tl ul tm gc ga gp ss st sf tc tr ow ti fd ft fk fn fh fl fv rs nt := by
  have ec : (nI i).toNatClampNeg = i := nI_clamp (by omega)
  have vi : vp_in (nI i) 4 := vp_in_nI hi (by decide)
  exact br_f (ix_ge 4 rfl hi (by decide)) ⟨vi, nm_r (by rw [ec]) ⟨vi, nm_r (by rw [ec]) ⟨vi, nm_r (by rw [ec]) (nm_r (nI_1 i) h)⟩⟩⟩
theorem xi_b {post : SX → Prop} {n i : Nat} (hi : i < 6) (h : wX_init_333 post q tn sl pc wp n (nI (i + 1)) he co ca cb fs fc ts tu ux tl ul tm gc ga gp ss st sf (upd tc i (-2)) tr ow ti fd ft fk fn fh fl fv rs nt) : wX_init_333 post q tn sl pc wp (n + 1) (nI i) he co ca cb fs fc ts tu ux tl ul tm gc ga gp ss st sf tc tr ow ti fd ft fk fn fh fl fv rs nt := by
  have ec : (nI i).toNatClampNeg = i := nI_clamp (by omega)
  have vi : vp_in (nI i) 6 := vp_in_nI hi (by decide)
  exact br_f (ix_ge 6 rfl hi (by decide)) ⟨vi, nm_r (by rw [ec]) (nm_r (nI_1 i) h)⟩
theorem xi_c {post : SX → Prop} {n i : Nat} (hi : i < 8) (h : wX_init_355 post q tn sl pc wp n (nI (i + 1)) he co ca cb fs fc ts tu ux tl ul tm gc ga gp ss st sf tc tr ow ti fd ft fk fn fh fl fv rs (upd nt i (-1))) : wX_init_355 post q tn sl pc wp (n + 1) (nI i) he co ca cb fs fc ts tu ux tl ul tm gc ga gp ss st sf tc tr ow ti fd ft fk fn fh fl fv rs nt := by
  have ec : (nI i).toNatClampNeg = i := nI_clamp (by omega)
  have vi : vp_in (nI i) 8 := vp_in_nI hi (by decide)
  exact br_f (ix_ge 8 rfl hi (by decide)) ⟨vi, nm_r (by rw [ec]) (nm_r (nI_1 i) h)⟩
theorem yi_a {post : SY → Prop} {n i : Nat} (hi : i < 4) (h : wY_init_281 post q wp tn sl yd nd n (nI (i + 1)) co ca cb le he kl tu uy (upd tl i 1000) (upd ul i 100) (upd tm i 3) gc ga gp ss st sf fd tc tr ow ti ft fn fh fp fz fl fv rs au) : wY_init_281 post q wp tn sl yd nd (n + 1) (nI i) co ca cb le he kl tu uy tl ul tm gc ga gp ss st sf fd tc tr ow ti ft fn fh fp fz fl fv rs au := by
  have ec : (nI i).toNatClampNeg = i := nI_clamp (by omega)
  have vi : vp_in (nI i) 4 := vp_in_nI hi (by decide)
  exact br_f (ix_ge 4 rfl hi (by decide)) ⟨vi, nm_r (by rw [ec]) ⟨vi, nm_r (by rw [ec]) ⟨vi, nm_r (by rw [ec]) (nm_r (nI_1 i) h)⟩⟩⟩
theorem yi_b {post : SY → Prop} {n i : Nat} (hi : i < 6) (h : wY_init_318 post q wp tn sl yd nd n (nI (i + 1)) co ca cb le he kl tu uy tl ul tm gc ga gp ss st sf fd (upd tc i (-2)) tr ow ti ft fn fh fp fz fl fv rs au) : wY_init_318 post q wp tn sl yd nd (n + 1) (nI i) co ca cb le he kl tu uy tl ul tm gc ga gp ss st sf fd tc tr ow ti ft fn fh fp fz fl fv rs au := by
  have ec : (nI i).toNatClampNeg = i := nI_clamp (by omega)
  have vi : vp_in (nI i) 6 := vp_in_nI hi (by decide)
  exact br_f (ix_ge 6 rfl hi (by decide)) ⟨vi, nm_r (by rw [ec]) (nm_r (nI_1 i) h)⟩
end
theorem xi_all {post : SX → Prop} (q : Int32) (h : post (q, -1, 0, 0, -1, (fun _ => 0), (fun _ => 0), (fun _ => 0), (fun _ => 0), (fun _ => 0), (fun _ => 0), (fun _ => 0), (fun _ => 0), (fun _ => 0), in_4 1000, in_4 100, in_4 3, (fun _ => 0), (fun _ => 0), (fun _ => 0), (fun _ => 0), (fun _ => 0), (fun _ => 0), in_6 (-2), (fun _ => 0), (fun _ => 0), (fun _ => 0), (fun _ => 0), (fun _ => 0), (fun _ => 0), (fun _ => 0), (fun _ => 0), (fun _ => 0), (fun _ => 0), (fun _ => 0), in_8 (-1))) :
    ∃ n : Nat, wX_init_296 post q (-1) 0 0 (-1) n 0 (fun _ => 0) (fun _ => 0) (fun _ => 0) (fun _ => 0) (fun _ => 0) (fun _ => 0) (fun _ => 0) (fun _ => 0) (fun _ => 0) (fun _ => 0) (fun _ => 0) (fun _ => 0) (fun _ => 0) (fun _ => 0) (fun _ => 0) (fun _ => 0) (fun _ => 0) (fun _ => 0) (fun _ => 0) (fun _ => 0) (fun _ => 0) (fun _ => 0) (fun _ => 0) (fun _ => 0) (fun _ => 0) (fun _ => 0) (fun _ => 0) (fun _ => 0) (fun _ => 0) (fun _ => 0) (fun _ => 0) := by
  refine ⟨5, xi_a (i := 0) (by decide) ?_⟩
  refine xi_a (i := 1) (by decide) ?_
  refine xi_a (i := 2) (by decide) ?_
  refine xi_a (i := 3) (by decide) ?_
  refine br_t (by decide) ⟨7, ?_⟩
  refine xi_b (i := 0) (by decide) ?_
  refine xi_b (i := 1) (by decide) ?_
  refine xi_b (i := 2) (by decide) ?_
  refine xi_b (i := 3) (by decide) ?_
  refine xi_b (i := 4) (by decide) ?_
  refine xi_b (i := 5) (by decide) ?_
  refine br_t (by decide) ⟨9, ?_⟩
  refine xi_c (i := 0) (by decide) ?_
  refine xi_c (i := 1) (by decide) ?_
  refine xi_c (i := 2) (by decide) ?_
  refine xi_c (i := 3) (by decide) ?_
  refine xi_c (i := 4) (by decide) ?_
  refine xi_c (i := 5) (by decide) ?_
  refine xi_c (i := 6) (by decide) ?_
  refine xi_c (i := 7) (by decide) ?_
  exact br_t (by decide) h
theorem yi_all {post : SY → Prop} (q : Int32) (h : post (q, -1, -1, 0, 0, 0, (fun _ => 0), (fun _ => 0), (fun _ => 0), (fun _ => 0), (fun _ => 0), (fun _ => 0), (fun _ => 0), (fun _ => 0), in_4 1000, in_4 100, in_4 3, (fun _ => 0), (fun _ => 0), (fun _ => 0), (fun _ => 0), (fun _ => 0), (fun _ => 0), (fun _ => 0), in_6 (-2), (fun _ => 0), (fun _ => 0), (fun _ => 0), (fun _ => 0), (fun _ => 0), (fun _ => 0), (fun _ => 0), (fun _ => 0), (fun _ => 0), (fun _ => 0), (fun _ => 0), (fun _ => 0))) :
    ∃ n : Nat, wY_init_281 post q (-1) 0 0 0 0 n 0 (fun _ => 0) (fun _ => 0) (fun _ => 0) (fun _ => 0) (fun _ => 0) (fun _ => 0) (fun _ => 0) (fun _ => 0) (fun _ => 0) (fun _ => 0) (fun _ => 0) (fun _ => 0) (fun _ => 0) (fun _ => 0) (fun _ => 0) (fun _ => 0) (fun _ => 0) (fun _ => 0) (fun _ => 0) (fun _ => 0) (fun _ => 0) (fun _ => 0) (fun _ => 0) (fun _ => 0) (fun _ => 0) (fun _ => 0) (fun _ => 0) (fun _ => 0) (fun _ => 0) (fun _ => 0) (fun _ => 0) := by
  refine ⟨5, yi_a (i := 0) (by decide) ?_⟩
  refine yi_a (i := 1) (by decide) ?_
  refine yi_a (i := 2) (by decide) ?_
  refine yi_a (i := 3) (by decide) ?_
  refine br_t (by decide) ⟨7, ?_⟩
  refine yi_b (i := 0) (by decide) ?_
  refine yi_b (i := 1) (by decide) ?_
  refine yi_b (i := 2) (by decide) ?_
  refine yi_b (i := 3) (by decide) ?_
  refine yi_b (i := 4) (by decide) ?_
  refine yi_b (i := 5) (by decide) ?_
  exact br_t (by decide) h
theorem in_rel (q : Int32) (hq : rl_q q) : rl_R (40 * 1) (fun _ _ _ => False) q (-1) 0 0 (-1) 0 0 (fun _ => 0) (fun _ => 0) (fun _ => 0) (fun _ => 0) (fun _ => 0) (fun _ => 0) (fun _ => 0) (fun _ => 0) (fun _ => 0) (in_4 1000) (in_4 100) (in_4 3) (fun _ => 0) (fun _ => 0) (fun _ => 0) (fun _ => 0) (fun _ => 0) (fun _ => 0) (in_6 (-2)) (fun _ => 0) (fun _ => 0) (fun _ => 0) (fun _ => 0) (fun _ => 0) (fun _ => 0) (fun _ => 0) (fun _ => 0) (fun _ => 0) (fun _ => 0) (fun _ => 0) (in_8 (-1)) (fun _ => 0) (fun _ => 0) (fun _ => 0) (fun _ => 0) (fun _ => 0) (fun _ => 0) := by
  refine ⟨hq, Or.inl rfl, ⟨0, by decide, rfl, rfl⟩, ?_, ?_, ?_, ?_, ?_, ?_, ?_⟩
  · intro t ht
    exact ⟨0, 0, by decide, rfl, by decide, rfl, rfl, Or.inl rfl, fun _ => rfl, rfl, fun f hf => absurd hf (Nat.not_lt_zero f), fun i hi => absurd hi (Nat.not_lt_zero i), fun i h z => z.elim⟩
  · intro t ht
    exact ⟨0, by decide, rfl, fun j hj => absurd hj (Nat.not_lt_zero j)⟩
  · intro j hj
    exact ⟨⟨0, by decide, rfl⟩, ⟨0, by decide, rfl⟩⟩
  · intro k hk
    have h : ∀ k, k < 6 → ¬ in_6 (-2) k = -1 := by decide
    exact ⟨0, by decide, rfl, ⟨fun z => absurd z (h k hk), fun z => absurd z (Nat.lt_irrefl 0)⟩, fun z => absurd z (Nat.lt_irrefl 0)⟩
  · intro x hx
    exact Or.inl ⟨rfl, rfl, rfl⟩
  · intro t ht
    exact ⟨fun _ _ => rfl, fun _ => rfl⟩
  · have h : ∀ i, i < 8 → in_8 (-1) i = -1 := by decide
    exact ⟨0, by decide, rfl, fun i hi => by rw [if_neg (Nat.not_lt_zero i)]; exact h i hi⟩
theorem i_vc0 (k0 : Int32) : wpX_init (fun u => wpY_init (fun v => i_Rel 1 u v) k0) k0 := by
  by_cases c1 : 1 ≤ k0
  · by_cases c2 : k0 ≤ 16
    · refine br_t c1 (br_t c2 (xi_all _ (br_t c1 (br_t c2 (yi_all _ (mk_rel (H := fun _ _ _ => False) (in_rel k0 ?_)))))))
      have c0 : ¬ k0 < 0 := fun z => absurd (Int32.lt_of_lt_of_le z (Int32.le_trans (by decide : (0 : Int32) ≤ 1) c1)) Int32.lt_irrefl
      obtain ⟨j, hj, rfl⟩ := nI_of c0
      rw [show (16 : Int32) = nI 16 from rfl, nI_leI hj (by decide)] at c2
      rw [show (1 : Int32) = nI 1 from rfl, nI_leI (by decide) hj] at c1
      exact ⟨j, c1, c2, rfl⟩
    · exact br_t c1 (br_f c2 (xi_all _ (br_t c1 (br_f c2 (yi_all _ (mk_rel (H := fun _ _ _ => False) (in_rel 16 ⟨16, by decide, by decide, rfl⟩)))))))
  · exact br_f c1 (xi_all _ (br_f c1 (yi_all _ (mk_rel (H := fun _ _ _ => False) (in_rel 1 ⟨1, by decide, by decide, rfl⟩)))))
