/-- number of FUNCs in the first n rows of a bundle that begins at b -/
def cf_n (co : Nat → Int32) (b : Nat) : Nat → Nat
  | 0 => 0
  | n + 1 => cf_n co b n + (if co (b + n) = 0 then 1 else 0)
def st_po (o : Nat) (a : Int32) : Nat :=
  if o = 18 then (if a = 1 then 1 else 0)
  else if o = 4 ∨ (5 ≤ o ∧ o ≤ 9) then 2
  else if o = 2 ∨ o = 3 ∨ o = 11 ∨ (13 ≤ o ∧ o ≤ 17) ∨ (19 ≤ o ∧ o ≤ 22) then 1 else 0
def st_pu (o : Nat) (a : Int32) : Nat :=
  if o = 18 then (if a = 1 then 0 else 1)
  else if o = 2 ∨ o = 4 ∨ o = 16 then 2
  else if o = 1 ∨ (5 ≤ o ∧ o ≤ 10) ∨ o = 14 ∨ o = 15 ∨ o = 17 ∨ o = 19 then 1 else 0
/-- what an instruction at (i, h) of a sound bundle keeps -/
def bu_ok (co ca cb : Nat → Int32) (b n c : Nat) (H : Nat → Nat → Prop) (i h : Nat) : Prop :=
  i < n ∧ h ≤ 8 ∧ ∃ o : Nat, o < 24 ∧ co (b + i) = nI o ∧
  (o = 10 ∨ o = 11 → ∃ a : Nat, a < 4 ∧ ca (b + i) = nI a) ∧
  (o = 14 ∨ o = 15 ∨ o = 17 → ∃ f : Nat, f < c ∧ ca (b + i) = nI f) ∧
  (o = 16 → ∃ s : Nat, s < 4 ∧ ca (b + i) = nI s) ∧
  (o = 18 → (∃ a : Nat, a < 4 ∧ ca (b + i) = nI a) ∧ (∃ p : Nat, p < 84 ∧ cb (b + i) = nI p)) ∧
  st_po o (ca (b + i)) ≤ h ∧ h - st_po o (ca (b + i)) + st_pu o (ca (b + i)) ≤ 8 ∧
  (o ≠ 12 → o ≠ 21 → o ≠ 22 → i + 1 < n ∧ H (i + 1) (h - st_po o (ca (b + i)) + st_pu o (ca (b + i)))) ∧
  (o = 12 ∨ o = 13 → ∃ j : Nat, ca (b + i) = nI j ∧ H j (h - st_po o (ca (b + i)) + st_pu o (ca (b + i))))
def pt_d (m k : Nat) : Nat := m / 8 ^ k % 8
/-- a pattern, by its three digits -/
def pt_v (a b c : Nat) : Prop := a ≤ 5 ∧ b ≠ 6 ∧ c ≠ 6 ∧ (a = 5 → b = 7) ∧ (a = 5 ∨ b = 5 ∨ b = 7 → c = 7)
def pt_ok (p : Int32) : Prop := ∃ m : Nat, m < 512 ∧ p = nI m ∧ pt_v (pt_d m 0) (pt_d m 1) (pt_d m 2)
/-- a frame whose next instruction is reached e values from now -/
def fr_ok (H : Nat → Nat → Nat → Prop) (ft fn fh : Nat → Int32) (x e : Nat) : Prop :=
  ∃ t i h : Nat, t < 4 ∧ ft x = nI t ∧ fn x = nI i ∧ fh x = nI h ∧ H t i (h + e)
/-- the frames of thread k below the top -/
def th_lo (H : Nat → Nat → Nat → Prop) (ft fn fh fz : Nat → Int32) (k d : Nat) : Prop :=
  fz (6 * k) = 0 ∧ ∀ j, j + 1 < d → fr_ok H ft fn fh (6 * k + j) (if fz (6 * k + j + 1) = 0 then 1 else 2)
def th_ok (H : Nat → Nat → Nat → Prop) (ft fn fh fz tc fd : Nat → Int32) (k : Nat) : Prop :=
  ∃ d : Nat, d ≤ 6 ∧ fd k = nI d ∧ (tc k = -1 ↔ 0 < d) ∧ (0 < d → th_lo H ft fn fh fz k d ∧ fr_ok H ft fn fh (6 * k + (d - 1)) 0)
/-- tenant t has no frame -/
def nf_t (fd ft : Nat → Int32) (t : Nat) : Prop := ∀ k, k < 6 → ∀ d, d ≤ 6 → fd k = nI d → ∀ j, j < d → ft (6 * k + j) ≠ nI t
def rl_q (q : Int32) : Prop := ∃ n : Nat, 1 ≤ n ∧ n ≤ 16 ∧ q = nI n
def rl_tn (tn sl : Int32) (tc : Nat → Int32) : Prop := tn = -1 ∨ ∃ k : Nat, k < 6 ∧ tn = nI k ∧ tc k = -1 ∧ ∃ s : Nat, 1 ≤ s ∧ s ≤ 16 ∧ sl = nI s
def rl_pc (pc : Int32) (le : Nat → Int32) : Prop := ∃ p : Nat, p ≤ 64 ∧ pc = nI p ∧ le 4 = nI p
def rl_bt (H : Nat → Nat → Nat → Prop) (le fc ts kl fs co ca cb : Nat → Int32) (t : Nat) : Prop :=
  ∃ n c : Nat, n ≤ 64 ∧ le t = nI n ∧ c ≤ 4 ∧ fc t = nI c ∧ c = cf_n co (64 * t) n ∧ (kl t = 0 ∨ kl t = 1) ∧ (n = 0 → kl t = 0) ∧
  ts t = (if n = 0 then 0 else if kl t = 0 then 1 else 2) ∧
  (∀ f, f < c → ∃ i : Nat, i < n ∧ fs (4 * t + f) = nI i ∧ co (64 * t + i) = 0 ∧ cf_n co (64 * t) i = f) ∧
  (∀ i, i < n → co (64 * t + i) = 0 → H t i 0) ∧
  (∀ i h, H t i h → bu_ok co ca cb (64 * t) n c (H t) i h)
def rl_b (H : Nat → Nat → Nat → Prop) (le fc ts kl fs co ca cb : Nat → Int32) : Prop := ∀ t, t < 4 → rl_bt H le fc ts kl fs co ca cb t
def rl_g (gc gp : Nat → Int32) : Prop := ∀ t, t < 4 → ∃ g : Nat, g ≤ 6 ∧ gc t = nI g ∧ ∀ j, j < g → pt_ok (gp (6 * t + j))
def rl_s (st sf : Nat → Int32) : Prop := ∀ j, j < 16 → (∃ t : Nat, t < 4 ∧ st j = nI t) ∧ (∃ f : Nat, f < 4 ∧ sf j = nI f)
def rl_t (H : Nat → Nat → Nat → Prop) (ft fn fh fz tc fd : Nat → Int32) : Prop := ∀ k, k < 6 → th_ok H ft fn fh fz tc fd k
def rl_kx (fk fp fz : Nat → Int32) (x : Nat) : Prop := (fp x = 0 ∧ fz x = 0 ∧ fk x = 0) ∨ (fp x = 1 ∧ fz x = 0 ∧ fk x = 1) ∨ (fp x = 0 ∧ fz x = 1 ∧ fk x = 2)
def rl_k (fk fp fz : Nat → Int32) : Prop := ∀ x, x < 36 → rl_kx fk fp fz x
def rl_ut (ux uy kl fd ft : Nat → Int32) (t : Nat) : Prop := (kl t ≠ 0 → nf_t fd ft t → ux t = 0) ∧ (¬ (kl t ≠ 0 ∧ nf_t fd ft t) → ux t = uy t)
def rl_u (ux uy kl fd ft : Nat → Int32) : Prop := ∀ t, t < 4 → rl_ut ux uy kl fd ft t
def rl_n (M : Nat) (nd : Int32) (au nt : Nat → Int32) : Prop := ∃ m : Nat, m ≤ M ∧ nd = nI m ∧ ∀ i, i < 8 → nt i = if i < m then au ((m - 1 - i) % 8) else -1
def rl_R (M : Nat) (H : Nat → Nat → Nat → Prop) (q tn sl pc wp yd nd : Int32) (he co ca cb fs fc ts tu ux tl ul tm gc ga gp ss st sf tc tr ow ti fd ft fk fn fh fl fv rs nt le kl uy fp fz au : Nat → Int32) : Prop :=
  rl_q q ∧ rl_tn tn sl tc ∧ rl_pc pc le ∧ rl_b H le fc ts kl fs co ca cb ∧ rl_g gc gp ∧ rl_s st sf ∧ rl_t H ft fn fh fz tc fd ∧ rl_k fk fp fz ∧ rl_u ux uy kl fd ft ∧ rl_n M nd au nt
/-- the relation: the two states share all but units, bundles' heads, frame kinds and notes -/
def i_Rel (k : Nat) (u : SX) (v : SY) : Prop :=
  ∃ (H : Nat → Nat → Nat → Prop) (q tn sl pc wp yd nd : Int32) (he co ca cb fs fc ts tu ux tl ul tm gc ga gp ss st sf tc tr ow ti fd ft fk fn fh fl fv rs nt le kl uy fp fz au : Nat → Int32), u = (q, tn, sl, pc, wp, he, co, ca, cb, fs, fc, ts, tu, ux, tl, ul, tm, gc, ga, gp, ss, st, sf, tc, tr, ow, ti, fd, ft, fk, fn, fh, fl, fv, rs, nt) ∧ v = (q, wp, tn, sl, yd, nd, co, ca, cb, le, he, kl, tu, uy, tl, ul, tm, gc, ga, gp, ss, st, sf, fd, tc, tr, ow, ti, ft, fn, fh, fp, fz, fl, fv, rs, au) ∧ rl_R (40 * k) H q tn sl pc wp yd nd he co ca cb fs fc ts tu ux tl ul tm gc ga gp ss st sf tc tr ow ti fd ft fk fn fh fl fv rs nt le kl uy fp fz au
theorem rl_nU {M N : Nat} {nd : Int32} {au nt : Nat → Int32} (h : rl_n M nd au nt) (hMN : M ≤ N) : rl_n N nd au nt := by
  obtain ⟨m, h1, h2, h3⟩ := h
  exact ⟨m, by omega, h2, h3⟩
theorem i_up {k : Nat} {u : SX} {v : SY} (h : i_Rel k u v) : i_Rel (k + 5) u v := by
  obtain ⟨H, q, tn, sl, pc, wp, yd, nd, he, co, ca, cb, fs, fc, ts, tu, ux, tl, ul, tm, gc, ga, gp, ss, st, sf, tc, tr, ow, ti, fd, ft, fk, fn, fh, fl, fv, rs, nt, le, kl, uy, fp, fz, au, e1, e2, a1, a2, a3, a4, a5, a6, a7, a8, a9, a10⟩ := h
  exact ⟨H, q, tn, sl, pc, wp, yd, nd, he, co, ca, cb, fs, fc, ts, tu, ux, tl, ul, tm, gc, ga, gp, ss, st, sf, tc, tr, ow, ti, fd, ft, fk, fn, fh, fl, fv, rs, nt, le, kl, uy, fp, fz, au, e1, e2, a1, a2, a3, a4, a5, a6, a7, a8, a9, rl_nU a10 (by omega)⟩
section
variable {q tn sl pc wp yd nd : Int32} {he co ca cb fs fc ts tu ux tl ul tm gc ga gp ss st sf tc tr ow ti fd ft fk fn fh fl fv rs nt le kl uy fp fz au : Nat → Int32}
theorem mk_rel {k : Nat} {H : Nat → Nat → Nat → Prop} (h : rl_R (40 * k) H q tn sl pc wp yd nd he co ca cb fs fc ts tu ux tl ul tm gc ga gp ss st sf tc tr ow ti fd ft fk fn fh fl fv rs nt le kl uy fp fz au) : i_Rel k (q, tn, sl, pc, wp, he, co, ca, cb, fs, fc, ts, tu, ux, tl, ul, tm, gc, ga, gp, ss, st, sf, tc, tr, ow, ti, fd, ft, fk, fn, fh, fl, fv, rs, nt) (q, wp, tn, sl, yd, nd, co, ca, cb, le, he, kl, tu, uy, tl, ul, tm, gc, ga, gp, ss, st, sf, fd, tc, tr, ow, ti, ft, fn, fh, fp, fz, fl, fv, rs, au) :=
  ⟨H, q, tn, sl, pc, wp, yd, nd, he, co, ca, cb, fs, fc, ts, tu, ux, tl, ul, tm, gc, ga, gp, ss, st, sf, tc, tr, ow, ti, fd, ft, fk, fn, fh, fl, fv, rs, nt, le, kl, uy, fp, fz, au, rfl, rfl, h⟩
end
