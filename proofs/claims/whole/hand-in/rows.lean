section
theorem pk_us {f : Nat → Int32} {k : Nat} {x : Int32} : upd f k x k = x := if_pos rfl
theorem pk_un {f : Nat → Int32} {k j : Nat} {x : Int32} (h : j ≠ k) : upd f k x j = f j := if_neg h
theorem pk_sub {a b : Nat} (h : b ≤ a) : nI a - nI b = nI (a - b) := by
  obtain ⟨c, rfl⟩ : ∃ c, a = c + b := ⟨a - b, by omega⟩
  rw [← nI_add, Int32.add_sub_cancel, Nat.add_sub_cancel]
theorem pk_m1 (n : Nat) : nI (n + 1) + (-1) = nI n := by
  rw [← nI_1, Int32.add_assoc, show (1 : Int32) + (-1) = 0 from rfl, Int32.add_zero]
theorem pk_mul (a b : Nat) : nI a * nI b = nI (a * b) := (Int32.ofNat_mul a b).symm
theorem pk_div {a d : Nat} (ha : a < 2 ^ 31) (h0 : 0 < d) (hd : d < 2 ^ 31) : nI a / nI d = nI (a / d) := by
  apply Int32.toInt_inj.mp
  rw [lg_idiv_nonneg (by rw [nI_toInt ha]; omega) (by rw [nI_toInt hd]; omega), nI_toInt ha, nI_toInt hd, nI_toInt (Nat.lt_of_le_of_lt (Nat.div_le_self a d) ha)]
  first | rfl | exact (Int.natCast_ediv _ _).symm
theorem pk_rem {a d : Nat} (ha : a < 2 ^ 31) (h0 : 0 < d) (hd : d < 2 ^ 31) : nI a - nI a / nI d * nI d = nI (a % d) := by
  rw [pk_div ha h0 hd, pk_mul, pk_sub (Nat.div_mul_le_self a d)]
  exact congrArg nI (by have := Nat.div_add_mod' a d; omega)
theorem pk_sub_toInt {a b : Nat} (ha : a < 2 ^ 30) (hb : b < 2 ^ 30) : (nI a - nI b).toInt = (a : Int) - b := by
  rw [Int32.toInt_sub, nI_toInt (by omega), nI_toInt (by omega)]
  exact Int.bmod_eq_of_le (by omega) (by omega)
theorem pk_sneg {a b : Nat} (hb : b < 2 ^ 30) (h : a < b) : nI a - nI b < 0 := by
  rw [Int32.lt_iff_toInt_lt, pk_sub_toInt (by omega) hb, show (0 : Int32).toInt = 0 from by decide]
  omega
theorem pk_ix (x : Int32) {n : Nat} (hn : n < 2 ^ 31) : x < 0 ∨ nI n ≤ x ∨ ∃ j : Nat, j < n ∧ x = nI j := by
  by_cases h : x < 0
  · exact Or.inl h
  · obtain ⟨j, hj, rfl⟩ := nI_of h
    by_cases h2 : j < n
    · exact Or.inr (Or.inr ⟨j, h2, rfl⟩)
    · exact Or.inr (Or.inl (nI_le (by omega) hj))
theorem pk_le {x y : Int32} {A B : Prop} (a b : Nat) (f : a ≤ b → A) (g : b < a → B) (hx : x = nI a := by rfl) (hy : y = nI b := by rfl) (ha : a < 2 ^ 31 := by omega) (hb : b < 2 ^ 31 := by omega) : (x ≤ y → A) ∧ (¬ x ≤ y → B) := by
  subst hx hy
  rw [nI_leI ha hb]
  exact ⟨f, fun z => g (by omega)⟩
theorem pk_lt {x y : Int32} {A B : Prop} (a b : Nat) (f : a < b → A) (g : b ≤ a → B) (hx : x = nI a := by rfl) (hy : y = nI b := by rfl) (ha : a < 2 ^ 31 := by omega) (hb : b < 2 ^ 31 := by omega) : (x < y → A) ∧ (¬ x < y → B) := by
  subst hx hy
  rw [nI_ltI ha hb]
  exact ⟨f, fun z => g (by omega)⟩
theorem pk_eq {x y : Int32} {A B : Prop} (a b : Nat) (f : a = b → A) (g : a ≠ b → B) (hx : x = nI a := by rfl) (hy : y = nI b := by rfl) (ha : a < 2 ^ 31 := by omega) (hb : b < 2 ^ 31 := by omega) : (x = y → A) ∧ (¬ x = y → B) := by
  subst hx hy
  rw [nI_eq ha hb]
  exact ⟨f, g⟩
theorem pk_in {x : Int32} (n N : Nat) (h : n < N) (hx : x = nI n := by rfl) (hN : N < 2 ^ 31 := by omega) : vp_in x N := by
  subst hx
  exact vp_in_nI h hN
theorem pk_cl {x : Int32} (n : Nat) (hx : x = nI n := by rfl) (h : n < 2 ^ 31 := by omega) : x.toNatClampNeg = n := by
  subst hx
  exact nI_clamp h
theorem pk_tn {n : Nat} (h : n < 2 ^ 32) : (nI n).toBitVec.toNat = n := Nat.mod_eq_of_lt h
theorem pk_and (x : Int32) {m : Int32} (k : Nat) (hm : m.toBitVec.toNat = 2 ^ k - 1) : x &&& m = nI (x.toBitVec.toNat % 2 ^ k) := by
  apply Int32.toBitVec_inj.mp
  apply BitVec.eq_of_toNat_eq
  rw [Int32.toBitVec_and, BitVec.toNat_and, hm, Nat.and_two_pow_sub_one_eq_mod]
  show _ = (BitVec.ofNat 32 _).toNat
  rw [BitVec.toNat_ofNat]
  exact (Nat.mod_eq_of_lt (Nat.lt_of_le_of_lt (Nat.mod_le _ _) x.toBitVec.isLt)).symm
theorem pk_andN {n : Nat} (h : n < 2 ^ 32) {m : Int32} (k : Nat) (hm : m.toBitVec.toNat = 2 ^ k - 1) : nI n &&& m = nI (n % 2 ^ k) := by
  rw [pk_and _ k hm, pk_tn h]
theorem pk_andE (x : Int32) {m : Int32} (k : Nat) (hm : m.toBitVec.toNat = 2 ^ k - 1) : ∃ j : Nat, j < 2 ^ k ∧ x &&& m = nI j := ⟨_, Nat.mod_lt _ (Nat.two_pow_pos k), pk_and x k hm⟩
theorem pk_andIn (x : Int32) {m : Int32} (k : Nat) (hm : m.toBitVec.toNat = 2 ^ k - 1) (hk : k ≤ 30) : vp_in (x &&& m) (2 ^ k) := by
  obtain ⟨j, hj, e⟩ := pk_andE x k hm
  rw [e]
  exact vp_in_nI hj (Nat.lt_of_le_of_lt (Nat.pow_le_pow_right (by decide) hk) (by decide))
theorem pk_shl (a s : Int32) (k : Nat) (hs : (s.toBitVec.smod 32).toNat = k) : (a <<< s).toBitVec.toNat = a.toBitVec.toNat * 2 ^ k % 2 ^ 32 := by
  show (a.toBitVec <<< (s.toBitVec.smod 32).toNat).toNat = _
  rw [hs, BitVec.toNat_shiftLeft, Nat.shiftLeft_eq]
theorem pk_shlN {n : Nat} (s : Int32) (k : Nat) (hs : (s.toBitVec.smod 32).toNat = k) (h : n * 2 ^ k < 2 ^ 32) : nI n <<< s = nI (n * 2 ^ k) := by
  apply Int32.toBitVec_inj.mp
  apply BitVec.eq_of_toNat_eq
  have hn : n < 2 ^ 32 := Nat.lt_of_le_of_lt (Nat.le_mul_of_pos_right n (Nat.two_pow_pos k)) h
  rw [pk_shl _ _ k hs, pk_tn hn, pk_tn h, Nat.mod_eq_of_lt h]
theorem pk_shr (a s : Int32) (k : Nat) (hs : (s.toBitVec.smod 32).toNat = k) : (a >>> s).toInt = a.toInt >>> k := by
  show (a.toBitVec.sshiftRight (s.toBitVec.smod 32).toNat).toInt = _
  rw [hs, BitVec.toInt_sshiftRight]
  rfl
theorem pk_shrN {n : Nat} (h : n < 2 ^ 31) (s : Int32) (k : Nat) (hs : (s.toBitVec.smod 32).toNat = k) : nI n >>> s = nI (n / 2 ^ k) := by
  apply Int32.toInt_inj.mp
  have h2 : n / 2 ^ k ≤ n := Nat.div_le_self _ _
  rw [pk_shr _ _ k hs, nI_toInt h, nI_toInt (by omega), Int.shiftRight_eq_div_pow]
  rfl
theorem pk_ushr (x s : Int32) (k : Nat) (hs : ((s.toUInt32 &&& Int32.toUInt32 31).toBitVec % 32).toNat = k) : (x.toUInt32 >>> (s.toUInt32 &&& Int32.toUInt32 31)).toInt32.toBitVec.toNat = x.toBitVec.toNat / 2 ^ k := by
  have e : (x.toUInt32 >>> (s.toUInt32 &&& Int32.toUInt32 31)).toInt32.toBitVec = x.toBitVec >>> k := by
    rw [← hs]
    exact UInt32.toBitVec_shiftRight _ _
  rw [e, BitVec.toNat_ushiftRight, Nat.shiftRight_eq_div_pow]
theorem pk_ushrN {n : Nat} (hn : n < 2 ^ 32) (s : Int32) (k : Nat) (hs : ((s.toUInt32 &&& Int32.toUInt32 31).toBitVec % 32).toNat = k) : ((nI n).toUInt32 >>> (s.toUInt32 &&& Int32.toUInt32 31)).toInt32 = nI (n / 2 ^ k) := by
  apply Int32.toBitVec_inj.mp
  apply BitVec.eq_of_toNat_eq
  rw [pk_ushr _ s k hs, pk_tn hn, pk_tn (Nat.lt_of_le_of_lt (Nat.div_le_self _ _) hn)]
theorem pk_loop {σ : Type} (W : Nat → Nat → σ → Prop) (I : Nat → σ → Prop) (e i0 : Nat) (s : σ) (hi : i0 ≤ e) (h0 : I i0 s) (hx : ∀ n s, I e s → W (n + 1) e s)
    (hs : ∀ n i s, i < e → I i s → (∀ s', I (i + 1) s' → W n (i + 1) s') → W (n + 1) i s) : ∃ n, W n i0 s :=
  ⟨e + 1, loop_i W I e hx hs (e + 1) i0 s hi (by omega) h0⟩
theorem ix_l {M : Int32} (m : Nat) (hM : M = nI m) (a b : Nat) : M * nI a + nI b = nI (m * a + b) := by
  rw [hM, pk_mul, nI_add]
theorem ix_r {M : Int32} (m : Nat) (hM : M = nI m) (a b : Nat) : nI a * M + nI b = nI (m * a + b) := by
  rw [hM, pk_mul, nI_add, Nat.mul_comm]
theorem ix_m {M : Int32} (m : Nat) (hM : M = nI m) (a : Nat) : nI a * M = nI (m * a) := by
  rw [hM, pk_mul, Nat.mul_comm]
theorem ix_n {M : Int32} (m : Nat) (hM : M = nI m) (a : Nat) : M * nI a = nI (m * a) := by
  rw [hM, pk_mul]
theorem ix_a {M : Int32} (m : Nat) (hM : M = nI m) (a : Nat) : M + nI a = nI (m + a) := by
  rw [hM, nI_add]
theorem ix_p {a : Nat} (h : 0 < a) : nI a - 1 = nI (a - 1) := by
  obtain ⟨c, rfl⟩ : ∃ c, a = c + 1 := ⟨a - 1, by omega⟩
  rw [nI_pred, Nat.add_sub_cancel]
theorem ix_q {a : Nat} (h : 0 < a) : nI a + (-1) = nI (a - 1) := by
  obtain ⟨c, rfl⟩ : ∃ c, a = c + 1 := ⟨a - 1, by omega⟩
  rw [pk_m1, Nat.add_sub_cancel]
theorem ix_ge {M : Int32} (m : Nat) (hM : M = nI m) {a : Nat} (h : a < m) (hm : m < 2 ^ 31) : ¬ M ≤ nI a := by
  rw [hM]; exact nI_ge h hm
theorem ix_le {M : Int32} (m : Nat) (hM : M = nI m) {a : Nat} (h : m ≤ a) (hm : a < 2 ^ 31) : M ≤ nI a := by
  rw [hM]; exact nI_le h hm
theorem ix_ne {M : Int32} (m : Nat) (hM : M = nI m) {a : Nat} (h : a ≠ m) (ha : a < 2 ^ 31) (hm : m < 2 ^ 31) : ¬ nI a = M := by
  rw [hM, nI_eq ha hm]; exact h
theorem ix_neg (a : Nat) (h : a < 2 ^ 31) : ¬ nI a = -1 := by
  intro e
  have h1 := congrArg Int32.toInt e
  rw [nI_toInt h] at h1
  have h2 : (-1 : Int32).toInt = -1 := by decide
  omega
theorem ix_ng2 (a : Nat) (h : a < 2 ^ 31) : ¬ nI a = -2 := by
  intro e
  have h1 := congrArg Int32.toInt e
  rw [nI_toInt h] at h1
  have h2 : (-2 : Int32).toInt = -2 := by decide
  omega
theorem ix_self (f : Nat → Int32) (k : Nat) : upd f k (f k) = f := by
  funext j
  unfold upd
  by_cases h : j = k
  · rw [if_pos h, h]
  · rw [if_neg h]
theorem ix_uu (f : Nat → Int32) (k : Nat) (a b : Int32) : upd (upd f k a) k b = upd f k b := by
  funext j
  unfold upd
  by_cases h : j = k
  · rw [if_pos h, if_pos h]
  · rw [if_neg h, if_neg h, if_neg h]
theorem ix_bn0 : vp_nar .boolean 0 = 0 := rfl
theorem ix_bn1 : vp_nar .boolean 1 = 1 := rfl
theorem ix_nb0 : narrow .boolean (.int 0) = .int 0 := rfl
theorem ix_nb1 : narrow .boolean (.int 1) = .int 1 := rfl
end
section
/-- number of FUNCs in the first n rows of a bundle that begins at b -/
def cf_n (co : Nat → Int32) (b : Nat) : Nat → Nat
  | 0 => 0
  | n + 1 => cf_n co b n + (if co (b + n) = 0 then 1 else 0)
def st_po (o : Nat) (a : Int32) : Nat :=
  if o = 18 then (if a = 1 then 1 else 0)
  else if o = 4 ∨ (5 ≤ o ∧ o ≤ 9) then 2
  else if o = 2 ∨ o = 3 ∨ o = 11 ∨ (13 ≤ o ∧ o ≤ 17) ∨ (19 ≤ o ∧ o ≤ 22) then 1 else 0
def st_pu (o : Nat) (a : Int32) : Nat :=
  if o = 18 then (if a = 1 then 0 else 1)
  else if o = 2 ∨ o = 4 ∨ o = 16 then 2
  else if o = 1 ∨ (5 ≤ o ∧ o ≤ 10) ∨ o = 14 ∨ o = 15 ∨ o = 17 ∨ o = 19 then 1 else 0
/-- what an instruction at (i, h) of a sound bundle keeps -/
def bu_ok (co ca cb : Nat → Int32) (b n c : Nat) (H : Nat → Nat → Prop) (i h : Nat) : Prop :=
  i < n ∧ h ≤ 8 ∧ ∃ o : Nat, o < 24 ∧ co (b + i) = nI o ∧
  (o = 10 ∨ o = 11 → ∃ a : Nat, a < 4 ∧ ca (b + i) = nI a) ∧
  (o = 14 ∨ o = 15 ∨ o = 17 → ∃ f : Nat, f < c ∧ ca (b + i) = nI f) ∧
  (o = 16 → ∃ s : Nat, s < 4 ∧ ca (b + i) = nI s) ∧
  (o = 18 → (∃ a : Nat, a < 4 ∧ ca (b + i) = nI a) ∧ (∃ p : Nat, p < 84 ∧ cb (b + i) = nI p)) ∧
  st_po o (ca (b + i)) ≤ h ∧ h - st_po o (ca (b + i)) + st_pu o (ca (b + i)) ≤ 8 ∧
  (o ≠ 12 → o ≠ 21 → o ≠ 22 → i + 1 < n ∧ H (i + 1) (h - st_po o (ca (b + i)) + st_pu o (ca (b + i)))) ∧
  (o = 12 ∨ o = 13 → ∃ j : Nat, ca (b + i) = nI j ∧ H j (h - st_po o (ca (b + i)) + st_pu o (ca (b + i))))
def pt_d (m k : Nat) : Nat := m / 8 ^ k % 8
/-- a pattern, by its three digits -/
def pt_v (a b c : Nat) : Prop := a ≤ 5 ∧ b ≠ 6 ∧ c ≠ 6 ∧ (a = 5 → b = 7) ∧ (a = 5 ∨ b = 5 ∨ b = 7 → c = 7)
def pt_ok (p : Int32) : Prop := ∃ m : Nat, m < 512 ∧ p = nI m ∧ pt_v (pt_d m 0) (pt_d m 1) (pt_d m 2)
/-- a frame whose next instruction is reached e values from now -/
def fr_ok (H : Nat → Nat → Nat → Prop) (ft fn fh : Nat → Int32) (x e : Nat) : Prop :=
  ∃ t i h : Nat, t < 4 ∧ ft x = nI t ∧ fn x = nI i ∧ fh x = nI h ∧ H t i (h + e)
/-- the frames of thread k below the top -/
def th_lo (H : Nat → Nat → Nat → Prop) (ft fn fh fz : Nat → Int32) (k d : Nat) : Prop :=
  fz (6 * k) = 0 ∧ ∀ j, j + 1 < d → fr_ok H ft fn fh (6 * k + j) (if fz (6 * k + j + 1) = 0 then 1 else 2)
def th_ok (H : Nat → Nat → Nat → Prop) (ft fn fh fz tc fd : Nat → Int32) (k : Nat) : Prop :=
  ∃ d : Nat, d ≤ 6 ∧ fd k = nI d ∧ (tc k = -1 ↔ 0 < d) ∧ (0 < d → th_lo H ft fn fh fz k d ∧ fr_ok H ft fn fh (6 * k + (d - 1)) 0)
/-- tenant t has no frame -/
def nf_t (fd ft : Nat → Int32) (t : Nat) : Prop := ∀ k, k < 6 → ∀ d, d ≤ 6 → fd k = nI d → ∀ j, j < d → ft (6 * k + j) ≠ nI t
def rl_q (q : Int32) : Prop := ∃ n : Nat, 1 ≤ n ∧ n ≤ 16 ∧ q = nI n
def rl_tn (tn sl : Int32) (tc : Nat → Int32) : Prop := tn = -1 ∨ ∃ k : Nat, k < 6 ∧ tn = nI k ∧ tc k = -1 ∧ ∃ s : Nat, 1 ≤ s ∧ s ≤ 16 ∧ sl = nI s
def rl_pc (pc : Int32) (le : Nat → Int32) : Prop := ∃ p : Nat, p ≤ 64 ∧ pc = nI p ∧ le 4 = nI p
def rl_bt (H : Nat → Nat → Nat → Prop) (le fc ts kl fs co ca cb : Nat → Int32) (t : Nat) : Prop :=
  ∃ n c : Nat, n ≤ 64 ∧ le t = nI n ∧ c ≤ 4 ∧ fc t = nI c ∧ c = cf_n co (64 * t) n ∧ (kl t = 0 ∨ kl t = 1) ∧ (n = 0 → kl t = 0) ∧
  ts t = (if n = 0 then 0 else if kl t = 0 then 1 else 2) ∧
  (∀ f, f < c → ∃ i : Nat, i < n ∧ fs (4 * t + f) = nI i ∧ co (64 * t + i) = 0 ∧ cf_n co (64 * t) i = f) ∧
  (∀ i, i < n → co (64 * t + i) = 0 → H t i 0) ∧
  (∀ i h, H t i h → bu_ok co ca cb (64 * t) n c (H t) i h)
def rl_b (H : Nat → Nat → Nat → Prop) (le fc ts kl fs co ca cb : Nat → Int32) : Prop := ∀ t, t < 4 → rl_bt H le fc ts kl fs co ca cb t
def rl_g (gc gp : Nat → Int32) : Prop := ∀ t, t < 4 → ∃ g : Nat, g ≤ 6 ∧ gc t = nI g ∧ ∀ j, j < g → pt_ok (gp (6 * t + j))
def rl_s (st sf : Nat → Int32) : Prop := ∀ j, j < 16 → (∃ t : Nat, t < 4 ∧ st j = nI t) ∧ (∃ f : Nat, f < 4 ∧ sf j = nI f)
def rl_t (H : Nat → Nat → Nat → Prop) (ft fn fh fz tc fd : Nat → Int32) : Prop := ∀ k, k < 6 → th_ok H ft fn fh fz tc fd k
def rl_kx (fk fp fz : Nat → Int32) (x : Nat) : Prop := (fp x = 0 ∧ fz x = 0 ∧ fk x = 0) ∨ (fp x = 1 ∧ fz x = 0 ∧ fk x = 1) ∨ (fp x = 0 ∧ fz x = 1 ∧ fk x = 2)
def rl_k (fk fp fz : Nat → Int32) : Prop := ∀ x, x < 36 → rl_kx fk fp fz x
def rl_ut (ux uy kl fd ft : Nat → Int32) (t : Nat) : Prop := (kl t ≠ 0 → nf_t fd ft t → ux t = 0) ∧ (¬ (kl t ≠ 0 ∧ nf_t fd ft t) → ux t = uy t)
def rl_u (ux uy kl fd ft : Nat → Int32) : Prop := ∀ t, t < 4 → rl_ut ux uy kl fd ft t
def rl_n (M : Nat) (nd : Int32) (au nt : Nat → Int32) : Prop := ∃ m : Nat, m ≤ M ∧ nd = nI m ∧ ∀ i, i < 8 → nt i = if i < m then au ((m - 1 - i) % 8) else -1
def rl_R (M : Nat) (H : Nat → Nat → Nat → Prop) (q tn sl pc wp yd nd : Int32) (he co ca cb fs fc ts tu ux tl ul tm gc ga gp ss st sf tc tr ow ti fd ft fk fn fh fl fv rs nt le kl uy fp fz au : Nat → Int32) : Prop :=
  rl_q q ∧ rl_tn tn sl tc ∧ rl_pc pc le ∧ rl_b H le fc ts kl fs co ca cb ∧ rl_g gc gp ∧ rl_s st sf ∧ rl_t H ft fn fh fz tc fd ∧ rl_k fk fp fz ∧ rl_u ux uy kl fd ft ∧ rl_n M nd au nt
/-- the relation: the two states share all but units, bundles' heads, frame kinds and notes -/
def i_Rel (k : Nat) (u : SX) (v : SY) : Prop :=
  ∃ (H : Nat → Nat → Nat → Prop) (q tn sl pc wp yd nd : Int32) (he co ca cb fs fc ts tu ux tl ul tm gc ga gp ss st sf tc tr ow ti fd ft fk fn fh fl fv rs nt le kl uy fp fz au : Nat → Int32), u = (q, tn, sl, pc, wp, he, co, ca, cb, fs, fc, ts, tu, ux, tl, ul, tm, gc, ga, gp, ss, st, sf, tc, tr, ow, ti, fd, ft, fk, fn, fh, fl, fv, rs, nt) ∧ v = (q, wp, tn, sl, yd, nd, co, ca, cb, le, he, kl, tu, uy, tl, ul, tm, gc, ga, gp, ss, st, sf, fd, tc, tr, ow, ti, ft, fn, fh, fp, fz, fl, fv, rs, au) ∧ rl_R (40 * k) H q tn sl pc wp yd nd he co ca cb fs fc ts tu ux tl ul tm gc ga gp ss st sf tc tr ow ti fd ft fk fn fh fl fv rs nt le kl uy fp fz au
theorem rl_nU {M N : Nat} {nd : Int32} {au nt : Nat → Int32} (h : rl_n M nd au nt) (hMN : M ≤ N) : rl_n N nd au nt := by
  obtain ⟨m, h1, h2, h3⟩ := h
  exact ⟨m, by omega, h2, h3⟩
theorem i_up {k : Nat} {u : SX} {v : SY} (h : i_Rel k u v) : i_Rel (k + 5) u v := by
  obtain ⟨H, q, tn, sl, pc, wp, yd, nd, he, co, ca, cb, fs, fc, ts, tu, ux, tl, ul, tm, gc, ga, gp, ss, st, sf, tc, tr, ow, ti, fd, ft, fk, fn, fh, fl, fv, rs, nt, le, kl, uy, fp, fz, au, e1, e2, a1, a2, a3, a4, a5, a6, a7, a8, a9, a10⟩ := h
  exact ⟨H, q, tn, sl, pc, wp, yd, nd, he, co, ca, cb, fs, fc, ts, tu, ux, tl, ul, tm, gc, ga, gp, ss, st, sf, tc, tr, ow, ti, fd, ft, fk, fn, fh, fl, fv, rs, nt, le, kl, uy, fp, fz, au, e1, e2, a1, a2, a3, a4, a5, a6, a7, a8, a9, rl_nU a10 (by omega)⟩
section
variable {q tn sl pc wp yd nd : Int32} {he co ca cb fs fc ts tu ux tl ul tm gc ga gp ss st sf tc tr ow ti fd ft fk fn fh fl fv rs nt le kl uy fp fz au : Nat → Int32}
theorem mk_rel {k : Nat} {H : Nat → Nat → Nat → Prop} (h : rl_R (40 * k) H q tn sl pc wp yd nd he co ca cb fs fc ts tu ux tl ul tm gc ga gp ss st sf tc tr ow ti fd ft fk fn fh fl fv rs nt le kl uy fp fz au) : i_Rel k (q, tn, sl, pc, wp, he, co, ca, cb, fs, fc, ts, tu, ux, tl, ul, tm, gc, ga, gp, ss, st, sf, tc, tr, ow, ti, fd, ft, fk, fn, fh, fl, fv, rs, nt) (q, wp, tn, sl, yd, nd, co, ca, cb, le, he, kl, tu, uy, tl, ul, tm, gc, ga, gp, ss, st, sf, fd, tc, tr, ow, ti, ft, fn, fh, fp, fz, fl, fv, rs, au) :=
  ⟨H, q, tn, sl, pc, wp, yd, nd, he, co, ca, cb, fs, fc, ts, tu, ux, tl, ul, tm, gc, ga, gp, ss, st, sf, tc, tr, ow, ti, fd, ft, fk, fn, fh, fl, fv, rs, nt, le, kl, uy, fp, fz, au, rfl, rfl, h⟩
end
end
section
theorem ix_f {j n : Nat} {N N1 : Int32} (hN : N = nI n) (h1 : N1 = nI (n - 1)) (h : j < n) (hn : n < 2 ^ 31) : ¬ nI j < 0 ∧ ¬ N ≤ nI j ∧ ¬ N1 < nI j ∧ nI j < N ∧ nI j ≤ N1 := by
  rw [hN, h1]
  exact ⟨nI_pos (by omega), nI_ge h hn, nI_nlt (by omega) (by omega), nI_lt h hn, nI_le (by omega) (by omega)⟩
theorem ix_c (x : Int32) {n : Nat} {N N1 : Int32} (hN : N = nI n) (h1 : N1 = nI (n - 1)) (h0 : 0 < n) (hn : n < 2 ^ 31) :
    x < 0 ∨ (¬ x < 0 ∧ N ≤ x ∧ N1 < x ∧ ¬ x < N ∧ ¬ x ≤ N1) ∨ ∃ j : Nat, j < n ∧ x = nI j := by
  by_cases c : x < 0
  · exact Or.inl c
  · obtain ⟨j, hj, rfl⟩ := nI_of c
    by_cases c2 : j < n
    · exact Or.inr (Or.inr ⟨j, c2, rfl⟩)
    · rw [hN, h1]
      exact Or.inr (Or.inl ⟨c, nI_le (by omega) hj, nI_lt (by omega) hj, nI_nlt (by omega) hj, nI_ge (by omega) hj⟩)
section
variable {q tn sl pc wp yd nd : Int32} {he co ca cb fs fc ts tu ux tl ul tm gc ga gp ss st sf tc tr ow ti fd ft fk fn fh fl fv rs nt le kl uy fp fz au : Nat → Int32}
theorem xl_ten1 {post : Int32 → Prop} {t : Nat} (ht : t < 4) (h : post 1) : wpX_isTenant post (nI t) := by
  have f := ix_f (N := 4) (N1 := 3) rfl rfl ht (by decide)
  exact br_f f.1 (br_f f.2.1 h)
theorem yl_ten1 {post : Int32 → Prop} {v : SY} {t : Nat} (ht : t < 4) (h : post 1) : wpY_isTenant post v (nI t) := by
  have f := ix_f (N := 4) (N1 := 3) rfl rfl ht (by decide)
  exact br_f f.1 (br_f f.2.1 h)
theorem xl_ten0 {post : Int32 → Prop} {p : Int32} (hp : p < 0 ∨ ((4 : Int32) ≤ p)) (h : post 0) : wpX_isTenant post p := by
  by_cases c : p < 0
  · exact br_t c h
  · exact br_f c (br_t (hp.resolve_left c) h)
theorem yl_ten0 {post : Int32 → Prop} {v : SY} {p : Int32} (hp : p < 0 ∨ ((4 : Int32) ≤ p)) (h : post 0) : wpY_isTenant post v p := by
  by_cases c : p < 0
  · exact br_t c h
  · exact br_f c (br_t (hp.resolve_left c) h)
theorem ten_c (x : Int32) : (x < 0 ∨ (4 : Int32) ≤ x) ∨ ∃ j : Nat, j < 4 ∧ x = nI j := by
  rcases ix_c x (n := 4) (N := 4) (N1 := 3) rfl rfl (by decide) (by decide) with c | c | c
  · exact Or.inl (Or.inl c)
  · exact Or.inl (Or.inr c.2.1)
  · exact Or.inr c
theorem i_vc_place {k : Nat} {u : SX} {v : SY} (I : i_Rel k u v) (hk : k + 5 ≤ 2561) : wpX_place (fun r => wpY_place (fun r' => r' = r ∧ i_Rel (k + 5) u v) v) u := by
  have I5 := i_up I
  obtain ⟨H, q, tn, sl, pc, wp, yd, nd, he, co, ca, cb, fs, fc, ts, tu, ux, tl, ul, tm, gc, ga, gp, ss, st, sf, tc, tr, ow, ti, fd, ft, fk, fn, fh, fl, fv, rs, nt, le, kl, uy, fp, fz, au, rfl, rfl, a1, a2, a3, a4, a5, a6, a7, a8, a9, a10⟩ := I
  exact ⟨rfl, I5⟩
theorem i_vc_code {k : Nat} {u : SX} {v : SY} (I : i_Rel k u v) (hk : k + 5 ≤ 2561) (v1 : Int32) (v2 : Int32) (v3 : Int32) : wpX_code (fun r u' => wpY_code (fun r' v' => r' = r ∧ i_Rel (k + 5) u' v') v v1 v2 v3) u v1 v2 v3 := by
  have I5 := i_up I
  obtain ⟨H, q, tn, sl, pc, wp, yd, nd, he, co, ca, cb, fs, fc, ts, tu, ux, tl, ul, tm, gc, ga, gp, ss, st, sf, tc, tr, ow, ti, fd, ft, fk, fn, fh, fl, fv, rs, nt, le, kl, uy, fp, fz, au, rfl, rfl, a1, a2, a3, a4, a5, a6, a7, a8, a9, a10⟩ := I
  obtain ⟨p, hp, rfl, hl⟩ := a3
  by_cases h : p < 64
  · have c1 : nI p < 64 := nI_lt (b := 64) h (by decide)
    have c2 : ¬ nI p = 64 := ix_ne 64 rfl (by omega) (by omega) (by decide)
    have e1 : 256 + nI p = nI (256 + p) := ix_a 256 rfl p
    have e2 : (nI (256 + p)).toNatClampNeg = 256 + p := nI_clamp (by omega)
    have vi : vp_in (nI (256 + p)) 320 := vp_in_nI (by omega) (by decide)
    simp only [wpX_code, wpY_code, hl, c1, c2, e1, e2, vi, forall_eq, true_implies, not_true_eq_false, not_false_eq_true, false_implies, and_true, true_and, nI_1]
    refine mk_rel ⟨a1, a2, ⟨p + 1, by omega, rfl, by rw [pk_us]⟩, ?_, a5, a6, a7, a8, a9, rl_nU a10 (by omega)⟩
    intro t ht
    obtain ⟨n, c, b1, b2, b3, b4, b5, b6, b7, b8, b9, b10, b11⟩ := a4 t ht
    have g : ∀ (f : Nat → Int32) (w : Int32) (i : Nat), i < n → upd f (256 + p) w (64 * t + i) = f (64 * t + i) := fun f w i hi => pk_un (by omega)
    have gc : ∀ j, j ≤ n → cf_n (upd co (256 + p) v1) (64 * t) j = cf_n co (64 * t) j := by
      intro j
      induction j with
      | zero => intro _; rfl
      | succ j ih => intro hj; simp only [cf_n]; rw [ih (by omega), g _ _ _ (by omega)]
    refine ⟨n, c, b1, by rw [pk_un (by omega)]; exact b2, b3, b4, by rw [gc n (Nat.le_refl _)]; exact b5, b6, b7, b8, ?_, ?_, ?_⟩
    · intro f hf
      obtain ⟨i, h1, h2, h3, h4⟩ := b9 f hf
      exact ⟨i, h1, h2, by rw [g _ _ _ h1]; exact h3, by rw [gc i (by omega)]; exact h4⟩
    · intro i hi h0
      rw [g _ _ _ hi] at h0
      exact b10 i hi h0
    · intro i hh hH
      have z := b11 i hh hH
      have hi : i < n := z.1
      unfold bu_ok at z ⊢
      rw [g _ _ _ hi, g _ _ _ hi, g _ _ _ hi]
      exact z
  · have e : p = 64 := by omega
    subst e
    have c1 : ¬ nI 64 < 64 := by decide
    have c2 : nI 64 = 64 := rfl
    simp only [wpX_code, wpY_code, hl, c1, c2, not_false_eq_true, true_implies, false_implies, true_and, not_true_eq_false, and_true]
    simp only [c1, not_false_eq_true, true_implies, false_implies, true_and, not_true_eq_false, and_true, Int32.lt_irrefl]
    exact I5
theorem i_vc_resource {k : Nat} {u : SX} {v : SY} (I : i_Rel k u v) (hk : k + 5 ≤ 2561) (v1 : Int32) : wpX_resource (fun r => wpY_resource (fun r' => r' = r ∧ i_Rel (k + 5) u v) v v1) u v1 := by
  have I5 := i_up I
  obtain ⟨H, q, tn, sl, pc, wp, yd, nd, he, co, ca, cb, fs, fc, ts, tu, ux, tl, ul, tm, gc, ga, gp, ss, st, sf, tc, tr, ow, ti, fd, ft, fk, fn, fh, fl, fv, rs, nt, le, kl, uy, fp, fz, au, rfl, rfl, a1, a2, a3, a4, a5, a6, a7, a8, a9, a10⟩ := I
  rcases ix_c v1 (n := 84) (N := 84) (N1 := 83) rfl rfl (by decide) (by decide) with c | ⟨c1, c2, c3, c4, c5⟩ | ⟨j, hj, rfl⟩
  · simp only [wpX_resource, wpY_resource, wpX_isPath, c, true_implies, not_true_eq_false, false_implies, and_true, true_and]
    exact I5
  · simp only [wpX_resource, wpY_resource, wpX_isPath, c1, c2, c3, c5, true_implies, not_true_eq_false, not_false_eq_true, false_implies, and_true, true_and]
    exact I5
  · obtain ⟨f1, f2, f3, f4, f5⟩ := ix_f (N := 84) (N1 := 83) rfl rfl hj (by decide)
    have vi : vp_in (nI j) 84 := vp_in_nI hj (by decide)
    have z : ¬ (1 : Int32) = 0 := by decide
    simp only [wpX_resource, wpY_resource, wpX_isPath, f1, f2, f3, f5, vi, z, true_implies, not_true_eq_false, not_false_eq_true, false_implies, and_true, true_and]
    exact I5
theorem i_vc_audit {k : Nat} {u : SX} {v : SY} (I : i_Rel k u v) (hk : k + 5 ≤ 2561) (v1 : Int32) : wpX_audit (fun r => wpY_audit (fun r' => r' = r ∧ i_Rel (k + 5) u v) v v1) u v1 := by
  have I5 := i_up I
  obtain ⟨H, q, tn, sl, pc, wp, yd, nd, he, co, ca, cb, fs, fc, ts, tu, ux, tl, ul, tm, gc, ga, gp, ss, st, sf, tc, tr, ow, ti, fd, ft, fk, fn, fh, fl, fv, rs, nt, le, kl, uy, fp, fz, au, rfl, rfl, a1, a2, a3, a4, a5, a6, a7, a8, a9, a10⟩ := I
  obtain ⟨m, hm, rfl, hn⟩ := a10
  rcases ix_c v1 (n := 8) (N := 8) (N1 := 7) rfl rfl (by decide) (by decide) with c | ⟨c1, c2, c3, c4, c5⟩ | ⟨j, hj, rfl⟩
  · simp only [wpX_audit, wpY_audit, c, true_implies, not_true_eq_false, false_implies, and_true, true_and]
    exact I5
  · simp only [wpX_audit, wpY_audit, c1, c2, c3, true_implies, not_true_eq_false, not_false_eq_true, false_implies, and_true, true_and]
    exact I5
  · obtain ⟨f1, f2, f3, f4, f5⟩ := ix_f (N := 8) (N1 := 7) rfl rfl hj (by decide)
    have vi : vp_in (nI j) 8 := vp_in_nI hj (by decide)
    have ec : (nI j).toNatClampNeg = j := nI_clamp (by omega)
    have e := hn j hj
    by_cases c : j < m
    · rw [if_pos c] at e
      have q1 : nI j < nI m := nI_lt c (by omega)
      have q2 : nI m - 1 - nI j = nI (m - 1 - j) := by rw [ix_p (by omega), pk_sub (by omega)]
      have q3 : nI (m - 1 - j) &&& 7 = nI ((m - 1 - j) % 8) := pk_andN (by omega) 3 (by decide)
      have q4 : (nI ((m - 1 - j) % 8)).toNatClampNeg = (m - 1 - j) % 8 := nI_clamp (by omega)
      have q5 : vp_in (nI ((m - 1 - j) % 8)) 8 := vp_in_nI (by omega) (by decide)
      simp only [wpX_audit, wpY_audit, f1, f2, f3, vi, ec, e, q1, q2, q3, q4, q5, true_implies, not_true_eq_false, not_false_eq_true, false_implies, and_true, true_and]
      exact I5
    · rw [if_neg c] at e
      have q1 : ¬ nI j < nI m := nI_nlt (by omega) (by omega)
      simp only [wpX_audit, wpY_audit, f1, f2, f3, vi, ec, e, q1, true_implies, not_true_eq_false, not_false_eq_true, false_implies, and_true, true_and]
      exact I5
end
end
section
theorem pt_sh : ∀ k, k < 3 → ∀ m, m < 512 → (nI m >>> ((3 * nI k) &&& 31)) &&& 7 = nI (pt_d m k) := by decide +kernel
theorem pt_lt (m k : Nat) : pt_d m k < 8 := Nat.mod_lt _ (by decide)
theorem pt_c {m k : Nat} (d : Nat) (D : Int32) (hD : D = nI d) (hd : d < 8) : nI (pt_d m k) = D ↔ pt_d m k = d := by
  have := pt_lt m k
  rw [hD, nI_eq (by omega) (by omega)]
section
variable {q tn sl pc wp yd nd : Int32} {he co ca cb fs fc ts tu ux tl ul tm gc ga gp ss st sf tc tr ow ti fd ft fk fn fh fl fv rs nt le kl uy fp fz au : Nat → Int32}
theorem xp_it {post : Int32 → Prop} {m k n : Nat} {e : Int32} (hm : m < 512) (hk : k < 3)
    (h0 : (pt_d m k = 6 ∨ (e ≠ 0 ∧ pt_d m k ≠ 7) ∨ (k = 0 ∧ pt_d m k = 7)) → post 0)
    (h1 : ¬ (pt_d m k = 6 ∨ (e ≠ 0 ∧ pt_d m k ≠ 7) ∨ (k = 0 ∧ pt_d m k = 7)) → wX_isPattern_17 post (nI m) n (if pt_d m k = 7 ∨ pt_d m k = 5 then 1 else 0) (nI (k + 1))) :
    wX_isPattern_17 post (nI m) (n + 1) e (nI k) := by
  have c3 : ¬ (3 : Int32) ≤ nI k := ix_ge 3 rfl hk (by decide)
  have q7 := pt_c (m := m) (k := k) 7 7 rfl (by decide)
  have q6 := pt_c (m := m) (k := k) 6 6 rfl (by decide)
  have q5 := pt_c (m := m) (k := k) 5 5 rfl (by decide)
  have k0 : nI k = 0 ↔ k = 0 := by rw [show (0 : Int32) = nI 0 from rfl, nI_eq (by omega) (by decide)]
  have z : ¬ (1 : Int32) = 0 := by decide
  have z' : ¬ (0 : Nat) = 7 := by decide
  simp only [wX_isPattern_17, c3, pt_sh k hk m hm, forall_eq, wX_isPattern_42, wX_isPattern_59, wX_isPattern_70, q7, q6, q5, k0, nI_1, z, false_implies, true_implies, not_false_eq_true, not_true_eq_false, true_and, and_true]
  by_cases c6 : pt_d m k = 6
  · simp only [c6, true_implies, not_true_eq_false, false_implies, and_true, show ¬ (6 : Nat) = 7 by decide, not_false_eq_true, true_and]
    exact h0 (Or.inl c6)
  · by_cases c7 : pt_d m k = 7
    · by_cases ck : k = 0
      · have hp := h0 (Or.inr (Or.inr ⟨ck, c7⟩))
        subst ck
        simp only [c7, true_implies, not_true_eq_false, false_implies, and_true, not_false_eq_true, true_and, show ¬ (7 : Nat) = 6 by decide]
        exact ⟨fun _ => hp, fun _ => hp⟩
      · have hp := h1 (by omega)
        rw [if_pos (Or.inl c7)] at hp
        simp only [c7, ck, true_implies, not_true_eq_false, false_implies, and_true, not_false_eq_true, true_and, show ¬ (7 : Nat) = 6 by decide]
        exact ⟨fun _ => hp, fun _ => hp⟩
    · by_cases ce : e = 0
      · have hp := h1 (by rintro (a | ⟨a, b⟩ | ⟨a, b⟩); exact c6 a; exact a ce; exact c7 b)
        by_cases c5 : pt_d m k = 5
        · rw [if_pos (Or.inr c5)] at hp
          simp only [c5, ce, true_implies, not_true_eq_false, false_implies, and_true, not_false_eq_true, true_and, show ¬ (5 : Nat) = 6 by decide, show ¬ (5 : Nat) = 7 by decide]
          exact ⟨fun _ => hp, fun _ => hp⟩
        · rw [if_neg (by omega)] at hp
          simp only [c5, c6, c7, ce, true_implies, not_true_eq_false, false_implies, and_true, not_false_eq_true, true_and]
          exact ⟨fun _ => hp, fun _ => hp⟩
      · have hp := h0 (Or.inr (Or.inl ⟨ce, c7⟩))
        simp only [c6, c7, ce, true_implies, not_true_eq_false, false_implies, and_true, not_false_eq_true, true_and]
        exact hp
theorem yp_it {post : Int32 → Prop} {m k n : Nat} {e : Int32} (hm : m < 512) (hk : k < 3)
    (h0 : (pt_d m k = 6 ∨ (e ≠ 0 ∧ pt_d m k ≠ 7)) → post 0)
    (h1 : ¬ (pt_d m k = 6 ∨ (e ≠ 0 ∧ pt_d m k ≠ 7)) → wY_isPattern_41 post (nI m) q wp tn sl yd nd co ca cb le he kl tu uy tl ul tm gc ga gp ss st sf fd tc tr ow ti ft fn fh fp fz fl fv rs au n (if pt_d m k = 7 ∨ pt_d m k = 5 then 1 else e) (nI (k + 1))) :
    wY_isPattern_41 post (nI m) q wp tn sl yd nd co ca cb le he kl tu uy tl ul tm gc ga gp ss st sf fd tc tr ow ti ft fn fh fp fz fl fv rs au (n + 1) e (nI k) := by
  have c3 : ¬ (3 : Int32) ≤ nI k := ix_ge 3 rfl hk (by decide)
  have q7 := pt_c (m := m) (k := k) 7 7 rfl (by decide)
  have q6 := pt_c (m := m) (k := k) 6 6 rfl (by decide)
  have q5 := pt_c (m := m) (k := k) 5 5 rfl (by decide)
  simp only [wY_isPattern_41, wpY_digit, c3, pt_sh k hk m hm, forall_eq, wY_isPattern_74, q7, q6, q5, nI_1, false_implies, true_implies, not_false_eq_true, not_true_eq_false, true_and, and_true]
  by_cases c6 : pt_d m k = 6
  · simp only [c6, true_implies, not_true_eq_false, false_implies, and_true]
    exact h0 (Or.inl c6)
  · by_cases c7 : pt_d m k = 7
    · have hp := h1 (by omega)
      rw [if_pos (Or.inl c7)] at hp
      simp only [c7, true_implies, not_true_eq_false, false_implies, and_true, not_false_eq_true, true_and, show ¬ (7 : Nat) = 6 by decide, show ¬ (7 : Nat) = 5 by decide]
      exact ⟨fun _ => hp, fun _ => hp⟩
    · by_cases ce : e = 0
      · have hp := h1 (by rintro (a | ⟨a, b⟩); exact c6 a; exact a ce)
        by_cases c5 : pt_d m k = 5
        · rw [if_pos (Or.inr c5)] at hp
          simp only [c5, ce, true_implies, not_true_eq_false, false_implies, and_true, not_false_eq_true, true_and, show ¬ (5 : Nat) = 6 by decide, show ¬ (5 : Nat) = 7 by decide]
          exact hp
        · rw [if_neg (by omega)] at hp
          simp only [c5, c6, c7, ce, true_implies, not_true_eq_false, false_implies, and_true, not_false_eq_true, true_and]
          rw [ce] at hp
          exact hp
      · have hp := h0 (Or.inr ⟨ce, c7⟩)
        simp only [c6, c7, ce, true_implies, not_true_eq_false, false_implies, and_true, not_false_eq_true, true_and]
        exact hp
theorem xp_ok {post : Int32 → Prop} {m : Nat} (hm : m < 512) (h1 : pt_v (pt_d m 0) (pt_d m 1) (pt_d m 2) → post 1) (h0 : ¬ pt_v (pt_d m 0) (pt_d m 1) (pt_d m 2) → post 0) : wpX_isPattern post (nI m) := by
  have l0 := pt_lt m 0
  have l1 := pt_lt m 1
  have l2 := pt_lt m 2
  unfold pt_v at h1 h0
  have i0 : ((if pt_d m 0 = 7 ∨ pt_d m 0 = 5 then 1 else 0 : Int32) ≠ 0) ↔ (pt_d m 0 = 7 ∨ pt_d m 0 = 5) := by
    by_cases c : pt_d m 0 = 7 ∨ pt_d m 0 = 5
    · rw [if_pos c]; exact ⟨fun _ => c, fun _ => by decide⟩
    · rw [if_neg c]; exact ⟨fun z => absurd rfl z, fun z => absurd z c⟩
  have i1 : ((if pt_d m 1 = 7 ∨ pt_d m 1 = 5 then 1 else 0 : Int32) ≠ 0) ↔ (pt_d m 1 = 7 ∨ pt_d m 1 = 5) := by
    by_cases c : pt_d m 1 = 7 ∨ pt_d m 1 = 5
    · rw [if_pos c]; exact ⟨fun _ => c, fun _ => by decide⟩
    · rw [if_neg c]; exact ⟨fun z => absurd rfl z, fun z => absurd z c⟩
  refine br_f (nI_pos (by omega)) (br_t (nI_lt (b := 512) hm (by decide)) ⟨4, ?_⟩)
  refine xp_it (k := 0) hm (by decide) (fun z => h0 ?_) (fun z0 => ?_)
  · rcases z with a | ⟨a, b⟩ | ⟨a, b⟩
    · omega
    · exact absurd rfl a
    · omega
  refine xp_it (k := 1) hm (by decide) (fun z => h0 ?_) (fun z1 => ?_)
  · rw [i0] at z
    omega
  refine xp_it (k := 2) hm (by decide) (fun z => h0 ?_) (fun z2 => ?_)
  · rw [i1] at z
    rw [i0] at z1
    omega
  refine br_t (ix_le 3 rfl (by decide) (by decide)) (h1 ?_)
  rw [i0] at z1
  rw [i1] at z2
  have z0' : ¬ (pt_d m 0 = 6 ∨ pt_d m 0 = 7) := fun a => z0 (a.elim Or.inl (fun b => Or.inr (Or.inr ⟨rfl, b⟩)))
  omega
theorem yp_ok {post : Int32 → Prop} {m : Nat} (hm : m < 512) (h1 : pt_v (pt_d m 0) (pt_d m 1) (pt_d m 2) → post 1) (h0 : ¬ pt_v (pt_d m 0) (pt_d m 1) (pt_d m 2) → post 0) : wpY_isPattern post (q, wp, tn, sl, yd, nd, co, ca, cb, le, he, kl, tu, uy, tl, ul, tm, gc, ga, gp, ss, st, sf, fd, tc, tr, ow, ti, ft, fn, fh, fp, fz, fl, fv, rs, au) (nI m) := by
  have l0 := pt_lt m 0
  have l1 := pt_lt m 1
  have l2 := pt_lt m 2
  have q5 := pt_c (m := m) (k := 0) 5 5 rfl (by decide)
  have s0 : (nI m >>> ((3 * 0) &&& 31)) &&& 7 = nI (pt_d m 0) := pt_sh 0 (by decide) m hm
  unfold pt_v at h1 h0
  have c511 : ¬ (511 : Int32) < nI m := nI_nlt (a := 511) (b := m) (by omega) (by decide)
  have hd5 : nI (pt_d m 0) ≤ 5 ↔ pt_d m 0 ≤ 5 := by rw [show (5 : Int32) = nI 5 from rfl, nI_leI (by omega) (by decide)]
  have key : ∀ e : Int32, (e ≠ 0 ↔ pt_d m 0 = 5) → pt_d m 0 ≤ 5 → wY_isPattern_41 post (nI m) q wp tn sl yd nd co ca cb le he kl tu uy tl ul tm gc ga gp ss st sf fd tc tr ow ti ft fn fh fp fz fl fv rs au 3 e 1 := by
    intro e he5 h05
    refine yp_it (k := 1) hm (by decide) (fun z => h0 ?_) (fun z1 => ?_)
    · rw [he5] at z
      omega
    · have i1 : ((if pt_d m 1 = 7 ∨ pt_d m 1 = 5 then 1 else e : Int32) ≠ 0) ↔ (pt_d m 1 = 7 ∨ pt_d m 1 = 5 ∨ pt_d m 0 = 5) := by
        by_cases c : pt_d m 1 = 7 ∨ pt_d m 1 = 5
        · rw [if_pos c]; exact ⟨fun _ => by omega, fun _ => by decide⟩
        · rw [if_neg c, he5]; omega
      rw [he5] at z1
      refine yp_it (k := 2) hm (by decide) (fun z => h0 ?_) (fun z2 => ?_)
      · rw [i1] at z
        omega
      · rw [i1] at z2
        exact br_t (ix_le 3 rfl (by decide) (by decide)) (h1 (by omega))
  simp only [wpY_isPattern, wpY_digit, s0, nI_pos (show m < 2 ^ 31 by omega), c511, hd5, q5, not_false_eq_true, true_implies, false_implies, true_and]
  refine ⟨fun h05 => ⟨fun h5 => ⟨3, key 1 (by rw [h5]; decide) h05⟩, fun h5 => ⟨3, key 0 ⟨fun z => absurd rfl z, fun z => absurd z h5⟩ h05⟩⟩, fun h => h0 (by omega)⟩
theorem xp_no {post : Int32 → Prop} {p : Int32} (c : p < 0 ∨ ¬ p < 512) (h : post 0) : wpX_isPattern post p := by
  by_cases c0 : p < 0
  · exact br_t c0 h
  · exact br_f c0 (br_f (c.resolve_left c0) h)
theorem yp_no {post : Int32 → Prop} {p : Int32} (c : p < 0 ∨ (511 : Int32) < p) (h : post 0) : wpY_isPattern post (q, wp, tn, sl, yd, nd, co, ca, cb, le, he, kl, tu, uy, tl, ul, tm, gc, ga, gp, ss, st, sf, fd, tc, tr, ow, ti, ft, fn, fh, fp, fz, fl, fv, rs, au) p := by
  by_cases c0 : p < 0
  · exact br_t c0 h
  · exact br_f c0 (br_t (c.resolve_left c0) h)
end
end
section
section
variable {q tn sl pc wp yd nd : Int32} {he co ca cb fs fc ts tu ux tl ul tm gc ga gp ss st sf tc tr ow ti fd ft fk fn fh fl fv rs nt le kl uy fp fz au : Nat → Int32}
theorem i_vc_grant {k : Nat} {u : SX} {v : SY} (I : i_Rel k u v) (hk : k + 5 ≤ 2561) (v1 : Int32) (v2 : Int32) (v3 : Int32) : wpX_grant (fun r u' => wpY_grant (fun r' v' => r' = r ∧ i_Rel (k + 5) u' v') v v1 v2 v3) u v1 v2 v3 := by
  have I5 := i_up I
  obtain ⟨H, q, tn, sl, pc, wp, yd, nd, he, co, ca, cb, fs, fc, ts, tu, ux, tl, ul, tm, gc, ga, gp, ss, st, sf, tc, tr, ow, ti, fd, ft, fk, fn, fh, fl, fv, rs, nt, le, kl, uy, fp, fz, au, rfl, rfl, a1, a2, a3, a4, a5, a6, a7, a8, a9, a10⟩ := I
  have n0 : ¬ (1 : Int32) = 0 := by decide
  have fin : ∀ (r : Int32) (u' : SX) (v' : SY), i_Rel (k + 5) u' v' → (∀ post : Int32 → SX → Prop, post r u' → wpX_grant post (q, tn, sl, pc, wp, he, co, ca, cb, fs, fc, ts, tu, ux, tl, ul, tm, gc, ga, gp, ss, st, sf, tc, tr, ow, ti, fd, ft, fk, fn, fh, fl, fv, rs, nt) v1 v2 v3) → (∀ post : Int32 → SY → Prop, post r v' → wpY_grant post (q, wp, tn, sl, yd, nd, co, ca, cb, le, he, kl, tu, uy, tl, ul, tm, gc, ga, gp, ss, st, sf, fd, tc, tr, ow, ti, ft, fn, fh, fp, fz, fl, fv, rs, au) v1 v2 v3) →
      wpX_grant (fun r u' => wpY_grant (fun r' v' => r' = r ∧ i_Rel (k + 5) u' v') (q, wp, tn, sl, yd, nd, co, ca, cb, le, he, kl, tu, uy, tl, ul, tm, gc, ga, gp, ss, st, sf, fd, tc, tr, ow, ti, ft, fn, fh, fp, fz, fl, fv, rs, au) v1 v2 v3) (q, tn, sl, pc, wp, he, co, ca, cb, fs, fc, ts, tu, ux, tl, ul, tm, gc, ga, gp, ss, st, sf, tc, tr, ow, ti, fd, ft, fk, fn, fh, fl, fv, rs, nt) v1 v2 v3 := fun r u' v' h1 h2 h3 => h2 _ (h3 _ ⟨rfl, h1⟩)
  rcases ten_c v1 with c | ⟨t, ht, rfl⟩
  · refine fin (-1) _ _ I5 (fun post h => ?_) (fun post h => ?_)
    · unfold wpX_grant; dsimp only
      exact xl_ten0 c (br_t rfl h)
    · unfold wpY_grant; dsimp only
      exact yl_ten0 c (br_t rfl h)
  by_cases c1 : v2 < 1
  · refine fin (-1) _ _ I5 (fun post h => ?_) (fun post h => ?_)
    · unfold wpX_grant; dsimp only
      exact xl_ten1 ht (br_f n0 (br_t c1 h))
    · unfold wpY_grant; dsimp only
      exact yl_ten1 ht (br_f n0 (br_t c1 h))
  have c0 : ¬ v2 < 0 := fun z => c1 (Int32.lt_trans z (by decide))
  obtain ⟨a, ha, rfl⟩ := nI_of c0
  by_cases c2 : a < 16
  · have c2x : ¬ (16 : Int32) ≤ nI a := ix_ge 16 rfl c2 (by decide)
    have c2y : ¬ (15 : Int32) < nI a := nI_nlt (a := 15) (b := a) (by omega) (by decide)
    rcases ix_c v3 (n := 512) (N := 512) (N1 := 511) rfl rfl (by decide) (by decide) with c | ⟨d1, d2, d3, d4, d5⟩ | ⟨m, hm, rfl⟩
    · refine fin (-1) _ _ I5 (fun post h => ?_) (fun post h => ?_)
      · unfold wpX_grant; dsimp only
        refine xl_ten1 ht (br_f n0 (br_f c1 (br_f c2x ?_)))
        exact xp_no (Or.inl c) (br_t rfl h)
      · unfold wpY_grant; dsimp only
        refine yl_ten1 ht (br_f n0 (br_f c1 (br_f c2y ?_)))
        exact yp_no (Or.inl c) (br_t rfl h)
    · refine fin (-1) _ _ I5 (fun post h => ?_) (fun post h => ?_)
      · unfold wpX_grant; dsimp only
        refine xl_ten1 ht (br_f n0 (br_f c1 (br_f c2x ?_)))
        exact xp_no (Or.inr d4) (br_t rfl h)
      · unfold wpY_grant; dsimp only
        refine yl_ten1 ht (br_f n0 (br_f c1 (br_f c2y ?_)))
        exact yp_no (Or.inr d3) (br_t rfl h)
    · by_cases pv : pt_v (pt_d m 0) (pt_d m 1) (pt_d m 2)
      · obtain ⟨g, hg, eg, hq⟩ := a5 t ht
        have ec : (nI t).toNatClampNeg = t := nI_clamp (by omega)
        have e1 : nI t * 6 + nI g = nI (6 * t + g) := ix_r 6 rfl t g
        have e2 : 6 * nI t + nI g = nI (6 * t + g) := ix_l 6 rfl t g
        have vt : vp_in (nI t) 4 := vp_in_nI ht (by decide)
        by_cases cg : g < 6
        · have l6 : nI g < 6 := nI_lt (b := 6) cg (by decide)
          have n6 : ¬ nI g = 6 := ix_ne 6 rfl (by omega) (by omega) (by decide)
          have vi : vp_in (nI (6 * t + g)) 24 := vp_in_nI (by omega) (by decide)
          have e3 : (nI (6 * t + g)).toNatClampNeg = 6 * t + g := nI_clamp (by omega)
          refine fin (nI g) (q, tn, sl, pc, wp, he, co, ca, cb, fs, fc, ts, tu, ux, tl, ul, tm, upd gc t (nI (g + 1)), upd ga (6 * t + g) (nI a), upd gp (6 * t + g) (nI m), ss, st, sf, tc, tr, ow, ti, fd, ft, fk, fn, fh, fl, fv, rs, nt) (q, wp, tn, sl, yd, nd, co, ca, cb, le, he, kl, tu, uy, tl, ul, tm, upd gc t (nI (g + 1)), upd ga (6 * t + g) (nI a), upd gp (6 * t + g) (nI m), ss, st, sf, fd, tc, tr, ow, ti, ft, fn, fh, fp, fz, fl, fv, rs, au) (mk_rel ⟨a1, a2, a3, a4, ?_, a6, a7, a8, a9, rl_nU a10 (by omega)⟩) (fun post h => ?_) (fun post h => ?_)
          · intro s hs
            by_cases cs : s = t
            · subst cs
              refine ⟨g + 1, by omega, pk_us, fun j hj => ?_⟩
              by_cases cj : j = g
              · subst cj
                rw [pk_us]
                exact ⟨m, hm, rfl, pv⟩
              · rw [pk_un (by omega)]
                exact hq j (by omega)
            · obtain ⟨g', h1, h2, h3⟩ := a5 s hs
              refine ⟨g', h1, by rw [pk_un cs]; exact h2, fun j hj => ?_⟩
              rw [pk_un (by omega)]
              exact h3 j hj
          · unfold wpX_grant; dsimp only
            refine xl_ten1 ht (br_f n0 (br_f c1 (br_f c2x ?_)))
            refine xp_ok hm (fun _ => ?_) (fun z => absurd pv z)
            refine br_f n0 ⟨vt, nm_r (e' := nI g) (by rw [ec, eg]) (br_t l6 ?_)⟩
            rw [e1, e3, ec, nI_1]
            exact ⟨vi, nm_e ⟨vi, nm_e ⟨vt, nm_e h⟩⟩⟩
          · unfold wpY_grant; dsimp only
            refine yl_ten1 ht (br_f n0 (br_f c1 (br_f c2y ?_)))
            refine yp_ok hm (fun _ => ?_) (fun z => absurd pv z)
            rw [ec, eg, e2, e3, nI_1]
            exact br_f n0 ⟨vt, br_f n6 ⟨vt, vi, nm_e ⟨vt, vi, nm_e ⟨vt, vt, nm_e h⟩⟩⟩⟩
        · have e6 : g = 6 := by omega
          subst e6
          refine fin (-1) _ _ I5 (fun post h => ?_) (fun post h => ?_)
          · unfold wpX_grant; dsimp only
            refine xl_ten1 ht (br_f n0 (br_f c1 (br_f c2x ?_)))
            refine xp_ok hm (fun _ => ?_) (fun z => absurd pv z)
            exact br_f n0 ⟨vt, nm_r (e' := nI 6) (by rw [ec, eg]) (br_f (by decide) h)⟩
          · unfold wpY_grant; dsimp only
            refine yl_ten1 ht (br_f n0 (br_f c1 (br_f c2y ?_)))
            refine yp_ok hm (fun _ => ?_) (fun z => absurd pv z)
            rw [ec, eg]
            exact br_f n0 ⟨vt, br_t rfl h⟩
      · refine fin (-1) _ _ I5 (fun post h => ?_) (fun post h => ?_)
        · unfold wpX_grant; dsimp only
          refine xl_ten1 ht (br_f n0 (br_f c1 (br_f c2x ?_)))
          exact xp_ok hm (fun z => absurd z pv) (fun _ => br_t rfl h)
        · unfold wpY_grant; dsimp only
          refine yl_ten1 ht (br_f n0 (br_f c1 (br_f c2y ?_)))
          exact yp_ok hm (fun z => absurd z pv) (fun _ => br_t rfl h)
  · refine fin (-1) _ _ I5 (fun post h => ?_) (fun post h => ?_)
    · unfold wpX_grant; dsimp only
      exact xl_ten1 ht (br_f n0 (br_f c1 (br_t (ix_le 16 rfl (by omega) ha) h)))
    · unfold wpY_grant; dsimp only
      exact yl_ten1 ht (br_f n0 (br_f c1 (br_t (nI_lt (a := 15) (by omega) ha) h)))
theorem wd_loop (P : Int32 → Prop) {t g lo : Nat} (ht : t < 4) (hg : g ≤ 6) (h0 : 0 < g) (eg : gc t = nI g) : ∀ d i e : Nat, i + d = e → e = 6 * t + (g - 1) → lo ≤ i → ∀ ga gp : Nat → Int32,
    (∀ j, lo ≤ j → j < i → P (gp j)) → (∀ j, i < j → j ≤ e → P (gp j)) →
    ∃ ga' gp' : Nat → Int32, (∀ j, lo ≤ j → j < e → P (gp' j)) ∧ (∀ j, (j < i ∨ e < j) → gp' j = gp j) ∧
      (∀ post : Int32 → SX → Prop, post 1 (q, tn, sl, pc, wp, he, co, ca, cb, fs, fc, ts, tu, ux, tl, ul, tm, upd gc t (nI (g - 1)), ga', gp', ss, st, sf, tc, tr, ow, ti, fd, ft, fk, fn, fh, fl, fv, rs, nt) → wX_withdraw_45 post (nI t) (nI e) q tn sl pc wp (d + 1) (nI i) he co ca cb fs fc ts tu ux tl ul tm gc ga gp ss st sf tc tr ow ti fd ft fk fn fh fl fv rs nt) ∧
      (∀ post : Int32 → SY → Prop, post 1 (q, wp, tn, sl, yd, nd, co, ca, cb, le, he, kl, tu, uy, tl, ul, tm, upd gc t (nI (g - 1)), ga', gp', ss, st, sf, fd, tc, tr, ow, ti, ft, fn, fh, fp, fz, fl, fv, rs, au) → wY_withdraw_41 post (nI t) q wp tn sl yd nd (d + 1) (nI i) co ca cb le he kl tu uy tl ul tm (upd gc t (nI (g - 1))) ga gp ss st sf fd tc tr ow ti ft fn fh fp fz fl fv rs au) := by
  have ec : (nI t).toNatClampNeg = t := nI_clamp (by omega)
  have vt : vp_in (nI t) 4 := vp_in_nI ht (by decide)
  have eY : 6 * nI t + nI (g - 1) = nI (6 * t + (g - 1)) := ix_l 6 rfl t (g - 1)
  intro d
  induction d with
  | zero =>
    intro i e hi he hlo ga gp p1 p2
    have hie : i = e := by omega
    subst hie
    refine ⟨ga, gp, p1, fun _ _ => rfl, fun post hp => ?_, fun post hp => ?_⟩
    · refine br_t (nI_le (Nat.le_refl _) (by omega)) ⟨vt, vt, nm_r (e' := upd gc t (nI (g - 1))) ?_ hp⟩
      rw [ec, eg, ix_p h0]
    · refine ⟨vt, br_t ?_ hp⟩
      rw [ec, pk_us, eY, he]
      exact nI_le (Nat.le_refl _) (by omega)
  | succ d ih =>
    intro i e hi he hlo ga gp p1 p2
    have ei : (nI i).toNatClampNeg = i := nI_clamp (by omega)
    have ei1 : (nI (i + 1)).toNatClampNeg = i + 1 := nI_clamp (by omega)
    have vi : vp_in (nI i) 24 := vp_in_nI (by omega) (by decide)
    have vi1 : vp_in (nI (i + 1)) 24 := vp_in_nI (by omega) (by decide)
    have cl : ¬ nI e ≤ nI i := nI_ge (by omega) (by omega)
    obtain ⟨ga', gp', r1, r2, r3, r4⟩ := ih (i + 1) e (by omega) he (by omega) (upd ga i (ga (i + 1))) (upd gp i (gp (i + 1)))
      (fun j h1 h2 => by
        by_cases cj : j = i
        · subst cj; rw [pk_us]; exact p2 (j + 1) (by omega) (by omega)
        · rw [pk_un cj]; exact p1 j h1 (by omega))
      (fun j h1 h2 => by rw [pk_un (by omega)]; exact p2 j (by omega) h2)
    refine ⟨ga', gp', r1, fun j hj => ?_, fun post hp => ?_, fun post hp => ?_⟩
    · rw [r2 j (by omega), pk_un (by omega)]
    · have z := r3 post hp
      rw [← nI_1] at z vi1 ei1
      refine br_f cl ⟨vi1, vi, nm_r (e' := upd ga i (ga (i + 1))) (by rw [ei, ei1]) ⟨vi1, vi, nm_r (e' := upd gp i (gp (i + 1))) (by rw [ei, ei1]) (nm_e z)⟩⟩
    · have z := r4 post hp
      rw [← nI_1] at z vi1 ei1
      refine ⟨vt, br_f ?_ ⟨vi1, vi, nm_r (e' := upd ga i (ga (i + 1))) (by rw [ei, ei1]) ⟨vi1, vi, nm_r (e' := upd gp i (gp (i + 1))) (by rw [ei, ei1]) (nm_e z)⟩⟩⟩
      rw [ec, pk_us, eY, ← he]
      exact cl
theorem i_vc_withdraw {k : Nat} {u : SX} {v : SY} (I : i_Rel k u v) (hk : k + 5 ≤ 2561) (v1 : Int32) (v2 : Int32) : wpX_withdraw (fun r u' => wpY_withdraw (fun r' v' => r' = r ∧ i_Rel (k + 5) u' v') v v1 v2) u v1 v2 := by
  have I5 := i_up I
  obtain ⟨H, q, tn, sl, pc, wp, yd, nd, he, co, ca, cb, fs, fc, ts, tu, ux, tl, ul, tm, gc, ga, gp, ss, st, sf, tc, tr, ow, ti, fd, ft, fk, fn, fh, fl, fv, rs, nt, le, kl, uy, fp, fz, au, rfl, rfl, a1, a2, a3, a4, a5, a6, a7, a8, a9, a10⟩ := I
  have n0 : ¬ (1 : Int32) = 0 := by decide
  have fin : ∀ (r : Int32) (u' : SX) (v' : SY), i_Rel (k + 5) u' v' → (∀ post : Int32 → SX → Prop, post r u' → wpX_withdraw post (q, tn, sl, pc, wp, he, co, ca, cb, fs, fc, ts, tu, ux, tl, ul, tm, gc, ga, gp, ss, st, sf, tc, tr, ow, ti, fd, ft, fk, fn, fh, fl, fv, rs, nt) v1 v2) → (∀ post : Int32 → SY → Prop, post r v' → wpY_withdraw post (q, wp, tn, sl, yd, nd, co, ca, cb, le, he, kl, tu, uy, tl, ul, tm, gc, ga, gp, ss, st, sf, fd, tc, tr, ow, ti, ft, fn, fh, fp, fz, fl, fv, rs, au) v1 v2) →
      wpX_withdraw (fun r u' => wpY_withdraw (fun r' v' => r' = r ∧ i_Rel (k + 5) u' v') (q, wp, tn, sl, yd, nd, co, ca, cb, le, he, kl, tu, uy, tl, ul, tm, gc, ga, gp, ss, st, sf, fd, tc, tr, ow, ti, ft, fn, fh, fp, fz, fl, fv, rs, au) v1 v2) (q, tn, sl, pc, wp, he, co, ca, cb, fs, fc, ts, tu, ux, tl, ul, tm, gc, ga, gp, ss, st, sf, tc, tr, ow, ti, fd, ft, fk, fn, fh, fl, fv, rs, nt) v1 v2 := fun r u' v' h1 h2 h3 => h2 _ (h3 _ ⟨rfl, h1⟩)
  rcases ten_c v1 with c | ⟨t, ht, rfl⟩
  · refine fin 0 _ _ I5 (fun post h => ?_) (fun post h => ?_)
    · unfold wpX_withdraw; dsimp only
      exact xl_ten0 c (br_t rfl h)
    · unfold wpY_withdraw; dsimp only
      exact yl_ten0 c (br_t rfl h)
  by_cases c1 : v2 < 0
  · refine fin 0 _ _ I5 (fun post h => ?_) (fun post h => ?_)
    · unfold wpX_withdraw; dsimp only
      exact xl_ten1 ht (br_f n0 (br_t c1 h))
    · unfold wpY_withdraw; dsimp only
      exact yl_ten1 ht (br_f n0 (br_t c1 h))
  obtain ⟨g, hg, eg, hq⟩ := a5 t ht
  have ec : (nI t).toNatClampNeg = t := nI_clamp (by omega)
  have vt : vp_in (nI t) 4 := vp_in_nI ht (by decide)
  obtain ⟨j, hj, rfl⟩ := nI_of c1
  by_cases c2 : j < g
  · have l : nI j < gc (nI t).toNatClampNeg := by rw [ec, eg]; exact nI_lt c2 (by omega)
    obtain ⟨ga', gp', r1, r2, r3, r4⟩ := wd_loop (q := q) (tn := tn) (sl := sl) (pc := pc) (wp := wp) (yd := yd) (nd := nd) (he := he) (co := co) (ca := ca) (cb := cb) (fs := fs) (fc := fc) (ts := ts) (tu := tu) (ux := ux) (tl := tl) (ul := ul) (tm := tm) (gc := gc) (ss := ss) (st := st) (sf := sf) (tc := tc) (tr := tr) (ow := ow) (ti := ti) (fd := fd) (ft := ft) (fk := fk) (fn := fn) (fh := fh) (fl := fl) (fv := fv) (rs := rs) (nt := nt) (le := le) (kl := kl) (uy := uy) (fp := fp) (fz := fz) (au := au) pt_ok (t := t) (g := g) (lo := 6 * t) ht hg (by omega) eg (g - 1 - j) (6 * t + j) (6 * t + (g - 1)) (by omega) rfl (by omega) ga gp
      (fun i h1 h2 => by
        have := hq (i - 6 * t) (by omega)
        rwa [show 6 * t + (i - 6 * t) = i by omega] at this)
      (fun i h1 h2 => by
        have := hq (i - 6 * t) (by omega)
        rwa [show 6 * t + (i - 6 * t) = i by omega] at this)
    refine fin 1 (q, tn, sl, pc, wp, he, co, ca, cb, fs, fc, ts, tu, ux, tl, ul, tm, upd gc t (nI (g - 1)), ga', gp', ss, st, sf, tc, tr, ow, ti, fd, ft, fk, fn, fh, fl, fv, rs, nt) (q, wp, tn, sl, yd, nd, co, ca, cb, le, he, kl, tu, uy, tl, ul, tm, upd gc t (nI (g - 1)), ga', gp', ss, st, sf, fd, tc, tr, ow, ti, ft, fn, fh, fp, fz, fl, fv, rs, au) (mk_rel ⟨a1, a2, a3, a4, ?_, a6, a7, a8, a9, rl_nU a10 (by omega)⟩) (fun post h => ?_) (fun post h => ?_)
    case refine_2 =>
      unfold wpX_withdraw; dsimp only
      refine xl_ten1 ht (br_f n0 (br_f c1 ⟨vt, br_t l ⟨vt, nm_r (e' := nI (6 * t + (g - 1))) ?_ (nm_r (e' := nI (6 * t + j)) (ix_r 6 rfl t j) ⟨_, r3 _ h⟩)⟩⟩))
      rw [ec, eg, ix_r (M := 6) 6 rfl, ix_p (by omega)]
      exact congrArg nI (by omega)
    case refine_3 =>
      unfold wpY_withdraw; dsimp only
      exact yl_ten1 ht (br_f n0 (br_f c1 ⟨vt, br_t l ⟨vt, vt, nm_r (e' := upd gc t (nI (g - 1))) (by rw [ec, eg, ix_p (by omega)]) (nm_r (e' := nI (6 * t + j)) (ix_l 6 rfl t j) ⟨_, r4 _ h⟩)⟩⟩))
    intro s hs
    by_cases cs : s = t
    · subst cs
      exact ⟨g - 1, by omega, pk_us, fun i hi => r1 _ (by omega) (by omega)⟩
    · obtain ⟨g', h1, h2, h3⟩ := a5 s hs
      refine ⟨g', h1, by rw [pk_un cs]; exact h2, fun i hi => ?_⟩
      rw [r2 _ (by omega)]
      exact h3 i hi
  · have l : ¬ nI j < gc (nI t).toNatClampNeg := by rw [ec, eg]; exact nI_nlt (by omega) hj
    refine fin 0 _ _ I5 (fun post h => ?_) (fun post h => ?_)
    · unfold wpX_withdraw; dsimp only
      exact xl_ten1 ht (br_f n0 (br_f c1 ⟨vt, br_f l h⟩))
    · unfold wpY_withdraw; dsimp only
      exact yl_ten1 ht (br_f n0 (br_f c1 ⟨vt, br_f l h⟩))
theorem lm_c (x : Int32) : (∀ post : Int32 → Prop, post 0 → wpX_isLimit post x) ∧ (∀ (post : Int32 → Prop) (v : SY), post 0 → wpY_limit post v x) ∨ (∀ post : Int32 → Prop, post 1 → wpX_isLimit post x) ∧ (∀ (post : Int32 → Prop) (v : SY), post 1 → wpY_limit post v x) := by
  by_cases c : x < 0
  · exact Or.inl ⟨fun _ h => br_t c h, fun _ _ h => br_t c h⟩
  · by_cases c2 : (1000000 : Int32) < x
    · exact Or.inl ⟨fun _ h => br_f c (br_t c2 h), fun _ _ h => br_f c (br_t c2 h)⟩
    · exact Or.inr ⟨fun _ h => br_f c (br_f c2 h), fun _ _ h => br_f c (br_f c2 h)⟩
theorem sl_a {post : Int32 → Prop} {p : Int32} (c : p < 0) (h : post 0) : wpX_isSlot post p := br_t c h
theorem sl_b {post : Int32 → Prop} {p : Int32} (c : ¬ p < 0) (d : (4 : Int32) ≤ p) (h : post 0) : wpX_isSlot post p := br_f c (br_t d h)
theorem sl_c {post : Int32 → Prop} {p : Int32} (c : ¬ p < 0) (d : ¬ (4 : Int32) ≤ p) (h : post 1) : wpX_isSlot post p := br_f c (br_f d h)
theorem i_vc_limits {k : Nat} {u : SX} {v : SY} (I : i_Rel k u v) (hk : k + 5 ≤ 2561) (v1 : Int32) (v2 : Int32) (v3 : Int32) (v4 : Int32) : wpX_limits (fun r u' => wpY_limits (fun r' v' => r' = r ∧ i_Rel (k + 5) u' v') v v1 v2 v3 v4) u v1 v2 v3 v4 := by
  have I5 := i_up I
  obtain ⟨H, q, tn, sl, pc, wp, yd, nd, he, co, ca, cb, fs, fc, ts, tu, ux, tl, ul, tm, gc, ga, gp, ss, st, sf, tc, tr, ow, ti, fd, ft, fk, fn, fh, fl, fv, rs, nt, le, kl, uy, fp, fz, au, rfl, rfl, a1, a2, a3, a4, a5, a6, a7, a8, a9, a10⟩ := I
  have n0 : ¬ (1 : Int32) = 0 := by decide
  have fin : ∀ (r : Int32) (u' : SX) (v' : SY), i_Rel (k + 5) u' v' → (∀ post : Int32 → SX → Prop, post r u' → wpX_limits post (q, tn, sl, pc, wp, he, co, ca, cb, fs, fc, ts, tu, ux, tl, ul, tm, gc, ga, gp, ss, st, sf, tc, tr, ow, ti, fd, ft, fk, fn, fh, fl, fv, rs, nt) v1 v2 v3 v4) → (∀ post : Int32 → SY → Prop, post r v' → wpY_limits post (q, wp, tn, sl, yd, nd, co, ca, cb, le, he, kl, tu, uy, tl, ul, tm, gc, ga, gp, ss, st, sf, fd, tc, tr, ow, ti, ft, fn, fh, fp, fz, fl, fv, rs, au) v1 v2 v3 v4) →
      wpX_limits (fun r u' => wpY_limits (fun r' v' => r' = r ∧ i_Rel (k + 5) u' v') (q, wp, tn, sl, yd, nd, co, ca, cb, le, he, kl, tu, uy, tl, ul, tm, gc, ga, gp, ss, st, sf, fd, tc, tr, ow, ti, ft, fn, fh, fp, fz, fl, fv, rs, au) v1 v2 v3 v4) (q, tn, sl, pc, wp, he, co, ca, cb, fs, fc, ts, tu, ux, tl, ul, tm, gc, ga, gp, ss, st, sf, tc, tr, ow, ti, fd, ft, fk, fn, fh, fl, fv, rs, nt) v1 v2 v3 v4 := fun r u' v' h1 h2 h3 => h2 _ (h3 _ ⟨rfl, h1⟩)
  rcases ten_c v1 with c | ⟨t, ht, rfl⟩
  · refine fin 0 _ _ I5 (fun post h => ?_) (fun post h => ?_)
    · unfold wpX_limits; dsimp only
      exact xl_ten0 c (br_t rfl h)
    · unfold wpY_limits; dsimp only
      exact yl_ten0 c (br_t rfl h)
  have vt : vp_in (nI t) 4 := vp_in_nI ht (by decide)
  rcases lm_c v2 with ⟨x2, y2⟩ | ⟨x2, y2⟩
  · refine fin 0 _ _ I5 (fun post h => ?_) (fun post h => ?_)
    · unfold wpX_limits; dsimp only
      exact xl_ten1 ht (br_f n0 (x2 _ (br_t rfl h)))
    · unfold wpY_limits; dsimp only
      exact yl_ten1 ht (br_f n0 (y2 _ _ (br_t rfl h)))
  rcases lm_c v3 with ⟨x3, y3⟩ | ⟨x3, y3⟩
  · refine fin 0 _ _ I5 (fun post h => ?_) (fun post h => ?_)
    · unfold wpX_limits; dsimp only
      exact xl_ten1 ht (br_f n0 (x2 _ (br_f n0 (x3 _ (br_t rfl h)))))
    · unfold wpY_limits; dsimp only
      exact yl_ten1 ht (br_f n0 (y2 _ _ (br_f n0 (y3 _ _ (br_t rfl h)))))
  rcases lm_c v4 with ⟨x4, y4⟩ | ⟨x4, y4⟩
  · refine fin 0 _ _ I5 (fun post h => ?_) (fun post h => ?_)
    · unfold wpX_limits; dsimp only
      exact xl_ten1 ht (br_f n0 (x2 _ (br_f n0 (x3 _ (br_f n0 (x4 _ (br_t rfl h)))))))
    · unfold wpY_limits; dsimp only
      exact yl_ten1 ht (br_f n0 (y2 _ _ (br_f n0 (y3 _ _ (br_f n0 (y4 _ _ (br_t rfl h)))))))
  have ec : (nI t).toNatClampNeg = t := nI_clamp (by omega)
  refine fin 1 (q, tn, sl, pc, wp, he, co, ca, cb, fs, fc, ts, tu, ux, upd tl t v2, upd ul t v3, upd tm t v4, gc, ga, gp, ss, st, sf, tc, tr, ow, ti, fd, ft, fk, fn, fh, fl, fv, rs, nt) (q, wp, tn, sl, yd, nd, co, ca, cb, le, he, kl, tu, uy, upd tl t v2, upd ul t v3, upd tm t v4, gc, ga, gp, ss, st, sf, fd, tc, tr, ow, ti, ft, fn, fh, fp, fz, fl, fv, rs, au) (mk_rel ⟨a1, a2, a3, a4, a5, a6, a7, a8, a9, rl_nU a10 (by omega)⟩) (fun post h => ?_) (fun post h => ?_)
  · unfold wpX_limits; dsimp only
    exact xl_ten1 ht (br_f n0 (x2 _ (br_f n0 (x3 _ (br_f n0 (x4 _ (br_f n0 ⟨vt, nm_r (by rw [ec]) ⟨vt, nm_r (by rw [ec]) ⟨vt, nm_r (by rw [ec]) h⟩⟩⟩)))))))
  · unfold wpY_limits; dsimp only
    exact yl_ten1 ht (br_f n0 (y2 _ _ (br_f n0 (y3 _ _ (br_f n0 (y4 _ _ (br_f n0 ⟨vt, nm_r (by rw [ec]) ⟨vt, nm_r (by rw [ec]) ⟨vt, nm_r (by rw [ec]) h⟩⟩⟩)))))))
theorem i_vc_capability {k : Nat} {u : SX} {v : SY} (I : i_Rel k u v) (hk : k + 5 ≤ 2561) (v1 : Int32) (v2 : Int32) (v3 : Int32) (v4 : Int32) : wpX_capability (fun r u' => wpY_capability (fun r' v' => r' = r ∧ i_Rel (k + 5) u' v') v v1 v2 v3 v4) u v1 v2 v3 v4 := by
  have I5 := i_up I
  obtain ⟨H, q, tn, sl, pc, wp, yd, nd, he, co, ca, cb, fs, fc, ts, tu, ux, tl, ul, tm, gc, ga, gp, ss, st, sf, tc, tr, ow, ti, fd, ft, fk, fn, fh, fl, fv, rs, nt, le, kl, uy, fp, fz, au, rfl, rfl, a1, a2, a3, a4, a5, a6, a7, a8, a9, a10⟩ := I
  have n0 : ¬ (1 : Int32) = 0 := by decide
  have fin : ∀ (r : Int32) (u' : SX) (v' : SY), i_Rel (k + 5) u' v' → (∀ post : Int32 → SX → Prop, post r u' → wpX_capability post (q, tn, sl, pc, wp, he, co, ca, cb, fs, fc, ts, tu, ux, tl, ul, tm, gc, ga, gp, ss, st, sf, tc, tr, ow, ti, fd, ft, fk, fn, fh, fl, fv, rs, nt) v1 v2 v3 v4) → (∀ post : Int32 → SY → Prop, post r v' → wpY_capability post (q, wp, tn, sl, yd, nd, co, ca, cb, le, he, kl, tu, uy, tl, ul, tm, gc, ga, gp, ss, st, sf, fd, tc, tr, ow, ti, ft, fn, fh, fp, fz, fl, fv, rs, au) v1 v2 v3 v4) →
      wpX_capability (fun r u' => wpY_capability (fun r' v' => r' = r ∧ i_Rel (k + 5) u' v') (q, wp, tn, sl, yd, nd, co, ca, cb, le, he, kl, tu, uy, tl, ul, tm, gc, ga, gp, ss, st, sf, fd, tc, tr, ow, ti, ft, fn, fh, fp, fz, fl, fv, rs, au) v1 v2 v3 v4) (q, tn, sl, pc, wp, he, co, ca, cb, fs, fc, ts, tu, ux, tl, ul, tm, gc, ga, gp, ss, st, sf, tc, tr, ow, ti, fd, ft, fk, fn, fh, fl, fv, rs, nt) v1 v2 v3 v4 := fun r u' v' h1 h2 h3 => h2 _ (h3 _ ⟨rfl, h1⟩)
  rcases ten_c v1 with c | ⟨t, ht, rfl⟩
  · refine fin 0 _ _ I5 (fun post h => ?_) (fun post h => ?_)
    · unfold wpX_capability; dsimp only
      exact xl_ten0 c (br_t rfl h)
    · unfold wpY_capability; dsimp only
      exact yl_ten0 c (br_t rfl h)
  rcases ix_c v2 (n := 4) (N := 4) (N1 := 3) rfl rfl (by decide) (by decide) with c | ⟨d1, d2, d3, d4, d5⟩ | ⟨s, hs, rfl⟩
  · refine fin 0 _ _ I5 (fun post h => ?_) (fun post h => ?_)
    · unfold wpX_capability; dsimp only
      exact xl_ten1 ht (br_f n0 (sl_a c (br_t rfl h)))
    · unfold wpY_capability; dsimp only
      exact yl_ten1 ht (br_f n0 (br_t c h))
  · refine fin 0 _ _ I5 (fun post h => ?_) (fun post h => ?_)
    · unfold wpX_capability; dsimp only
      exact xl_ten1 ht (br_f n0 (sl_b d1 d2 (br_t rfl h)))
    · unfold wpY_capability; dsimp only
      exact yl_ten1 ht (br_f n0 (br_f d1 (br_t d3 h)))
  obtain ⟨f1, f2, f3, f4, f5⟩ := ix_f (N := 4) (N1 := 3) rfl rfl hs (by decide)
  rcases ten_c v3 with c | ⟨w, hw, rfl⟩
  · refine fin 0 _ _ I5 (fun post h => ?_) (fun post h => ?_)
    · unfold wpX_capability; dsimp only
      exact xl_ten1 ht (br_f n0 (sl_c f1 f2 (br_f n0 (xl_ten0 c (br_t rfl h)))))
    · unfold wpY_capability; dsimp only
      exact yl_ten1 ht (br_f n0 (br_f f1 (br_f f3 (yl_ten0 c (br_t rfl h)))))
  rcases ix_c v4 (n := 4) (N := 4) (N1 := 3) rfl rfl (by decide) (by decide) with c | ⟨d1, d2, d3, d4, d5⟩ | ⟨f, hf, rfl⟩
  · refine fin 0 _ _ I5 (fun post h => ?_) (fun post h => ?_)
    · unfold wpX_capability; dsimp only
      exact xl_ten1 ht (br_f n0 (sl_c f1 f2 (br_f n0 (xl_ten1 hw (br_f n0 (br_t c h))))))
    · unfold wpY_capability; dsimp only
      exact yl_ten1 ht (br_f n0 (br_f f1 (br_f f3 (yl_ten1 hw (br_f n0 (br_t c h))))))
  · refine fin 0 _ _ I5 (fun post h => ?_) (fun post h => ?_)
    · unfold wpX_capability; dsimp only
      exact xl_ten1 ht (br_f n0 (sl_c f1 f2 (br_f n0 (xl_ten1 hw (br_f n0 (br_f d1 (br_f d4 h)))))))
    · unfold wpY_capability; dsimp only
      exact yl_ten1 ht (br_f n0 (br_f f1 (br_f f3 (yl_ten1 hw (br_f n0 (br_f d1 (br_f d5 h)))))))
  obtain ⟨g1, g2, g3, g4, g5⟩ := ix_f (N := 4) (N1 := 3) rfl rfl hf (by decide)
  have e1 : nI t * 4 + nI s = nI (4 * t + s) := ix_r 4 rfl t s
  have e2 : 4 * nI t + nI s = nI (4 * t + s) := ix_l 4 rfl t s
  have e3 : (nI (4 * t + s)).toNatClampNeg = 4 * t + s := nI_clamp (by omega)
  have vi : vp_in (nI (4 * t + s)) 16 := vp_in_nI (by omega) (by decide)
  refine fin 1 (q, tn, sl, pc, wp, he, co, ca, cb, fs, fc, ts, tu, ux, tl, ul, tm, gc, ga, gp, upd ss (4 * t + s) 1, upd st (4 * t + s) (nI w), upd sf (4 * t + s) (nI f), tc, tr, ow, ti, fd, ft, fk, fn, fh, fl, fv, rs, nt) (q, wp, tn, sl, yd, nd, co, ca, cb, le, he, kl, tu, uy, tl, ul, tm, gc, ga, gp, upd ss (4 * t + s) 1, upd st (4 * t + s) (nI w), upd sf (4 * t + s) (nI f), fd, tc, tr, ow, ti, ft, fn, fh, fp, fz, fl, fv, rs, au) (mk_rel ⟨a1, a2, a3, a4, a5, ?_, a7, a8, a9, rl_nU a10 (by omega)⟩) (fun post h => ?_) (fun post h => ?_)
  · intro j hj
    by_cases cj : j = 4 * t + s
    · subst cj
      rw [pk_us, pk_us]
      exact ⟨⟨w, hw, rfl⟩, ⟨f, hf, rfl⟩⟩
    · rw [pk_un cj, pk_un cj]
      exact a6 j hj
  · unfold wpX_capability; dsimp only
    refine xl_ten1 ht (br_f n0 (sl_c f1 f2 (br_f n0 (xl_ten1 hw (br_f n0 (br_f g1 (br_t g4 (nm_r e1 ?_))))))))
    rw [e3]
    exact ⟨vi, nm_e ⟨vi, nm_e ⟨vi, nm_e h⟩⟩⟩
  · unfold wpY_capability; dsimp only
    refine yl_ten1 ht (br_f n0 (br_f f1 (br_f f3 (yl_ten1 hw (br_f n0 (br_f g1 (br_t g5 ?_)))))))
    rw [e2, e3]
    exact ⟨vi, nm_e ⟨vi, nm_e ⟨vi, nm_e h⟩⟩⟩
theorem i_vc_revoke {k : Nat} {u : SX} {v : SY} (I : i_Rel k u v) (hk : k + 5 ≤ 2561) (v1 : Int32) (v2 : Int32) : wpX_revoke (fun r u' => wpY_revoke (fun r' v' => r' = r ∧ i_Rel (k + 5) u' v') v v1 v2) u v1 v2 := by
  have I5 := i_up I
  obtain ⟨H, q, tn, sl, pc, wp, yd, nd, he, co, ca, cb, fs, fc, ts, tu, ux, tl, ul, tm, gc, ga, gp, ss, st, sf, tc, tr, ow, ti, fd, ft, fk, fn, fh, fl, fv, rs, nt, le, kl, uy, fp, fz, au, rfl, rfl, a1, a2, a3, a4, a5, a6, a7, a8, a9, a10⟩ := I
  have n0 : ¬ (1 : Int32) = 0 := by decide
  have fin : ∀ (r : Int32) (u' : SX) (v' : SY), i_Rel (k + 5) u' v' → (∀ post : Int32 → SX → Prop, post r u' → wpX_revoke post (q, tn, sl, pc, wp, he, co, ca, cb, fs, fc, ts, tu, ux, tl, ul, tm, gc, ga, gp, ss, st, sf, tc, tr, ow, ti, fd, ft, fk, fn, fh, fl, fv, rs, nt) v1 v2) → (∀ post : Int32 → SY → Prop, post r v' → wpY_revoke post (q, wp, tn, sl, yd, nd, co, ca, cb, le, he, kl, tu, uy, tl, ul, tm, gc, ga, gp, ss, st, sf, fd, tc, tr, ow, ti, ft, fn, fh, fp, fz, fl, fv, rs, au) v1 v2) →
      wpX_revoke (fun r u' => wpY_revoke (fun r' v' => r' = r ∧ i_Rel (k + 5) u' v') (q, wp, tn, sl, yd, nd, co, ca, cb, le, he, kl, tu, uy, tl, ul, tm, gc, ga, gp, ss, st, sf, fd, tc, tr, ow, ti, ft, fn, fh, fp, fz, fl, fv, rs, au) v1 v2) (q, tn, sl, pc, wp, he, co, ca, cb, fs, fc, ts, tu, ux, tl, ul, tm, gc, ga, gp, ss, st, sf, tc, tr, ow, ti, fd, ft, fk, fn, fh, fl, fv, rs, nt) v1 v2 := fun r u' v' h1 h2 h3 => h2 _ (h3 _ ⟨rfl, h1⟩)
  rcases ten_c v1 with c | ⟨t, ht, rfl⟩
  · refine fin 0 _ _ I5 (fun post h => ?_) (fun post h => ?_)
    · unfold wpX_revoke; dsimp only
      exact xl_ten0 c (br_t rfl h)
    · unfold wpY_revoke; dsimp only
      exact yl_ten0 c (br_t rfl h)
  rcases ix_c v2 (n := 4) (N := 4) (N1 := 3) rfl rfl (by decide) (by decide) with c | ⟨d1, d2, d3, d4, d5⟩ | ⟨s, hs, rfl⟩
  · refine fin 0 _ _ I5 (fun post h => ?_) (fun post h => ?_)
    · unfold wpX_revoke; dsimp only
      exact xl_ten1 ht (br_f n0 (sl_a c (br_t rfl h)))
    · unfold wpY_revoke; dsimp only
      exact yl_ten1 ht (br_f n0 (br_t c h))
  · refine fin 0 _ _ I5 (fun post h => ?_) (fun post h => ?_)
    · unfold wpX_revoke; dsimp only
      exact xl_ten1 ht (br_f n0 (sl_b d1 d2 (br_t rfl h)))
    · unfold wpY_revoke; dsimp only
      exact yl_ten1 ht (br_f n0 (br_f d1 (br_t d3 h)))
  obtain ⟨f1, f2, f3, f4, f5⟩ := ix_f (N := 4) (N1 := 3) rfl rfl hs (by decide)
  have e1 : nI t * 4 + nI s = nI (4 * t + s) := ix_r 4 rfl t s
  have e2 : 4 * nI t + nI s = nI (4 * t + s) := ix_l 4 rfl t s
  have e3 : (nI (4 * t + s)).toNatClampNeg = 4 * t + s := nI_clamp (by omega)
  have vi : vp_in (nI (4 * t + s)) 16 := vp_in_nI (by omega) (by decide)
  by_cases c : ss (4 * t + s) = 1
  · refine fin 1 (q, tn, sl, pc, wp, he, co, ca, cb, fs, fc, ts, tu, ux, tl, ul, tm, gc, ga, gp, upd ss (4 * t + s) 2, st, sf, tc, tr, ow, ti, fd, ft, fk, fn, fh, fl, fv, rs, nt) (q, wp, tn, sl, yd, nd, co, ca, cb, le, he, kl, tu, uy, tl, ul, tm, gc, ga, gp, upd ss (4 * t + s) 2, st, sf, fd, tc, tr, ow, ti, ft, fn, fh, fp, fz, fl, fv, rs, au) (mk_rel ⟨a1, a2, a3, a4, a5, a6, a7, a8, a9, rl_nU a10 (by omega)⟩) (fun post h => ?_) (fun post h => ?_)
    · unfold wpX_revoke; dsimp only
      refine xl_ten1 ht (br_f n0 (sl_c f1 f2 (br_f n0 ?_)))
      rw [e1, e3]
      exact ⟨vi, br_t c ⟨vi, nm_e h⟩⟩
    · unfold wpY_revoke; dsimp only
      refine yl_ten1 ht (br_f n0 (br_f f1 (br_f f3 ?_)))
      rw [e2, e3]
      exact ⟨vi, br_t c ⟨vi, nm_e h⟩⟩
  · refine fin 0 _ _ I5 (fun post h => ?_) (fun post h => ?_)
    · unfold wpX_revoke; dsimp only
      refine xl_ten1 ht (br_f n0 (sl_c f1 f2 (br_f n0 ?_)))
      rw [e1, e3]
      exact ⟨vi, br_f c h⟩
    · unfold wpY_revoke; dsimp only
      refine yl_ten1 ht (br_f n0 (br_f f1 (br_f f3 ?_)))
      rw [e2, e3]
      exact ⟨vi, br_f c h⟩
end
end
section
def in_4 (w : Int32) : Nat → Int32 := upd (upd (upd (upd (fun _ => 0) 0 w) 1 w) 2 w) 3 w
def in_6 (w : Int32) : Nat → Int32 := upd (upd (upd (upd (upd (upd (fun _ => 0) 0 w) 1 w) 2 w) 3 w) 4 w) 5 w
def in_8 (w : Int32) : Nat → Int32 := upd (upd (upd (upd (upd (upd (upd (upd (fun _ => 0) 0 w) 1 w) 2 w) 3 w) 4 w) 5 w) 6 w) 7 w
section
variable {q tn sl pc wp yd nd : Int32} {he co ca cb fs fc ts tu ux tl ul tm gc ga gp ss st sf tc tr ow ti fd ft fk fn fh fl fv rs nt le kl uy fp fz au : Nat → Int32}
theorem xi_a {post : SX → Prop} {n i : Nat} (hi : i < 4) (h : wX_init_296 post q tn sl pc wp n (nI (i + 1)) he co ca cb fs fc ts tu ux (upd tl i 1000) (upd ul i 100) (upd tm i 3) gc ga gp ss st sf tc tr ow ti fd ft fk fn fh fl fv rs nt) : wX_init_296 post q tn sl pc wp (n + 1) (nI i) he co ca cb fs fc ts tu ux tl ul tm gc ga gp ss st sf tc tr ow ti fd ft fk fn fh fl fv rs nt := by
  have ec : (nI i).toNatClampNeg = i := nI_clamp (by omega)
  have vi : vp_in (nI i) 4 := vp_in_nI hi (by decide)
  exact br_f (ix_ge 4 rfl hi (by decide)) ⟨vi, nm_r (by rw [ec]) ⟨vi, nm_r (by rw [ec]) ⟨vi, nm_r (by rw [ec]) (nm_r (nI_1 i) h)⟩⟩⟩
theorem xi_b {post : SX → Prop} {n i : Nat} (hi : i < 6) (h : wX_init_333 post q tn sl pc wp n (nI (i + 1)) he co ca cb fs fc ts tu ux tl ul tm gc ga gp ss st sf (upd tc i (-2)) tr ow ti fd ft fk fn fh fl fv rs nt) : wX_init_333 post q tn sl pc wp (n + 1) (nI i) he co ca cb fs fc ts tu ux tl ul tm gc ga gp ss st sf tc tr ow ti fd ft fk fn fh fl fv rs nt := by
  have ec : (nI i).toNatClampNeg = i := nI_clamp (by omega)
  have vi : vp_in (nI i) 6 := vp_in_nI hi (by decide)
  exact br_f (ix_ge 6 rfl hi (by decide)) ⟨vi, nm_r (by rw [ec]) (nm_r (nI_1 i) h)⟩
theorem xi_c {post : SX → Prop} {n i : Nat} (hi : i < 8) (h : wX_init_355 post q tn sl pc wp n (nI (i + 1)) he co ca cb fs fc ts tu ux tl ul tm gc ga gp ss st sf tc tr ow ti fd ft fk fn fh fl fv rs (upd nt i (-1))) : wX_init_355 post q tn sl pc wp (n + 1) (nI i) he co ca cb fs fc ts tu ux tl ul tm gc ga gp ss st sf tc tr ow ti fd ft fk fn fh fl fv rs nt := by
  have ec : (nI i).toNatClampNeg = i := nI_clamp (by omega)
  have vi : vp_in (nI i) 8 := vp_in_nI hi (by decide)
  exact br_f (ix_ge 8 rfl hi (by decide)) ⟨vi, nm_r (by rw [ec]) (nm_r (nI_1 i) h)⟩
theorem yi_a {post : SY → Prop} {n i : Nat} (hi : i < 4) (h : wY_init_281 post q wp tn sl yd nd n (nI (i + 1)) co ca cb le he kl tu uy (upd tl i 1000) (upd ul i 100) (upd tm i 3) gc ga gp ss st sf fd tc tr ow ti ft fn fh fp fz fl fv rs au) : wY_init_281 post q wp tn sl yd nd (n + 1) (nI i) co ca cb le he kl tu uy tl ul tm gc ga gp ss st sf fd tc tr ow ti ft fn fh fp fz fl fv rs au := by
  have ec : (nI i).toNatClampNeg = i := nI_clamp (by omega)
  have vi : vp_in (nI i) 4 := vp_in_nI hi (by decide)
  exact br_f (ix_ge 4 rfl hi (by decide)) ⟨vi, nm_r (by rw [ec]) ⟨vi, nm_r (by rw [ec]) ⟨vi, nm_r (by rw [ec]) (nm_r (nI_1 i) h)⟩⟩⟩
theorem yi_b {post : SY → Prop} {n i : Nat} (hi : i < 6) (h : wY_init_318 post q wp tn sl yd nd n (nI (i + 1)) co ca cb le he kl tu uy tl ul tm gc ga gp ss st sf fd (upd tc i (-2)) tr ow ti ft fn fh fp fz fl fv rs au) : wY_init_318 post q wp tn sl yd nd (n + 1) (nI i) co ca cb le he kl tu uy tl ul tm gc ga gp ss st sf fd tc tr ow ti ft fn fh fp fz fl fv rs au := by
  have ec : (nI i).toNatClampNeg = i := nI_clamp (by omega)
  have vi : vp_in (nI i) 6 := vp_in_nI hi (by decide)
  exact br_f (ix_ge 6 rfl hi (by decide)) ⟨vi, nm_r (by rw [ec]) (nm_r (nI_1 i) h)⟩
end
theorem xi_all {post : SX → Prop} (q : Int32) (h : post (q, -1, 0, 0, -1, (fun _ => 0), (fun _ => 0), (fun _ => 0), (fun _ => 0), (fun _ => 0), (fun _ => 0), (fun _ => 0), (fun _ => 0), (fun _ => 0), in_4 1000, in_4 100, in_4 3, (fun _ => 0), (fun _ => 0), (fun _ => 0), (fun _ => 0), (fun _ => 0), (fun _ => 0), in_6 (-2), (fun _ => 0), (fun _ => 0), (fun _ => 0), (fun _ => 0), (fun _ => 0), (fun _ => 0), (fun _ => 0), (fun _ => 0), (fun _ => 0), (fun _ => 0), (fun _ => 0), in_8 (-1))) :
    ∃ n : Nat, wX_init_296 post q (-1) 0 0 (-1) n 0 (fun _ => 0) (fun _ => 0) (fun _ => 0) (fun _ => 0) (fun _ => 0) (fun _ => 0) (fun _ => 0) (fun _ => 0) (fun _ => 0) (fun _ => 0) (fun _ => 0) (fun _ => 0) (fun _ => 0) (fun _ => 0) (fun _ => 0) (fun _ => 0) (fun _ => 0) (fun _ => 0) (fun _ => 0) (fun _ => 0) (fun _ => 0) (fun _ => 0) (fun _ => 0) (fun _ => 0) (fun _ => 0) (fun _ => 0) (fun _ => 0) (fun _ => 0) (fun _ => 0) (fun _ => 0) (fun _ => 0) := by
  refine ⟨5, xi_a (i := 0) (by decide) ?_⟩
  refine xi_a (i := 1) (by decide) ?_
  refine xi_a (i := 2) (by decide) ?_
  refine xi_a (i := 3) (by decide) ?_
  refine br_t (by decide) ⟨7, ?_⟩
  refine xi_b (i := 0) (by decide) ?_
  refine xi_b (i := 1) (by decide) ?_
  refine xi_b (i := 2) (by decide) ?_
  refine xi_b (i := 3) (by decide) ?_
  refine xi_b (i := 4) (by decide) ?_
  refine xi_b (i := 5) (by decide) ?_
  refine br_t (by decide) ⟨9, ?_⟩
  refine xi_c (i := 0) (by decide) ?_
  refine xi_c (i := 1) (by decide) ?_
  refine xi_c (i := 2) (by decide) ?_
  refine xi_c (i := 3) (by decide) ?_
  refine xi_c (i := 4) (by decide) ?_
  refine xi_c (i := 5) (by decide) ?_
  refine xi_c (i := 6) (by decide) ?_
  refine xi_c (i := 7) (by decide) ?_
  exact br_t (by decide) h
theorem yi_all {post : SY → Prop} (q : Int32) (h : post (q, -1, -1, 0, 0, 0, (fun _ => 0), (fun _ => 0), (fun _ => 0), (fun _ => 0), (fun _ => 0), (fun _ => 0), (fun _ => 0), (fun _ => 0), in_4 1000, in_4 100, in_4 3, (fun _ => 0), (fun _ => 0), (fun _ => 0), (fun _ => 0), (fun _ => 0), (fun _ => 0), (fun _ => 0), in_6 (-2), (fun _ => 0), (fun _ => 0), (fun _ => 0), (fun _ => 0), (fun _ => 0), (fun _ => 0), (fun _ => 0), (fun _ => 0), (fun _ => 0), (fun _ => 0), (fun _ => 0), (fun _ => 0))) :
    ∃ n : Nat, wY_init_281 post q (-1) 0 0 0 0 n 0 (fun _ => 0) (fun _ => 0) (fun _ => 0) (fun _ => 0) (fun _ => 0) (fun _ => 0) (fun _ => 0) (fun _ => 0) (fun _ => 0) (fun _ => 0) (fun _ => 0) (fun _ => 0) (fun _ => 0) (fun _ => 0) (fun _ => 0) (fun _ => 0) (fun _ => 0) (fun _ => 0) (fun _ => 0) (fun _ => 0) (fun _ => 0) (fun _ => 0) (fun _ => 0) (fun _ => 0) (fun _ => 0) (fun _ => 0) (fun _ => 0) (fun _ => 0) (fun _ => 0) (fun _ => 0) (fun _ => 0) := by
  refine ⟨5, yi_a (i := 0) (by decide) ?_⟩
  refine yi_a (i := 1) (by decide) ?_
  refine yi_a (i := 2) (by decide) ?_
  refine yi_a (i := 3) (by decide) ?_
  refine br_t (by decide) ⟨7, ?_⟩
  refine yi_b (i := 0) (by decide) ?_
  refine yi_b (i := 1) (by decide) ?_
  refine yi_b (i := 2) (by decide) ?_
  refine yi_b (i := 3) (by decide) ?_
  refine yi_b (i := 4) (by decide) ?_
  refine yi_b (i := 5) (by decide) ?_
  exact br_t (by decide) h
theorem in_rel (q : Int32) (hq : rl_q q) : rl_R (40 * 1) (fun _ _ _ => False) q (-1) 0 0 (-1) 0 0 (fun _ => 0) (fun _ => 0) (fun _ => 0) (fun _ => 0) (fun _ => 0) (fun _ => 0) (fun _ => 0) (fun _ => 0) (fun _ => 0) (in_4 1000) (in_4 100) (in_4 3) (fun _ => 0) (fun _ => 0) (fun _ => 0) (fun _ => 0) (fun _ => 0) (fun _ => 0) (in_6 (-2)) (fun _ => 0) (fun _ => 0) (fun _ => 0) (fun _ => 0) (fun _ => 0) (fun _ => 0) (fun _ => 0) (fun _ => 0) (fun _ => 0) (fun _ => 0) (fun _ => 0) (in_8 (-1)) (fun _ => 0) (fun _ => 0) (fun _ => 0) (fun _ => 0) (fun _ => 0) (fun _ => 0) := by
  refine ⟨hq, Or.inl rfl, ⟨0, by decide, rfl, rfl⟩, ?_, ?_, ?_, ?_, ?_, ?_, ?_⟩
  · intro t ht
    exact ⟨0, 0, by decide, rfl, by decide, rfl, rfl, Or.inl rfl, fun _ => rfl, rfl, fun f hf => absurd hf (Nat.not_lt_zero f), fun i hi => absurd hi (Nat.not_lt_zero i), fun i h z => z.elim⟩
  · intro t ht
    exact ⟨0, by decide, rfl, fun j hj => absurd hj (Nat.not_lt_zero j)⟩
  · intro j hj
    exact ⟨⟨0, by decide, rfl⟩, ⟨0, by decide, rfl⟩⟩
  · intro k hk
    have h : ∀ k, k < 6 → ¬ in_6 (-2) k = -1 := by decide
    exact ⟨0, by decide, rfl, ⟨fun z => absurd z (h k hk), fun z => absurd z (Nat.lt_irrefl 0)⟩, fun z => absurd z (Nat.lt_irrefl 0)⟩
  · intro x hx
    exact Or.inl ⟨rfl, rfl, rfl⟩
  · intro t ht
    exact ⟨fun _ _ => rfl, fun _ => rfl⟩
  · have h : ∀ i, i < 8 → in_8 (-1) i = -1 := by decide
    exact ⟨0, by decide, rfl, fun i hi => by rw [if_neg (Nat.not_lt_zero i)]; exact h i hi⟩
theorem i_vc0 (k0 : Int32) : wpX_init (fun u => wpY_init (fun v => i_Rel 1 u v) k0) k0 := by
  by_cases c1 : 1 ≤ k0
  · by_cases c2 : k0 ≤ 16
    · refine br_t c1 (br_t c2 (xi_all _ (br_t c1 (br_t c2 (yi_all _ (mk_rel (H := fun _ _ _ => False) (in_rel k0 ?_)))))))
      have c0 : ¬ k0 < 0 := fun z => absurd (Int32.lt_of_lt_of_le z (Int32.le_trans (by decide : (0 : Int32) ≤ 1) c1)) Int32.lt_irrefl
      obtain ⟨j, hj, rfl⟩ := nI_of c0
      rw [show (16 : Int32) = nI 16 from rfl, nI_leI hj (by decide)] at c2
      rw [show (1 : Int32) = nI 1 from rfl, nI_leI (by decide) hj] at c1
      exact ⟨j, c1, c2, rfl⟩
    · exact br_t c1 (br_f c2 (xi_all _ (br_t c1 (br_f c2 (yi_all _ (mk_rel (H := fun _ _ _ => False) (in_rel 16 ⟨16, by decide, by decide, rfl⟩)))))))
  · exact br_f c1 (xi_all _ (br_f c1 (yi_all _ (mk_rel (H := fun _ _ _ => False) (in_rel 1 ⟨1, by decide, by decide, rfl⟩)))))
end
section
def rl_d (tc fd : Nat → Int32) : Prop := ∀ k, k < 6 → ∃ d : Nat, d ≤ 6 ∧ fd k = nI d ∧ (tc k = -1 ↔ 0 < d)
theorem rl_td {H : Nat → Nat → Nat → Prop} {ft fn fh fz tc fd : Nat → Int32} (h : rl_t H ft fn fh fz tc fd) : rl_d tc fd := by
  intro k hk
  obtain ⟨d, h1, h2, h3, _⟩ := h k hk
  exact ⟨d, h1, h2, h3⟩
def fc_P (fd ft : Nat → Int32) (p : Int32) (x : Nat) : Prop := nI (x % 6) < fd (x / 6) ∧ ft x = p
noncomputable def fr_c (fd ft : Nat → Int32) (p : Int32) : Nat → Nat
  | 0 => 0
  | x + 1 => fr_c fd ft p x + @ite Nat (fc_P fd ft p x) (Classical.propDecidable _) 1 0
theorem fr_ct {fd ft : Nat → Int32} {p : Int32} {x : Nat} (h : fc_P fd ft p x) : fr_c fd ft p (x + 1) = fr_c fd ft p x + 1 := by
  rw [fr_c, if_pos h]
theorem fr_cf {fd ft : Nat → Int32} {p : Int32} {x : Nat} (h : ¬ fc_P fd ft p x) : fr_c fd ft p (x + 1) = fr_c fd ft p x := by
  rw [fr_c, if_neg h]; rfl
theorem fr_cl (fd ft : Nat → Int32) (p : Int32) : ∀ x, fr_c fd ft p x ≤ x
  | 0 => Nat.le_refl 0
  | x + 1 => by
    have := fr_cl fd ft p x
    by_cases c : fc_P fd ft p x
    · rw [fr_ct c]; omega
    · rw [fr_cf c]; omega
theorem fr_c0 (fd ft : Nat → Int32) (p : Int32) : ∀ x, fr_c fd ft p x = 0 ↔ ∀ y, y < x → ¬ fc_P fd ft p y
  | 0 => ⟨fun _ y hy => absurd hy (Nat.not_lt_zero y), fun _ => rfl⟩
  | x + 1 => by
    have ih := fr_c0 fd ft p x
    by_cases c : fc_P fd ft p x
    · rw [fr_ct c]
      exact ⟨fun z => by omega, fun z => absurd c (z x (by omega))⟩
    · rw [fr_cf c, ih]
      refine ⟨fun z y hy => ?_, fun z y hy => z y (by omega)⟩
      by_cases cy : y = x
      · subst cy; exact c
      · exact z y (by omega)
theorem fr_nf {tc fd ft : Nat → Int32} (hd : rl_d tc fd) (t : Nat) : fr_c fd ft (nI t) 36 = 0 ↔ nf_t fd ft t := by
  rw [fr_c0]
  constructor
  · intro z k hk d hd6 ed j hj e
    refine z (6 * k + j) (by omega) ⟨?_, e⟩
    rw [show (6 * k + j) / 6 = k by omega, show (6 * k + j) % 6 = j by omega, ed]
    exact nI_lt hj (by omega)
  · intro z x hx hP
    obtain ⟨d, h1, h2, h3⟩ := hd (x / 6) (by omega)
    have hl := hP.1
    rw [h2, nI_ltI (by omega) (by omega)] at hl
    refine z (x / 6) (by omega) d h1 h2 (x % 6) hl ?_
    rw [show 6 * (x / 6) + x % 6 = x by omega]
    exact hP.2
section
variable {q tn sl pc wp yd nd : Int32} {he co ca cb fs fc ts tu ux tl ul tm gc ga gp ss st sf tc tr ow ti fd ft fk fn fh fl fv rs nt le kl uy fp fz au : Nat → Int32}
theorem xl_fr20 {post : Int32 → Prop} {J : Int32 → Int32 → Prop} {p : Int32} {k d : Nat} (hk : k < 6) (hd : d ≤ 6) (ed : fd k = nI d) (hJ : J (nI (fr_c fd ft p (6 * k + 6))) (nI (k + 1))) :
    ∀ m x : Nat, x + m = 6 * k + d → 6 * k ≤ x → wX_framesOf_20 post J p (nI k) (nI (6 * k)) q tn sl pc wp he co ca cb fs fc ts tu ux tl ul tm gc ga gp ss st sf tc tr ow ti fd ft fk fn fh fl fv rs nt (m + 1) (nI (fr_c fd ft p x)) (nI x) := by
  have ek : (nI k).toNatClampNeg = k := nI_clamp (by omega)
  have vk : vp_in (nI k) 6 := vp_in_nI hk (by decide)
  have eb : nI (6 * k) + fd (nI k).toNatClampNeg = nI (6 * k + d) := by rw [ek, ed, nI_add]
  have tail : ∀ j, d ≤ j → j ≤ 6 → fr_c fd ft p (6 * k + j) = fr_c fd ft p (6 * k + d) := by
    intro j
    induction j with
    | zero => intro h1 _; rw [show d = 0 by omega]
    | succ j ih =>
      intro h1 h2
      by_cases c : d = j + 1
      · rw [c]
      · rw [← ih (by omega) (by omega), show 6 * k + (j + 1) = 6 * k + j + 1 by omega, fr_cf]
        intro z
        have z1 := z.1
        rw [show (6 * k + j) / 6 = k by omega, show (6 * k + j) % 6 = j by omega, ed, nI_ltI (by omega) (by omega)] at z1
        omega
  intro m
  induction m with
  | zero =>
    intro x hx hx6
    have : x = 6 * k + d := by omega
    subst this
    refine ⟨vk, br_t (by rw [eb]; exact nI_le (Nat.le_refl _) (by omega)) (nm_r (nI_1 k) ?_)⟩
    rw [← tail 6 hd (by omega)]
    exact hJ
  | succ m ih =>
    intro x hx hx6
    have ex : (nI x).toNatClampNeg = x := nI_clamp (by omega)
    have z := ih (x + 1) (by omega) (by omega)
    have hl : nI (x % 6) < fd (x / 6) := by
      rw [show x / 6 = k by omega, ed]
      exact nI_lt (by omega) (by omega)
    refine ⟨vk, br_f (by rw [eb]; exact nI_ge (by omega) (by omega)) ⟨vp_in_nI (by omega) (by decide), ?_⟩⟩
    by_cases c : ft x = p
    · rw [fr_ct ⟨hl, c⟩] at z
      exact br_t (by rw [ex]; exact c) (nm_r (nI_1 _) (nm_r (nI_1 x) z))
    · rw [fr_cf (fun q => c q.2)] at z
      exact br_f (by rw [ex]; exact c) (nm_r (nI_1 x) z)
theorem xl_fr4 {post : Int32 → Prop} {p : Int32} (hd : rl_d tc fd) (hp : post (nI (fr_c fd ft p 36))) :
    ∀ m k : Nat, k + m = 6 → wX_framesOf_4 post p q tn sl pc wp he co ca cb fs fc ts tu ux tl ul tm gc ga gp ss st sf tc tr ow ti fd ft fk fn fh fl fv rs nt (m + 1) (nI (fr_c fd ft p (6 * k))) (nI k) := by
  intro m
  induction m with
  | zero =>
    intro k hk
    have : k = 6 := by omega
    subst this
    exact br_t (by decide) hp
  | succ m ih =>
    intro k hk
    obtain ⟨d, h1, h2, h3⟩ := hd k (by omega)
    refine br_f (ix_ge 6 rfl (by omega) (by decide)) (nm_r (ix_m 6 rfl k) ⟨d + 1, ?_⟩)
    exact xl_fr20 (by omega) h1 h2 (ih (k + 1) (by omega)) d (6 * k) rfl (Nat.le_refl _)
theorem xl_frames {post : Int32 → Prop} {p : Int32} (hd : rl_d tc fd) (hp : post (nI (fr_c fd ft p 36))) : wpX_framesOf post (q, tn, sl, pc, wp, he, co, ca, cb, fs, fc, ts, tu, ux, tl, ul, tm, gc, ga, gp, ss, st, sf, tc, tr, ow, ti, fd, ft, fk, fn, fh, fl, fv, rs, nt) p :=
  ⟨7, xl_fr4 hd hp 6 0 rfl⟩
theorem yl_fr4 {post : Int32 → Prop} {p : Int32} (hd : rl_d tc fd) (hp : post (nI (fr_c fd ft p 36))) :
    ∀ m x : Nat, x + m = 36 → wY_frames_4 post p q wp tn sl yd nd co ca cb le he kl tu uy tl ul tm gc ga gp ss st sf fd tc tr ow ti ft fn fh fp fz fl fv rs au (m + 1) (nI (fr_c fd ft p x)) (nI x) := by
  intro m
  induction m with
  | zero =>
    intro x hx
    have : x = 36 := by omega
    subst this
    exact br_t (by decide) hp
  | succ m ih =>
    intro x hx
    obtain ⟨d, h1, h2, h3⟩ := hd (x / 6) (by omega)
    have z := ih (x + 1) (by omega)
    have ex : (nI x).toNatClampNeg = x := nI_clamp (by omega)
    have e1 : nI x / 6 = nI (x / 6) := pk_div (d := 6) (by omega) (by decide) (by decide)
    have e2 : nI x - nI x / 6 * 6 = nI (x % 6) := pk_rem (d := 6) (by omega) (by decide) (by decide)
    have e3 : (nI (x / 6)).toNatClampNeg = x / 6 := nI_clamp (by omega)
    have v1 : vp_in (nI x / 6) 6 := by rw [e1]; exact vp_in_nI (by omega) (by decide)
    have n6 : ¬ (6 : Int32) = 0 := by decide
    refine br_f (ix_ge 36 rfl (by omega) (by decide)) ⟨n6, v1, ?_⟩
    by_cases c1 : tc (x / 6) = -1
    · refine br_t (by rw [e1, e3]; exact c1) ⟨n6, n6, v1, ?_⟩
      by_cases c2 : d ≤ x % 6
      · refine br_t (by rw [e2, e1, e3, h2]; exact nI_le c2 (by omega)) (nm_r (nI_1 x) ?_)
        rw [fr_cf] at z
        · exact z
        · intro q
          have q1 := q.1
          rw [h2, nI_ltI (by omega) (by omega)] at q1
          omega
      · refine br_f (by rw [e2, e1, e3, h2]; exact nI_ge (by omega) (by omega)) ⟨vp_in_nI (by omega) (by decide), ?_⟩
        have hl : nI (x % 6) < fd (x / 6) := by rw [h2]; exact nI_lt (by omega) (by omega)
        by_cases c : ft x = p
        · rw [fr_ct ⟨hl, c⟩] at z
          exact br_t (by rw [ex]; exact c) (nm_r (nI_1 _) (nm_r (nI_1 x) z))
        · rw [fr_cf (fun q => c q.2)] at z
          exact br_f (by rw [ex]; exact c) (nm_r (nI_1 x) z)
    · refine br_f (by rw [e1, e3]; exact c1) (nm_r (nI_1 x) ?_)
      rw [fr_cf] at z
      · exact z
      · intro q
        have q1 := q.1
        rw [h2, nI_ltI (by omega) (by omega)] at q1
        exact c1 (h3.mpr (by omega))
theorem yl_frames {post : Int32 → Prop} {p : Int32} (hd : rl_d tc fd) (hp : post (nI (fr_c fd ft p 36))) : wpY_frames post (q, wp, tn, sl, yd, nd, co, ca, cb, le, he, kl, tu, uy, tl, ul, tm, gc, ga, gp, ss, st, sf, fd, tc, tr, ow, ti, ft, fn, fh, fp, fz, fl, fv, rs, au) p :=
  ⟨37, yl_fr4 hd hp 36 0 rfl⟩
theorem tl_loop (p : Int32) : ∀ d i : Nat, i + d = 6 → ∀ c : Int32, ∃ r : Int32, (∀ post : Int32 → Prop, post r → wX_threadsOf_4 post p q tn sl pc wp he co ca cb fs fc ts tu ux tl ul tm gc ga gp ss st sf tc tr ow ti fd ft fk fn fh fl fv rs nt (d + 1) c (nI i)) ∧ (∀ post : Int32 → Prop, post r → wY_threads_4 post p q wp tn sl yd nd co ca cb le he kl tu uy tl ul tm gc ga gp ss st sf fd tc tr ow ti ft fn fh fp fz fl fv rs au (d + 1) c (nI i)) := by
  intro d
  induction d with
  | zero =>
    intro i hi c
    have : i = 6 := by omega
    subst this
    exact ⟨c, fun _ h => br_t (by decide) h, fun _ h => br_t (by decide) h⟩
  | succ d ih =>
    intro i hi c
    have ei : (nI i).toNatClampNeg = i := nI_clamp (by omega)
    have vi : vp_in (nI i) 6 := vp_in_nI (by omega) (by decide)
    have n : ¬ (6 : Int32) ≤ nI i := ix_ge 6 rfl (by omega) (by decide)
    by_cases c1 : tc (nI i).toNatClampNeg = -1
    · by_cases c2 : ow (nI i).toNatClampNeg = p
      · obtain ⟨r, h1, h2⟩ := ih (i + 1) (by omega) (c + 1)
        exact ⟨r, fun post h => br_f n ⟨vi, br_t c1 ⟨vi, br_t c2 (nm_e (nm_r (nI_1 i) (h1 post h)))⟩⟩, fun post h => br_f n ⟨vi, br_t c1 ⟨vi, br_t c2 (nm_e (nm_r (nI_1 i) (h2 post h)))⟩⟩⟩
      · obtain ⟨r, h1, h2⟩ := ih (i + 1) (by omega) c
        exact ⟨r, fun post h => br_f n ⟨vi, br_t c1 ⟨vi, br_f c2 (nm_r (nI_1 i) (h1 post h))⟩⟩, fun post h => br_f n ⟨vi, br_t c1 ⟨vi, br_f c2 (nm_r (nI_1 i) (h2 post h))⟩⟩⟩
    · obtain ⟨r, h1, h2⟩ := ih (i + 1) (by omega) c
      exact ⟨r, fun post h => br_f n ⟨vi, br_f c1 (nm_r (nI_1 i) (h1 post h))⟩, fun post h => br_f n ⟨vi, br_f c1 (nm_r (nI_1 i) (h2 post h))⟩⟩
theorem tl_all  (p : Int32) : ∃ r : Int32, (∀ post : Int32 → Prop, post r → wpX_threadsOf post (q, tn, sl, pc, wp, he, co, ca, cb, fs, fc, ts, tu, ux, tl, ul, tm, gc, ga, gp, ss, st, sf, tc, tr, ow, ti, fd, ft, fk, fn, fh, fl, fv, rs, nt) p) ∧ (∀ post : Int32 → Prop, post r → wpY_threads post (q, wp, tn, sl, yd, nd, co, ca, cb, le, he, kl, tu, uy, tl, ul, tm, gc, ga, gp, ss, st, sf, fd, tc, tr, ow, ti, ft, fn, fh, fp, fz, fl, fv, rs, au) p) := by
  obtain ⟨r, h1, h2⟩ := tl_loop (q := q) (tn := tn) (sl := sl) (pc := pc) (wp := wp) (yd := yd) (nd := nd) (he := he) (co := co) (ca := ca) (cb := cb) (fs := fs) (fc := fc) (ts := ts) (tu := tu) (ux := ux) (tl := tl) (ul := ul) (tm := tm) (gc := gc) (ga := ga) (gp := gp) (ss := ss) (st := st) (sf := sf) (tc := tc) (tr := tr) (ow := ow) (ti := ti) (fd := fd) (ft := ft) (fk := fk) (fn := fn) (fh := fh) (fl := fl) (fv := fv) (rs := rs) (nt := nt) (le := le) (kl := kl) (uy := uy) (fp := fp) (fz := fz) (au := au) p 6 0 rfl 0
  exact ⟨r, fun post h => ⟨7, h1 post h⟩, fun post h => ⟨7, h2 post h⟩⟩
theorem cf_mono (co : Nat → Int32) (b : Nat) : ∀ i j, i ≤ j → cf_n co b i ≤ cf_n co b j := by
  intro i j h
  induction j with
  | zero => rw [show i = 0 by omega]; exact Nat.le_refl _
  | succ j ih =>
    by_cases c : i = j + 1
    · rw [c]; exact Nat.le_refl _
    · have := ih (by omega)
      simp only [cf_n]
      omega
theorem cf_le (co : Nat → Int32) (b : Nat) : ∀ i, cf_n co b i ≤ i
  | 0 => Nat.le_refl 0
  | i + 1 => by
    have := cf_le co b i
    simp only [cf_n]
    split <;> omega
theorem cf_t {co : Nat → Int32} {b i : Nat} (h : co (b + i) = 0) : cf_n co b (i + 1) = cf_n co b i + 1 := by
  simp only [cf_n, if_pos h]
theorem cf_f {co : Nat → Int32} {b i : Nat} (h : ¬ co (b + i) = 0) : cf_n co b (i + 1) = cf_n co b i := by
  simp only [cf_n, if_neg h, Nat.add_zero]
theorem yl_fns {post : Int32 → Prop} {t n : Nat} (ht : t < 5) (hl : le t = nI n) (hn : n ≤ 64) (hp : post (nI (cf_n co (64 * t) n))) : wpY_functions post (q, wp, tn, sl, yd, nd, co, ca, cb, le, he, kl, tu, uy, tl, ul, tm, gc, ga, gp, ss, st, sf, fd, tc, tr, ow, ti, ft, fn, fh, fp, fz, fl, fv, rs, au) (nI t) := by
  have et : (nI t).toNatClampNeg = t := nI_clamp (by omega)
  have vt : vp_in (nI t) 5 := vp_in_nI ht (by decide)
  have eb : 64 * nI t + le (nI t).toNatClampNeg = nI (64 * t + n) := by rw [et, hl]; exact ix_l 64 rfl t n
  have key : ∀ m i : Nat, i + m = n → wY_functions_7 post (nI t) q wp tn sl yd nd co ca cb le he kl tu uy tl ul tm gc ga gp ss st sf fd tc tr ow ti ft fn fh fp fz fl fv rs au (m + 1) (nI (cf_n co (64 * t) i)) (nI (64 * t + i)) := by
    intro m
    induction m with
    | zero =>
      intro i hi
      have : i = n := by omega
      subst this
      exact ⟨vt, br_t (by rw [eb]; exact nI_le (Nat.le_refl _) (by omega)) hp⟩
    | succ m ih =>
      intro i hi
      have z := ih (i + 1) (by omega)
      have ei : (nI (64 * t + i)).toNatClampNeg = 64 * t + i := nI_clamp (by omega)
      refine ⟨vt, br_f (by rw [eb]; exact nI_ge (by omega) (by omega)) ⟨vp_in_nI (by omega) (by decide), ?_⟩⟩
      by_cases c : co (64 * t + i) = 0
      · rw [cf_t c] at z
        exact br_t (by rw [ei]; exact c) (nm_r (nI_1 _) (nm_r (nI_1 _) z))
      · rw [cf_f c] at z
        exact br_f (by rw [ei]; exact c) (nm_r (nI_1 _) z)
  exact nm_r (ix_n 64 rfl t) ⟨n + 1, key n 0 (by omega)⟩
theorem xl_fns {post : Int32 → Prop} {n : Nat} (hl : pc = nI n) (hn : n ≤ 64) (hp : post (nI (cf_n co 256 n))) : wpX_pendingFunctions post (q, tn, sl, pc, wp, he, co, ca, cb, fs, fc, ts, tu, ux, tl, ul, tm, gc, ga, gp, ss, st, sf, tc, tr, ow, ti, fd, ft, fk, fn, fh, fl, fv, rs, nt) := by
  have key : ∀ m i : Nat, i + m = n → wX_pendingFunctions_4 post q tn sl pc wp he co ca cb fs fc ts tu ux tl ul tm gc ga gp ss st sf tc tr ow ti fd ft fk fn fh fl fv rs nt (m + 1) (nI (cf_n co 256 i)) (nI i) := by
    intro m
    induction m with
    | zero =>
      intro i hi
      have : i = n := by omega
      subst this
      exact br_t (by rw [hl]; exact nI_le (Nat.le_refl _) (by omega)) hp
    | succ m ih =>
      intro i hi
      have z := ih (i + 1) (by omega)
      have e1 : 256 + nI i = nI (256 + i) := ix_a 256 rfl i
      have ei : (nI (256 + i)).toNatClampNeg = 256 + i := nI_clamp (by omega)
      refine br_f (by rw [hl]; exact nI_ge (by omega) (by omega)) ⟨by rw [e1]; exact vp_in_nI (by omega) (by decide), ?_⟩
      by_cases c : co (256 + i) = 0
      · rw [cf_t c] at z
        exact br_t (by rw [e1, ei]; exact c) (nm_r (nI_1 _) (nm_r (nI_1 _) z))
      · rw [cf_f c] at z
        exact br_f (by rw [e1, ei]; exact c) (nm_r (nI_1 _) z)
  exact ⟨n + 1, key n 0 (by omega)⟩
theorem yl_fun {post : Int32 → Prop} {t n f i : Nat} (ht : t < 5) (hl : le t = nI n) (hn : n ≤ 64) (hi : i < n) (h0 : co (64 * t + i) = 0) (hf : cf_n co (64 * t) i = f) (hp : post (nI i)) : wpY_function post (q, wp, tn, sl, yd, nd, co, ca, cb, le, he, kl, tu, uy, tl, ul, tm, gc, ga, gp, ss, st, sf, fd, tc, tr, ow, ti, ft, fn, fh, fp, fz, fl, fv, rs, au) (nI t) (nI f) := by
  have et : (nI t).toNatClampNeg = t := nI_clamp (by omega)
  have vt : vp_in (nI t) 5 := vp_in_nI ht (by decide)
  have cl := cf_le co (64 * t) i
  have key : ∀ m j : Nat, j + m = i → wY_function_5 post (nI t) q wp tn sl yd nd co ca cb le he kl tu uy tl ul tm gc ga gp ss st sf fd tc tr ow ti ft fn fh fp fz fl fv rs au (m + 1) (nI (f - cf_n co (64 * t) j)) (nI j) := by
    intro m
    induction m with
    | zero =>
      intro j hj
      have : j = i := by omega
      subst this
      have e1 : 64 * nI t + nI j = nI (64 * t + j) := ix_l 64 rfl t j
      have ei : (nI (64 * t + j)).toNatClampNeg = 64 * t + j := nI_clamp (by omega)
      refine ⟨vt, br_f (by rw [et, hl]; exact nI_ge (by omega) (by omega)) ⟨by rw [e1]; exact vp_in_nI (by omega) (by decide), br_t (by rw [e1, ei]; exact h0) (nm_e (br_t ?_ hp))⟩⟩
      rw [hf, Nat.sub_self]; rfl
    | succ m ih =>
      intro j hj
      have z := ih (j + 1) (by omega)
      have e1 : 64 * nI t + nI j = nI (64 * t + j) := ix_l 64 rfl t j
      have ei : (nI (64 * t + j)).toNatClampNeg = 64 * t + j := nI_clamp (by omega)
      have mono := cf_mono co (64 * t) (j + 1) i (by omega)
      refine ⟨vt, br_f (by rw [et, hl]; exact nI_ge (by omega) (by omega)) ⟨by rw [e1]; exact vp_in_nI (by omega) (by decide), ?_⟩⟩
      by_cases c : co (64 * t + j) = 0
      · rw [cf_t c] at z mono
        refine br_t (by rw [e1, ei]; exact c) (nm_r (e' := nI (f - (cf_n co (64 * t) j + 1))) ?_ (br_f ?_ (nm_r (nI_1 _) z)))
        · rw [ix_q (by omega)]; exact congrArg nI (by omega)
        · exact nI_ne0 (by omega) (by omega)
      · rw [cf_f c] at z
        exact br_f (by rw [e1, ei]; exact c) (nm_r (nI_1 _) z)
  have z := key i 0 (by omega)
  exact ⟨i + 1, z⟩
theorem ix_lt1 {a : Nat} (h : a < 1000) : nI a - 1 < nI a := by
  rw [Int32.lt_iff_toInt_lt, show (1 : Int32) = nI 1 from rfl, pk_sub_toInt (by omega) (by decide), nI_toInt (by omega)]
  omega
theorem dl_loop {k d : Nat} (hk : k < 6) (hd : d ≤ 6) (hK : rl_k fk fp fz) : ∀ j : Nat, j ≤ d → ∀ s : Int32, ∃ r : Int32,
    (∀ post : Int32 → Prop, post r → wX_domainsOf_19 post (nI k) (nI (6 * k)) q tn sl pc wp he co ca cb fs fc ts tu ux tl ul tm gc ga gp ss st sf tc tr ow ti fd ft fk fn fh fl fv rs nt (j + 1) s (nI (6 * k + j) - 1)) ∧ (∀ post : Int32 → Prop, post r → wY_domains_16 post (nI k) q wp tn sl yd nd co ca cb le he kl tu uy tl ul tm gc ga gp ss st sf fd tc tr ow ti ft fn fh fp fz fl fv rs au (j + 1) s (nI (6 * k + j) - 1)) := by
  have vk : vp_in (nI k) 6 := vp_in_nI hk (by decide)
  have e6 : 6 * nI k = nI (6 * k) := ix_n 6 rfl k
  intro j
  induction j with
  | zero =>
    intro _ s
    have l : nI (6 * k + 0) - 1 < nI (6 * k) := ix_lt1 (by omega)
    exact ⟨s ||| ti (nI k).toNatClampNeg, fun _ h => br_t l ⟨vk, h⟩, fun _ h => br_t (by rw [e6]; exact l) ⟨vk, h⟩⟩
  | succ j ih =>
    intro hj s
    have e1 : nI (6 * k + (j + 1)) - 1 = nI (6 * k + j) := nI_pred _
    have ex : (nI (6 * k + j)).toNatClampNeg = 6 * k + j := nI_clamp (by omega)
    have vx : vp_in (nI (6 * k + j)) 36 := vp_in_nI (by omega) (by decide)
    have l : ¬ nI (6 * k + j) < nI (6 * k) := nI_nlt (by omega) (by omega)
    have e2 : nI (6 * k + j) + -1 = nI (6 * k + j) - 1 := (Int32.sub_eq_add_neg _ _).symm
    rw [e1]
    by_cases c : fk (6 * k + j) = 1
    · have cp : ¬ fp (6 * k + j) = 0 := by
        rcases hK (6 * k + j) (by omega) with h | h | h
        · rw [h.2.2] at c; exact absurd c (by decide)
        · rw [h.1]; decide
        · rw [h.2.2] at c; exact absurd c (by decide)
      refine ⟨s ||| ((1 : Int32) <<< ((ft (nI (6 * k + j)).toNatClampNeg) &&& 31)), fun _ h => br_f l ⟨vx, nm_e ⟨vx, br_t (by rw [ex]; exact c) h⟩⟩, fun _ h => br_f (by rw [e6]; exact l) ⟨vx, nm_e ⟨vx, br_f (by rw [ex]; exact cp) h⟩⟩⟩
    · have cp : fp (6 * k + j) = 0 := by
        rcases hK (6 * k + j) (by omega) with h | h | h
        · exact h.1
        · exact absurd h.2.2 c
        · exact h.1
      obtain ⟨r, h1, h2⟩ := ih (by omega) (s ||| ((1 : Int32) <<< ((ft (nI (6 * k + j)).toNatClampNeg) &&& 31)))
      exact ⟨r, fun post h => br_f l ⟨vx, nm_e ⟨vx, br_f (by rw [ex]; exact c) (nm_r e2 (h1 post h))⟩⟩, fun post h => br_f (by rw [e6]; exact l) ⟨vx, nm_e ⟨vx, br_t (by rw [ex]; exact cp) (nm_r e2 (h2 post h))⟩⟩⟩
theorem dl_all  {k d : Nat} (hk : k < 6) (hd : d ≤ 6) (ed : fd k = nI d) (hK : rl_k fk fp fz) : ∃ r : Int32,
    (∀ post : Int32 → Prop, post r → wpX_domainsOf post (q, tn, sl, pc, wp, he, co, ca, cb, fs, fc, ts, tu, ux, tl, ul, tm, gc, ga, gp, ss, st, sf, tc, tr, ow, ti, fd, ft, fk, fn, fh, fl, fv, rs, nt) (nI k)) ∧ (∀ post : Int32 → Prop, post r → wpY_domains post (q, wp, tn, sl, yd, nd, co, ca, cb, le, he, kl, tu, uy, tl, ul, tm, gc, ga, gp, ss, st, sf, fd, tc, tr, ow, ti, ft, fn, fh, fp, fz, fl, fv, rs, au) (nI k)) := by
  have ek : (nI k).toNatClampNeg = k := nI_clamp (by omega)
  have vk : vp_in (nI k) 6 := vp_in_nI hk (by decide)
  obtain ⟨r, h1, h2⟩ := dl_loop (q := q) (tn := tn) (sl := sl) (pc := pc) (wp := wp) (yd := yd) (nd := nd) (he := he) (co := co) (ca := ca) (cb := cb) (fs := fs) (fc := fc) (ts := ts) (tu := tu) (ux := ux) (tl := tl) (ul := ul) (tm := tm) (gc := gc) (ga := ga) (gp := gp) (ss := ss) (st := st) (sf := sf) (tc := tc) (tr := tr) (ow := ow) (ti := ti) (fd := fd) (ft := ft) (fk := fk) (fn := fn) (fh := fh) (fl := fl) (fv := fv) (rs := rs) (nt := nt) (le := le) (kl := kl) (uy := uy) (fp := fp) (fz := fz) (au := au) hk hd hK d (Nat.le_refl _) 0
  refine ⟨r, fun post h => nm_r (ix_m 6 rfl k) ⟨vk, nm_r (e' := nI (6 * k + d) - 1) (by rw [ek, ed, nI_add]) ⟨_, h1 post h⟩⟩, fun post h => ⟨vk, nm_r (e' := nI (6 * k + d) - 1) (by rw [ek, ed, ix_l (M := 6) 6 rfl]) ⟨_, h2 post h⟩⟩⟩
end
end
section
section
variable {q tn sl pc wp yd nd : Int32} {he co ca cb fs fc ts tu ux tl ul tm gc ga gp ss st sf tc tr ow ti fd ft fk fn fh fl fv rs nt le kl uy fp fz au : Nat → Int32}
theorem i_vc_thread {k : Nat} {u : SX} {v : SY} (I : i_Rel k u v) (hk : k + 5 ≤ 2561) (v1 : Int32) (v2 : Int32) : wpX_thread (fun r => wpY_thread (fun r' => r' = r ∧ i_Rel (k + 5) u v) v v1 v2) u v1 v2 := by
  have I5 := i_up I
  obtain ⟨H, q, tn, sl, pc, wp, yd, nd, he, co, ca, cb, fs, fc, ts, tu, ux, tl, ul, tm, gc, ga, gp, ss, st, sf, tc, tr, ow, ti, fd, ft, fk, fn, fh, fl, fv, rs, nt, le, kl, uy, fp, fz, au, rfl, rfl, a1, a2, a3, a4, a5, a6, a7, a8, a9, a10⟩ := I
  rcases ix_c v1 (n := 6) (N := 6) (N1 := 5) rfl rfl (by decide) (by decide) with c | ⟨d1, d2, d3, d4, d5⟩ | ⟨t, ht, rfl⟩
  · exact br_t c (br_t c ⟨rfl, I5⟩)
  · exact br_f d1 (br_t d2 (br_f d1 (br_t d3 ⟨rfl, I5⟩)))
  obtain ⟨f1, f2, f3, f4, f5⟩ := ix_f (N := 6) (N1 := 5) rfl rfl ht (by decide)
  have vt : vp_in (nI t) 6 := vp_in_nI ht (by decide)
  have et : (nI t).toNatClampNeg = t := nI_clamp (by omega)
  by_cases c : tc (nI t).toNatClampNeg = -2
  · exact br_f f1 (br_f f2 ⟨vt, br_t c (br_f f1 (br_f f3 ⟨vt, br_t c ⟨rfl, I5⟩⟩))⟩)
  refine br_f f1 (br_f f2 ⟨vt, br_f c ?_⟩)
  by_cases e0 : v2 < 0
  · exact br_t e0 (br_f f1 (br_f f3 ⟨vt, br_f c (br_t e0 ⟨rfl, I5⟩)⟩))
  by_cases e4 : (4 : Int32) < v2
  · exact br_f e0 (br_t e4 (br_f f1 (br_f f3 ⟨vt, br_f c (br_f e0 (br_t e4 ⟨rfl, I5⟩))⟩)))
  refine br_f e0 (br_f e4 ?_)
  by_cases c0 : v2 = 0
  · exact br_t c0 ⟨vt, br_f f1 (br_f f3 ⟨vt, br_f c (br_f e0 (br_f e4 (br_t c0 ⟨vt, rfl, I5⟩)))⟩)⟩
  by_cases c1 : v2 = 1
  · exact br_f c0 (br_t c1 ⟨vt, br_f f1 (br_f f3 ⟨vt, br_f c (br_f e0 (br_f e4 (br_f c0 (br_t c1 ⟨vt, rfl, I5⟩))))⟩)⟩)
  by_cases c2 : v2 = 2
  · exact br_f c0 (br_f c1 (br_t c2 ⟨vt, br_f f1 (br_f f3 ⟨vt, br_f c (br_f e0 (br_f e4 (br_f c0 (br_f c1 (br_t c2 ⟨vt, rfl, I5⟩)))))⟩)⟩))
  by_cases c3 : v2 = 3
  · refine br_f c0 (br_f c1 (br_f c2 (br_t c3 ⟨vt, ?_⟩)))
    by_cases cr : tc (nI t).toNatClampNeg = -1
    · obtain ⟨d, h1, h2, h3⟩ := rl_td a7 t ht
      obtain ⟨r, x1, y1⟩ := dl_all (q := q) (tn := tn) (sl := sl) (pc := pc) (wp := wp) (yd := yd) (nd := nd) (he := he) (co := co) (ca := ca) (cb := cb) (fs := fs) (fc := fc) (ts := ts) (tu := tu) (ux := ux) (tl := tl) (ul := ul) (tm := tm) (gc := gc) (ga := ga) (gp := gp) (ss := ss) (st := st) (sf := sf) (tc := tc) (tr := tr) (ow := ow) (ti := ti) (fd := fd) (ft := ft) (fk := fk) (fn := fn) (fh := fh) (fl := fl) (fv := fv) (rs := rs) (nt := nt) (le := le) (kl := kl) (uy := uy) (fp := fp) (fz := fz) (au := au) ht h1 h2 a8
      refine br_t cr (x1 _ ?_)
      exact br_f f1 (br_f f3 ⟨vt, br_f c (br_f e0 (br_f e4 (br_f c0 (br_f c1 (br_f c2 (br_t c3 ⟨vt, br_t cr (y1 _ ⟨rfl, I5⟩)⟩))))))⟩)
    · exact br_f cr (br_f f1 (br_f f3 ⟨vt, br_f c (br_f e0 (br_f e4 (br_f c0 (br_f c1 (br_f c2 (br_t c3 ⟨vt, br_f cr ⟨rfl, I5⟩⟩))))))⟩))
  by_cases c4 : v2 = 4
  · refine br_f c0 (br_f c1 (br_f c2 (br_f c3 (br_t c4 ?_))))
    by_cases cr : tn = nI t
    · exact br_t cr (br_f f1 (br_f f3 ⟨vt, br_f c (br_f e0 (br_f e4 (br_f c0 (br_f c1 (br_f c2 (br_f c3 (br_t c4 (br_t cr ⟨rfl, I5⟩))))))))⟩))
    · exact br_f cr (br_f f1 (br_f f3 ⟨vt, br_f c (br_f e0 (br_f e4 (br_f c0 (br_f c1 (br_f c2 (br_f c3 (br_t c4 (br_f cr ⟨rfl, I5⟩))))))))⟩))
  exact br_f c0 (br_f c1 (br_f c2 (br_f c3 (br_f c4 trivial))))
theorem i_vc_tenant {k : Nat} {u : SX} {v : SY} (I : i_Rel k u v) (hk : k + 5 ≤ 2561) (v1 : Int32) (v2 : Int32) : wpX_tenant (fun r => wpY_tenant (fun r' => r' = r ∧ i_Rel (k + 5) u v) v v1 v2) u v1 v2 := by
  have I5 := i_up I
  obtain ⟨H, q, tn, sl, pc, wp, yd, nd, he, co, ca, cb, fs, fc, ts, tu, ux, tl, ul, tm, gc, ga, gp, ss, st, sf, tc, tr, ow, ti, fd, ft, fk, fn, fh, fl, fv, rs, nt, le, kl, uy, fp, fz, au, rfl, rfl, a1, a2, a3, a4, a5, a6, a7, a8, a9, a10⟩ := I
  have n0 : ¬ (1 : Int32) = 0 := by decide
  have fin : ∀ (r : Int32), (∀ post : Int32 → Prop, post r → wpX_tenant post (q, tn, sl, pc, wp, he, co, ca, cb, fs, fc, ts, tu, ux, tl, ul, tm, gc, ga, gp, ss, st, sf, tc, tr, ow, ti, fd, ft, fk, fn, fh, fl, fv, rs, nt) v1 v2) → (∀ post : Int32 → Prop, post r → wpY_tenant post (q, wp, tn, sl, yd, nd, co, ca, cb, le, he, kl, tu, uy, tl, ul, tm, gc, ga, gp, ss, st, sf, fd, tc, tr, ow, ti, ft, fn, fh, fp, fz, fl, fv, rs, au) v1 v2) →
      wpX_tenant (fun r => wpY_tenant (fun r' => r' = r ∧ i_Rel (k + 5) (q, tn, sl, pc, wp, he, co, ca, cb, fs, fc, ts, tu, ux, tl, ul, tm, gc, ga, gp, ss, st, sf, tc, tr, ow, ti, fd, ft, fk, fn, fh, fl, fv, rs, nt) (q, wp, tn, sl, yd, nd, co, ca, cb, le, he, kl, tu, uy, tl, ul, tm, gc, ga, gp, ss, st, sf, fd, tc, tr, ow, ti, ft, fn, fh, fp, fz, fl, fv, rs, au)) (q, wp, tn, sl, yd, nd, co, ca, cb, le, he, kl, tu, uy, tl, ul, tm, gc, ga, gp, ss, st, sf, fd, tc, tr, ow, ti, ft, fn, fh, fp, fz, fl, fv, rs, au) v1 v2) (q, tn, sl, pc, wp, he, co, ca, cb, fs, fc, ts, tu, ux, tl, ul, tm, gc, ga, gp, ss, st, sf, tc, tr, ow, ti, fd, ft, fk, fn, fh, fl, fv, rs, nt) v1 v2 := fun r h2 h3 => h2 _ (h3 _ ⟨rfl, I5⟩)
  rcases ten_c v1 with c | ⟨t, ht, rfl⟩
  · refine fin (-1) (fun post h => ?_) (fun post h => ?_)
    · unfold wpX_tenant; dsimp only
      exact xl_ten0 c (br_t rfl h)
    · unfold wpY_tenant; dsimp only
      exact yl_ten0 c (br_t rfl h)
  have vt : vp_in (nI t) 4 := vp_in_nI ht (by decide)
  have vt5 : vp_in (nI t) 5 := vp_in_nI (by omega) (by decide)
  have et : (nI t).toNatClampNeg = t := nI_clamp (by omega)
  by_cases e0 : v2 < 0
  · refine fin (-1) (fun post h => ?_) (fun post h => ?_)
    · unfold wpX_tenant; dsimp only
      exact xl_ten1 ht (br_f n0 (br_t e0 h))
    · unfold wpY_tenant; dsimp only
      exact yl_ten1 ht (br_f n0 (br_t e0 h))
  by_cases e6 : (6 : Int32) < v2
  · refine fin (-1) (fun post h => ?_) (fun post h => ?_)
    · unfold wpX_tenant; dsimp only
      exact xl_ten1 ht (br_f n0 (br_f e0 (br_t e6 h)))
    · unfold wpY_tenant; dsimp only
      exact yl_ten1 ht (br_f n0 (br_f e0 (br_t e6 h)))
  by_cases c0 : v2 = 0
  · refine fin (tu (nI t).toNatClampNeg) (fun post h => ?_) (fun post h => ?_)
    · unfold wpX_tenant; dsimp only
      exact xl_ten1 ht (br_f n0 (br_f e0 (br_f e6 (br_t c0 ⟨vt, h⟩))))
    · unfold wpY_tenant; dsimp only
      exact yl_ten1 ht (br_f n0 (br_f e0 (br_f e6 (br_t c0 ⟨vt, h⟩))))
  have hd := rl_td a7
  by_cases c1 : v2 = 1
  · refine fin (ux t) (fun post h => ?_) (fun post h => ?_)
    · unfold wpX_tenant; dsimp only
      exact xl_ten1 ht (br_f n0 (br_f e0 (br_f e6 (br_f c0 (br_t c1 ⟨vt, by rw [et]; exact h⟩)))))
    · unfold wpY_tenant; dsimp only
      refine yl_ten1 ht (br_f n0 (br_f e0 (br_f e6 (br_f c0 (br_t c1 ⟨vt, ?_⟩)))))
      rw [et]
      obtain ⟨u1, u2⟩ := a9 t ht
      by_cases ck : kl t = 0
      · refine br_t ck ⟨vt, ?_⟩
        rw [← u2 (fun z => z.1 ck)]
        exact h
      · refine br_f ck (yl_frames hd ?_)
        by_cases cf : fr_c fd ft (nI t) 36 = 0
        · rw [cf]
          rw [u1 ck ((fr_nf hd t).mp cf)] at h
          exact br_t rfl h
        · have := fr_cl fd ft (nI t) 36
          refine br_f (nI_ne0 (by omega) (by omega)) ⟨vt, ?_⟩
          rw [← u2 (fun z => cf ((fr_nf hd t).mpr z.2))]
          exact h
  by_cases c2 : v2 = 2
  · obtain ⟨r, x1, y1⟩ := tl_all (q := q) (tn := tn) (sl := sl) (pc := pc) (wp := wp) (yd := yd) (nd := nd) (he := he) (co := co) (ca := ca) (cb := cb) (fs := fs) (fc := fc) (ts := ts) (tu := tu) (ux := ux) (tl := tl) (ul := ul) (tm := tm) (gc := gc) (ga := ga) (gp := gp) (ss := ss) (st := st) (sf := sf) (tc := tc) (tr := tr) (ow := ow) (ti := ti) (fd := fd) (ft := ft) (fk := fk) (fn := fn) (fh := fh) (fl := fl) (fv := fv) (rs := rs) (nt := nt) (le := le) (kl := kl) (uy := uy) (fp := fp) (fz := fz) (au := au) (nI t)
    refine fin r (fun post h => ?_) (fun post h => ?_)
    · unfold wpX_tenant; dsimp only
      exact xl_ten1 ht (br_f n0 (br_f e0 (br_f e6 (br_f c0 (br_f c1 (br_t c2 (x1 _ h)))))))
    · unfold wpY_tenant; dsimp only
      exact yl_ten1 ht (br_f n0 (br_f e0 (br_f e6 (br_f c0 (br_f c1 (br_t c2 (y1 _ h)))))))
  by_cases c3 : v2 = 3
  · refine fin (nI (fr_c fd ft (nI t) 36)) (fun post h => ?_) (fun post h => ?_)
    · unfold wpX_tenant; dsimp only
      exact xl_ten1 ht (br_f n0 (br_f e0 (br_f e6 (br_f c0 (br_f c1 (br_f c2 (br_t c3 (xl_frames hd h))))))))
    · unfold wpY_tenant; dsimp only
      exact yl_ten1 ht (br_f n0 (br_f e0 (br_f e6 (br_f c0 (br_f c1 (br_f c2 (br_t c3 (yl_frames hd h))))))))
  obtain ⟨n, c, b1, b2, b3, b4, b5, b6, b7, b8, b9, b10, b11⟩ := a4 t ht
  by_cases c4 : v2 = 4
  · refine fin (ts t) (fun post h => ?_) (fun post h => ?_)
    · unfold wpX_tenant; dsimp only
      exact xl_ten1 ht (br_f n0 (br_f e0 (br_f e6 (br_f c0 (br_f c1 (br_f c2 (br_f c3 (br_t c4 ⟨vt, by rw [et]; exact h⟩))))))))
    · unfold wpY_tenant; dsimp only
      refine yl_ten1 ht (br_f n0 (br_f e0 (br_f e6 (br_f c0 (br_f c1 (br_f c2 (br_f c3 (br_t c4 ⟨vt5, ?_⟩))))))))
      rw [et, b2]
      rw [b8] at h
      by_cases cn : n = 0
      · rw [if_pos cn] at h
        subst cn
        exact br_t rfl h
      · rw [if_neg cn] at h
        refine br_f (nI_ne0 (by omega) (by omega)) ⟨vt, ?_⟩
        by_cases ck : kl t = 0
        · rw [if_pos ck] at h
          exact br_t ck h
        · rw [if_neg ck] at h
          exact br_f ck h
  by_cases c5 : v2 = 5
  · refine fin (fc t) (fun post h => ?_) (fun post h => ?_)
    · unfold wpX_tenant; dsimp only
      exact xl_ten1 ht (br_f n0 (br_f e0 (br_f e6 (br_f c0 (br_f c1 (br_f c2 (br_f c3 (br_f c4 (br_t c5 ⟨vt, by rw [et]; exact h⟩)))))))))
    · unfold wpY_tenant; dsimp only
      refine yl_ten1 ht (br_f n0 (br_f e0 (br_f e6 (br_f c0 (br_f c1 (br_f c2 (br_f c3 (br_f c4 (br_t c5 (yl_fns (by omega) b2 b1 ?_))))))))))
      rw [b4, b5] at h
      exact h
  by_cases c6 : v2 = 6
  · refine fin (gc (nI t).toNatClampNeg) (fun post h => ?_) (fun post h => ?_)
    · unfold wpX_tenant; dsimp only
      exact xl_ten1 ht (br_f n0 (br_f e0 (br_f e6 (br_f c0 (br_f c1 (br_f c2 (br_f c3 (br_f c4 (br_f c5 (br_t c6 ⟨vt, h⟩))))))))))
    · unfold wpY_tenant; dsimp only
      exact yl_ten1 ht (br_f n0 (br_f e0 (br_f e6 (br_f c0 (br_f c1 (br_f c2 (br_f c3 (br_f c4 (br_f c5 (br_t c6 ⟨vt, h⟩))))))))))
  · unfold wpX_tenant; dsimp only
    exact xl_ten1 ht (br_f n0 (br_f e0 (br_f e6 (br_f c0 (br_f c1 (br_f c2 (br_f c3 (br_f c4 (br_f c5 (br_f c6 trivial))))))))))
theorem ru_loop (hd : rl_d tc fd) : ∀ d i : Nat, i + d = 4 → ∀ ux : Nat → Int32, ∃ ux' : Nat → Int32,
    (∀ t, (t < i ∨ 4 ≤ t) → ux' t = ux t) ∧ (∀ t, i ≤ t → t < 4 → (ts t = 2 → nf_t fd ft t → ux' t = 0) ∧ (¬ (ts t = 2 ∧ nf_t fd ft t) → ux' t = ux t)) ∧
    (∀ post : SX → Prop, post (q, tn, sl, pc, wp, he, co, ca, cb, fs, fc, ts, tu, ux', tl, ul, tm, gc, ga, gp, ss, st, sf, tc, tr, ow, ti, fd, ft, fk, fn, fh, fl, fv, rs, nt) → wX_releaseUnitsOfKilled_2 post q tn sl pc wp (d + 1) (nI i) he co ca cb fs fc ts tu ux tl ul tm gc ga gp ss st sf tc tr ow ti fd ft fk fn fh fl fv rs nt) := by
  intro d
  induction d with
  | zero =>
    intro i hi ux
    have : i = 4 := by omega
    subst this
    exact ⟨ux, fun _ _ => rfl, fun t h1 h2 => absurd h2 (by omega), fun _ h => br_t (by decide) h⟩
  | succ d ih =>
    intro i hi ux
    have ei : (nI i).toNatClampNeg = i := nI_clamp (by omega)
    have vi : vp_in (nI i) 4 := vp_in_nI (by omega) (by decide)
    have n : ¬ (4 : Int32) ≤ nI i := ix_ge 4 rfl (by omega) (by decide)
    have fl1 := fr_cl fd ft (nI i) 36
    by_cases c1 : ts i = 2
    · by_cases c2 : fr_c fd ft (nI i) 36 = 0
      · obtain ⟨ux', h1, h2, h3⟩ := ih (i + 1) (by omega) (upd ux i 0)
        refine ⟨ux', fun t ht => ?_, fun t l1 l2 => ?_, fun post h => ?_⟩
        · rw [h1 t (by omega), pk_un (by omega)]
        · by_cases ct : t = i
          · subst ct
            have e : ux' t = 0 := by rw [h1 t (by omega), pk_us]
            exact ⟨fun _ _ => e, fun z => absurd ⟨c1, (fr_nf hd t).mp c2⟩ z⟩
          · have z := h2 t (by omega) l2
            rw [pk_un ct] at z
            exact z
        · refine br_f n ⟨vi, br_t (by rw [ei]; exact c1) (xl_frames hd ?_)⟩
          rw [c2]
          exact br_t rfl ⟨vi, nm_r (by rw [ei]) (nm_r (nI_1 i) (h3 post h))⟩
      · obtain ⟨ux', h1, h2, h3⟩ := ih (i + 1) (by omega) ux
        refine ⟨ux', fun t ht => h1 t (by omega), fun t l1 l2 => ?_, fun post h => ?_⟩
        · by_cases ct : t = i
          · subst ct
            exact ⟨fun _ z => absurd ((fr_nf hd t).mpr z) c2, fun _ => h1 t (by omega)⟩
          · exact h2 t (by omega) l2
        · refine br_f n ⟨vi, br_t (by rw [ei]; exact c1) (xl_frames hd ?_)⟩
          exact br_f (nI_ne0 (by omega) (by omega)) (nm_r (nI_1 i) (h3 post h))
    · obtain ⟨ux', h1, h2, h3⟩ := ih (i + 1) (by omega) ux
      refine ⟨ux', fun t ht => h1 t (by omega), fun t l1 l2 => ?_, fun post h => ?_⟩
      · by_cases ct : t = i
        · subst ct
          exact ⟨fun z => absurd z c1, fun _ => h1 t (by omega)⟩
        · exact h2 t (by omega) l2
      · exact br_f n ⟨vi, br_f (by rw [ei]; exact c1) (nm_r (nI_1 i) (h3 post h))⟩
theorem ru_all (hd : rl_d tc fd) : ∃ ux' : Nat → Int32, (∀ t, t < 4 → (ts t = 2 → nf_t fd ft t → ux' t = 0) ∧ (¬ (ts t = 2 ∧ nf_t fd ft t) → ux' t = ux t)) ∧
    (∀ post : SX → Prop, post (q, tn, sl, pc, wp, he, co, ca, cb, fs, fc, ts, tu, ux', tl, ul, tm, gc, ga, gp, ss, st, sf, tc, tr, ow, ti, fd, ft, fk, fn, fh, fl, fv, rs, nt) → wpX_releaseUnitsOfKilled post (q, tn, sl, pc, wp, he, co, ca, cb, fs, fc, ts, tu, ux, tl, ul, tm, gc, ga, gp, ss, st, sf, tc, tr, ow, ti, fd, ft, fk, fn, fh, fl, fv, rs, nt)) := by
  obtain ⟨ux', h1, h2, h3⟩ := ru_loop (q := q) (tn := tn) (sl := sl) (pc := pc) (wp := wp) (he := he) (co := co) (ca := ca) (cb := cb) (fs := fs) (fc := fc) (ts := ts) (tu := tu) (tl := tl) (ul := ul) (tm := tm) (gc := gc) (ga := ga) (gp := gp) (ss := ss) (st := st) (sf := sf) (tc := tc) (tr := tr) (ow := ow) (ti := ti) (fd := fd) (ft := ft) (fk := fk) (fn := fn) (fh := fh) (fl := fl) (fv := fv) (rs := rs) (nt := nt) hd 4 0 rfl ux
  exact ⟨ux', fun t ht => h2 t (by omega) ht, fun post h => ⟨5, h3 post h⟩⟩
/-- the state of a tenant's bundle says whether it is killed -/
theorem ts_2 {H : Nat → Nat → Nat → Prop} {t : Nat} (h : rl_bt H le fc ts kl fs co ca cb t) : ts t = 2 ↔ kl t ≠ 0 := by
  obtain ⟨n, c, b1, b2, b3, b4, b5, b6, b7, b8, b9, b10, b11⟩ := h
  rw [b8]
  by_cases cn : n = 0
  · rw [if_pos cn]
    exact ⟨fun z => absurd z (by decide), fun z => absurd (b7 cn) z⟩
  · rw [if_neg cn]
    by_cases ck : kl t = 0
    · rw [if_pos ck]
      exact ⟨fun z => absurd z (by decide), fun z => absurd ck z⟩
    · rw [if_neg ck]
      exact ⟨fun _ => ck, fun _ => rfl⟩
theorem i_vc_kill {k : Nat} {u : SX} {v : SY} (I : i_Rel k u v) (hk : k + 5 ≤ 2561) (v1 : Int32) : wpX_kill (fun r u' => wpY_kill (fun r' v' => r' = r ∧ i_Rel (k + 5) u' v') v v1) u v1 := by
  have I5 := i_up I
  obtain ⟨H, q, tn, sl, pc, wp, yd, nd, he, co, ca, cb, fs, fc, ts, tu, ux, tl, ul, tm, gc, ga, gp, ss, st, sf, tc, tr, ow, ti, fd, ft, fk, fn, fh, fl, fv, rs, nt, le, kl, uy, fp, fz, au, rfl, rfl, a1, a2, a3, a4, a5, a6, a7, a8, a9, a10⟩ := I
  have n0 : ¬ (1 : Int32) = 0 := by decide
  have fin : ∀ (r : Int32) (u' : SX) (v' : SY), i_Rel (k + 5) u' v' → (∀ post : Int32 → SX → Prop, post r u' → wpX_kill post (q, tn, sl, pc, wp, he, co, ca, cb, fs, fc, ts, tu, ux, tl, ul, tm, gc, ga, gp, ss, st, sf, tc, tr, ow, ti, fd, ft, fk, fn, fh, fl, fv, rs, nt) v1) → (∀ post : Int32 → SY → Prop, post r v' → wpY_kill post (q, wp, tn, sl, yd, nd, co, ca, cb, le, he, kl, tu, uy, tl, ul, tm, gc, ga, gp, ss, st, sf, fd, tc, tr, ow, ti, ft, fn, fh, fp, fz, fl, fv, rs, au) v1) →
      wpX_kill (fun r u' => wpY_kill (fun r' v' => r' = r ∧ i_Rel (k + 5) u' v') (q, wp, tn, sl, yd, nd, co, ca, cb, le, he, kl, tu, uy, tl, ul, tm, gc, ga, gp, ss, st, sf, fd, tc, tr, ow, ti, ft, fn, fh, fp, fz, fl, fv, rs, au) v1) (q, tn, sl, pc, wp, he, co, ca, cb, fs, fc, ts, tu, ux, tl, ul, tm, gc, ga, gp, ss, st, sf, tc, tr, ow, ti, fd, ft, fk, fn, fh, fl, fv, rs, nt) v1 := fun r u' v' h1 h2 h3 => h2 _ (h3 _ ⟨rfl, h1⟩)
  rcases ten_c v1 with c | ⟨t, ht, rfl⟩
  · refine fin 0 _ _ I5 (fun post h => ?_) (fun post h => ?_)
    · unfold wpX_kill; dsimp only
      exact xl_ten0 c (br_t rfl h)
    · unfold wpY_kill; dsimp only
      exact yl_ten0 c (br_t rfl h)
  have vt : vp_in (nI t) 4 := vp_in_nI ht (by decide)
  have vt5 : vp_in (nI t) 5 := vp_in_nI (by omega) (by decide)
  have et : (nI t).toNatClampNeg = t := nI_clamp (by omega)
  have hd := rl_td a7
  have B := a4 t ht
  obtain ⟨n, c, b1, b2, b3, b4, b5, b6, b7, b8, b9, b10, b11⟩ := B
  by_cases cn : n = 0
  · refine fin 0 _ _ I5 (fun post h => ?_) (fun post h => ?_)
    · unfold wpX_kill; dsimp only
      refine xl_ten1 ht (br_f n0 ⟨vt, br_f ?_ h⟩)
      rw [et, b8, if_pos cn]; decide
    · unfold wpY_kill; dsimp only
      refine yl_ten1 ht (br_f n0 ⟨vt5, br_t ?_ h⟩)
      rw [et, b2, cn]; rfl
  by_cases ck : kl t = 0
  · have b8' : ts t = 1 := by rw [b8, if_neg cn, if_pos ck]
    obtain ⟨ux', r1, r2⟩ := ru_all (q := q) (tn := tn) (sl := sl) (pc := pc) (wp := wp) (he := he) (co := co) (ca := ca) (cb := cb) (fs := fs) (fc := fc) (tu := tu) (ux := ux) (tl := tl) (ul := ul) (tm := tm) (gc := gc) (ga := ga) (gp := gp) (ss := ss) (st := st) (sf := sf) (tc := tc) (tr := tr) (ow := ow) (ti := ti) (fd := fd) (ft := ft) (fk := fk) (fn := fn) (fh := fh) (fl := fl) (fv := fv) (rs := rs) (nt := nt) (ts := upd ts t 2) hd
    refine fin 1 (q, tn, sl, pc, wp, he, co, ca, cb, fs, fc, upd ts t 2, tu, ux', tl, ul, tm, gc, ga, gp, ss, st, sf, tc, tr, ow, ti, fd, ft, fk, fn, fh, fl, fv, rs, nt) (q, wp, tn, sl, yd, nd, co, ca, cb, le, he, upd kl t 1, tu, uy, tl, ul, tm, gc, ga, gp, ss, st, sf, fd, tc, tr, ow, ti, ft, fn, fh, fp, fz, fl, fv, rs, au) (mk_rel ⟨a1, a2, a3, ?_, a5, a6, a7, a8, ?_, rl_nU a10 (by omega)⟩) (fun post h => ?_) (fun post h => ?_)
    · intro s hs
      by_cases cs : s = t
      · subst cs
        refine ⟨n, c, b1, b2, b3, b4, b5, Or.inr pk_us, fun z => absurd z cn, ?_, b9, b10, b11⟩
        rw [pk_us, pk_us, if_neg cn, if_neg n0]
      · obtain ⟨n', c', q1, q2, q3, q4, q5, q6, q7, q8, q9, q10, q11⟩ := a4 s hs
        exact ⟨n', c', q1, q2, q3, q4, q5, by rw [pk_un cs]; exact q6, by rw [pk_un cs]; exact q7, by rw [pk_un cs, pk_un cs]; exact q8, q9, q10, q11⟩
    · intro s hs
      obtain ⟨u1, u2⟩ := a9 s hs
      obtain ⟨w1, w2⟩ := r1 s hs
      by_cases cs : s = t
      · subst cs
        rw [pk_us] at w1 w2
        refine ⟨fun _ z => w1 rfl z, fun z => ?_⟩
        have zn : ¬ nf_t fd ft s := fun y => z ⟨by rw [pk_us]; exact n0, y⟩
        rw [w2 (fun y => zn y.2)]
        exact u2 (fun y => zn y.2)
      · have e2 := ts_2 (a4 s hs)
        rw [pk_un cs] at w1 w2
        refine ⟨fun z1 z2 => ?_, fun z => ?_⟩
        · rw [pk_un cs] at z1
          exact w1 (e2.mpr z1) z2
        · rw [pk_un cs] at z
          rw [w2 (fun y => z ⟨e2.mp y.1, y.2⟩)]
          exact u2 z
    · unfold wpX_kill; dsimp only
      refine xl_ten1 ht (br_f n0 ⟨vt, br_t (by rw [et]; exact b8') ⟨vt, nm_r (e' := upd ts t 2) (by rw [et]) (r2 _ h)⟩⟩)
    · unfold wpY_kill; dsimp only
      refine yl_ten1 ht (br_f n0 ⟨vt5, br_f ?_ ⟨vt, br_t (by rw [et]; exact ck) ⟨vt, nm_r (e' := upd kl t 1) (by rw [et, ix_bn1]) h⟩⟩⟩)
      rw [et, b2]
      exact nI_ne0 (by omega) (by omega)
  · refine fin 0 _ _ I5 (fun post h => ?_) (fun post h => ?_)
    · unfold wpX_kill; dsimp only
      refine xl_ten1 ht (br_f n0 ⟨vt, br_f ?_ h⟩)
      rw [et, b8, if_neg cn, if_neg ck]; decide
    · unfold wpY_kill; dsimp only
      refine yl_ten1 ht (br_f n0 ⟨vt5, br_f ?_ ⟨vt, br_f (by rw [et]; exact ck) h⟩⟩)
      rw [et, b2]
      exact nI_ne0 (by omega) (by omega)
end
end
section
def lo_4 (fl : Nat → Int32) (x : Nat) (w : Int32) : Nat → Int32 := upd (upd (upd (upd fl (4 * x + 0) w) (4 * x + 1) 0) (4 * x + 2) 0) (4 * x + 3) 0
section
variable {q tn sl pc wp yd nd : Int32} {he co ca cb fs fc ts tu ux tl ul tm gc ga gp ss st sf tc tr ow ti fd ft fk fn fh fl fv rs nt le kl uy fp fz au : Nat → Int32}
theorem xl_push {post : SX → Prop} {x h : Nat} {w : Int32} (hx : x < 36) (hh : fh x = nI h) (h8 : h < 8) (hp : post (q, tn, sl, pc, wp, he, co, ca, cb, fs, fc, ts, tu, ux, tl, ul, tm, gc, ga, gp, ss, st, sf, tc, tr, ow, ti, fd, ft, fk, fn, upd fh x (nI (h + 1)), fl, upd fv (8 * x + h) w, rs, nt)) : wpX_push post (q, tn, sl, pc, wp, he, co, ca, cb, fs, fc, ts, tu, ux, tl, ul, tm, gc, ga, gp, ss, st, sf, tc, tr, ow, ti, fd, ft, fk, fn, fh, fl, fv, rs, nt) (nI x) w := by
  have ex : (nI x).toNatClampNeg = x := nI_clamp (by omega)
  have vx : vp_in (nI x) 36 := vp_in_nI hx (by decide)
  have e1 : nI x * 8 + nI h = nI (8 * x + h) := ix_r 8 rfl x h
  have e2 : (nI (8 * x + h)).toNatClampNeg = 8 * x + h := nI_clamp (by omega)
  have v2 : vp_in (nI (8 * x + h)) 288 := vp_in_nI (by omega) (by decide)
  exact ⟨vx, nm_r (e' := nI h) (by rw [ex, hh]) (br_f (ix_ge 8 rfl h8 (by decide)) ⟨by rw [e1]; exact v2, nm_r (by rw [e1, e2]) ⟨vx, nm_r (by rw [ex, nI_1]) hp⟩⟩)⟩
theorem yl_push {post : SY → Prop} {x h : Nat} {w : Int32} (hx : x < 36) (hh : fh x = nI h) (h8 : h < 8) (hp : post (q, wp, tn, sl, yd, nd, co, ca, cb, le, he, kl, tu, uy, tl, ul, tm, gc, ga, gp, ss, st, sf, fd, tc, tr, ow, ti, ft, fn, upd fh x (nI (h + 1)), fp, fz, fl, upd fv (8 * x + h) w, rs, au)) : wpY_push post (q, wp, tn, sl, yd, nd, co, ca, cb, le, he, kl, tu, uy, tl, ul, tm, gc, ga, gp, ss, st, sf, fd, tc, tr, ow, ti, ft, fn, fh, fp, fz, fl, fv, rs, au) (nI x) w := by
  have ex : (nI x).toNatClampNeg = x := nI_clamp (by omega)
  have vx : vp_in (nI x) 36 := vp_in_nI hx (by decide)
  have e1 : 8 * nI x + nI h = nI (8 * x + h) := ix_l 8 rfl x h
  have e2 : (nI (8 * x + h)).toNatClampNeg = 8 * x + h := nI_clamp (by omega)
  have v2 : vp_in (nI (8 * x + h)) 288 := vp_in_nI (by omega) (by decide)
  exact ⟨vx, vx, nm_r (by rw [ex, hh, nI_1]) ⟨by rw [ex, hh, e1]; exact v2, nm_r (by rw [ex, hh, e1, e2]) hp⟩⟩
theorem xl_pop {post : Int32 → SX → Prop} {x h : Nat} (hx : x < 36) (hh : fh x = nI (h + 1)) (h8 : h < 8) (hp : post (fv (8 * x + h)) (q, tn, sl, pc, wp, he, co, ca, cb, fs, fc, ts, tu, ux, tl, ul, tm, gc, ga, gp, ss, st, sf, tc, tr, ow, ti, fd, ft, fk, fn, upd fh x (nI h), fl, fv, rs, nt)) : wpX_pop post (q, tn, sl, pc, wp, he, co, ca, cb, fs, fc, ts, tu, ux, tl, ul, tm, gc, ga, gp, ss, st, sf, tc, tr, ow, ti, fd, ft, fk, fn, fh, fl, fv, rs, nt) (nI x) := by
  have ex : (nI x).toNatClampNeg = x := nI_clamp (by omega)
  have vx : vp_in (nI x) 36 := vp_in_nI hx (by decide)
  have e1 : nI x * 8 + nI h = nI (8 * x + h) := ix_r 8 rfl x h
  have e2 : (nI (8 * x + h)).toNatClampNeg = 8 * x + h := nI_clamp (by omega)
  have v2 : vp_in (nI (8 * x + h)) 288 := vp_in_nI (by omega) (by decide)
  exact ⟨vx, nm_r (e' := nI h) (by rw [ex, hh, nI_pred]) (br_t (nI_pos' (by omega)) ⟨vx, nm_r (e' := upd fh x (nI h)) (by rw [ex]) ⟨by rw [e1]; exact v2, by rw [e1, e2]; exact hp⟩⟩)⟩
theorem yl_pop {post : Int32 → SY → Prop} {x h : Nat} (hx : x < 36) (hh : fh x = nI (h + 1)) (h8 : h < 8) (hp : post (fv (8 * x + h)) (q, wp, tn, sl, yd, nd, co, ca, cb, le, he, kl, tu, uy, tl, ul, tm, gc, ga, gp, ss, st, sf, fd, tc, tr, ow, ti, ft, fn, upd fh x (nI h), fp, fz, fl, fv, rs, au)) : wpY_pop post (q, wp, tn, sl, yd, nd, co, ca, cb, le, he, kl, tu, uy, tl, ul, tm, gc, ga, gp, ss, st, sf, fd, tc, tr, ow, ti, ft, fn, fh, fp, fz, fl, fv, rs, au) (nI x) := by
  have ex : (nI x).toNatClampNeg = x := nI_clamp (by omega)
  have vx : vp_in (nI x) 36 := vp_in_nI hx (by decide)
  have e1 : 8 * nI x + nI h = nI (8 * x + h) := ix_l 8 rfl x h
  have e2 : (nI (8 * x + h)).toNatClampNeg = 8 * x + h := nI_clamp (by omega)
  have v2 : vp_in (nI (8 * x + h)) 288 := vp_in_nI (by omega) (by decide)
  exact ⟨vx, vx, nm_r (e' := upd fh x (nI h)) (by rw [ex, hh, nI_pred]) ⟨by rw [ex, hh, nI_pred, e1]; exact v2, by rw [ex, hh, nI_pred, e1, e2]; exact hp⟩⟩
theorem xl_top {post : Int32 → Prop} {k d : Nat} (hk : k < 6) (h0 : 0 < d) (ed : fd k = nI d) (hp : post (nI (6 * k + (d - 1)))) : wpX_topFrame post (q, tn, sl, pc, wp, he, co, ca, cb, fs, fc, ts, tu, ux, tl, ul, tm, gc, ga, gp, ss, st, sf, tc, tr, ow, ti, fd, ft, fk, fn, fh, fl, fv, rs, nt) (nI k) := by
  have ek : (nI k).toNatClampNeg = k := nI_clamp (by omega)
  have e : nI k * 6 + fd (nI k).toNatClampNeg - 1 = nI (6 * k + (d - 1)) := by
    rw [ek, ed, ix_r (M := 6) 6 rfl, ix_p (by omega)]
    exact congrArg nI (by omega)
  exact ⟨vp_in_nI hk (by decide), by rw [e]; exact hp⟩
theorem xl_end {post : SX → Prop} {k : Nat} {c r : Int32} (hk : k < 6) (hp : post (q, tn, 0, pc, wp, he, co, ca, cb, fs, fc, ts, tu, ux, tl, ul, tm, gc, ga, gp, ss, st, sf, upd tc k c, upd tr k r, ow, ti, upd fd k 0, ft, fk, fn, fh, fl, fv, rs, nt)) : wpX_endThread post (q, tn, sl, pc, wp, he, co, ca, cb, fs, fc, ts, tu, ux, tl, ul, tm, gc, ga, gp, ss, st, sf, tc, tr, ow, ti, fd, ft, fk, fn, fh, fl, fv, rs, nt) (nI k) c r := by
  have ek : (nI k).toNatClampNeg = k := nI_clamp (by omega)
  have vk : vp_in (nI k) 6 := vp_in_nI hk (by decide)
  exact ⟨vk, nm_r (by rw [ek]) ⟨vk, nm_r (by rw [ek]) ⟨vk, nm_r (by rw [ek]) hp⟩⟩⟩
theorem yl_end {post : SY → Prop} {k : Nat} {c r : Int32} (hk : k < 6) (hp : post (q, wp, tn, sl, yd, nd, co, ca, cb, le, he, kl, tu, uy, tl, ul, tm, gc, ga, gp, ss, st, sf, upd fd k 0, upd tc k c, upd tr k r, ow, ti, ft, fn, fh, fp, fz, fl, fv, rs, au)) : wpY_finish post (q, wp, tn, sl, yd, nd, co, ca, cb, le, he, kl, tu, uy, tl, ul, tm, gc, ga, gp, ss, st, sf, fd, tc, tr, ow, ti, ft, fn, fh, fp, fz, fl, fv, rs, au) (nI k) c r := by
  have ek : (nI k).toNatClampNeg = k := nI_clamp (by omega)
  have vk : vp_in (nI k) 6 := vp_in_nI hk (by decide)
  exact ⟨vk, nm_r (by rw [ek]) ⟨vk, nm_r (by rw [ek]) ⟨vk, nm_r (by rw [ek]) hp⟩⟩⟩
theorem xb_it {post : Int32 → SX → Prop} {x i n : Nat} (hx : x < 36) (hi : i < 4) (h : wX_beginFrame_93 post (nI x) q tn sl pc wp n (nI (i + 1)) he co ca cb fs fc ts tu ux tl ul tm gc ga gp ss st sf tc tr ow ti fd ft fk fn fh (upd fl (4 * x + i) 0) fv rs nt) : wX_beginFrame_93 post (nI x) q tn sl pc wp (n + 1) (nI i) he co ca cb fs fc ts tu ux tl ul tm gc ga gp ss st sf tc tr ow ti fd ft fk fn fh fl fv rs nt := by
  have e1 : nI x * 4 + nI i = nI (4 * x + i) := ix_r 4 rfl x i
  have e2 : (nI (4 * x + i)).toNatClampNeg = 4 * x + i := nI_clamp (by omega)
  exact br_f (ix_ge 4 rfl hi (by decide)) ⟨by rw [e1]; exact vp_in_nI (by omega) (by decide), nm_r (by rw [e1, e2]) (nm_r (nI_1 i) h)⟩
theorem yb_it {post : SY → Prop} {x i n : Nat} {w : Int32} (hx : x < 36) (hi : i < 4) (h0 : 0 < i) (h : wY_enter_66 post w (nI x) q wp tn sl yd nd n (nI (i + 1)) co ca cb le he kl tu uy tl ul tm gc ga gp ss st sf fd tc tr ow ti ft fn fh fp fz (upd fl (4 * x + i) 0) fv rs au) : wY_enter_66 post w (nI x) q wp tn sl yd nd (n + 1) (nI i) co ca cb le he kl tu uy tl ul tm gc ga gp ss st sf fd tc tr ow ti ft fn fh fp fz fl fv rs au := by
  have e1 : 4 * nI x + nI i = nI (4 * x + i) := ix_l 4 rfl x i
  have e2 : (nI (4 * x + i)).toNatClampNeg = 4 * x + i := nI_clamp (by omega)
  exact br_f (ix_ge 4 rfl hi (by decide)) (br_f (nI_ne0 h0 (by omega)) ⟨by rw [e1]; exact vp_in_nI (by omega) (by decide), nm_r (by rw [e1, e2]) (nm_r (nI_1 i) h)⟩)
theorem yb_i0 {post : SY → Prop} {x n : Nat} {w : Int32} (hx : x < 36) (h : wY_enter_66 post w (nI x) q wp tn sl yd nd n (nI 1) co ca cb le he kl tu uy tl ul tm gc ga gp ss st sf fd tc tr ow ti ft fn fh fp fz (upd fl (4 * x + 0) w) fv rs au) : wY_enter_66 post w (nI x) q wp tn sl yd nd (n + 1) (nI 0) co ca cb le he kl tu uy tl ul tm gc ga gp ss st sf fd tc tr ow ti ft fn fh fp fz fl fv rs au := by
  have e1 : 4 * nI x + nI 0 = nI (4 * x + 0) := ix_l 4 rfl x 0
  have e2 : (nI (4 * x + 0)).toNatClampNeg = 4 * x + 0 := nI_clamp (by omega)
  exact br_f (by decide) (br_t rfl ⟨by rw [e1]; exact vp_in_nI (by omega) (by decide), nm_r (by rw [e1, e2]) (nm_r (nI_1 0) h)⟩)
theorem xl_bf {post : Int32 → SX → Prop} {k d t f i : Nat} {w kd : Int32} (hk : k < 6) (hd : d < 6) (ed : fd k = nI d) (ht : t < 4) (hf : f < 4) (hs : fs (4 * t + f) = nI i)
    (hp : post 0 (q, tn, sl, pc, wp, he, co, ca, cb, fs, fc, ts, tu, ux, tl, ul, tm, gc, ga, gp, ss, st, sf, tc, tr, ow, ti, upd fd k (nI (d + 1)), upd ft (6 * k + d) (nI t), upd fk (6 * k + d) kd, upd fn (6 * k + d) (nI i), upd fh (6 * k + d) 0, lo_4 fl (6 * k + d) w, fv, rs, nt)) : wpX_beginFrame post (q, tn, sl, pc, wp, he, co, ca, cb, fs, fc, ts, tu, ux, tl, ul, tm, gc, ga, gp, ss, st, sf, tc, tr, ow, ti, fd, ft, fk, fn, fh, fl, fv, rs, nt) (nI k) (nI t) (nI f) w kd := by
  have ek : (nI k).toNatClampNeg = k := nI_clamp (by omega)
  have vk : vp_in (nI k) 6 := vp_in_nI hk (by decide)
  have e1 : nI k * 6 + fd (nI k).toNatClampNeg = nI (6 * k + d) := by rw [ek, ed]; exact ix_r 6 rfl k d
  have ex : (nI (6 * k + d)).toNatClampNeg = 6 * k + d := nI_clamp (by omega)
  have vx : vp_in (nI (6 * k + d)) 36 := vp_in_nI (by omega) (by decide)
  have e4 : nI t * 4 + nI f = nI (4 * t + f) := ix_r 4 rfl t f
  have e5 : (nI (4 * t + f)).toNatClampNeg = 4 * t + f := nI_clamp (by omega)
  have v4 : vp_in (nI t * 4 + nI f) 16 := by rw [e4]; exact vp_in_nI (by omega) (by decide)
  have e6 : nI (6 * k + d) * 4 = nI (4 * (6 * k + d)) := ix_m 4 rfl _
  have e7 : (nI (4 * (6 * k + d))).toNatClampNeg = 4 * (6 * k + d) := nI_clamp (by omega)
  have v6 : vp_in (nI (6 * k + d) * 4) 144 := by rw [e6]; exact vp_in_nI (by omega) (by decide)
  refine ⟨vk, br_t (by rw [ek, ed]; exact nI_lt (b := 6) hd (by decide)) ⟨vk, nm_r e1 ⟨vk, vk, nm_r (e' := upd fd k (nI (d + 1))) (by rw [ek, ed, nI_1]) ⟨vx, nm_r (e' := upd ft (6 * k + d) (nI t)) (by rw [ex]) ⟨vx, nm_r (e' := upd fk (6 * k + d) kd) (by rw [ex]) ⟨v4, vx, nm_r (e' := upd fn (6 * k + d) (nI i)) (by rw [ex, e4, e5, hs]) ⟨vx, nm_r (e' := upd fh (6 * k + d) 0) (by rw [ex]) ⟨v6, nm_r (e' := upd fl (4 * (6 * k + d) + 0) w) (by rw [e6, e7]; rfl) ⟨4, ?_⟩⟩⟩⟩⟩⟩⟩⟩⟩
  refine xb_it (i := 1) (by omega) (by decide) ?_
  refine xb_it (i := 2) (by omega) (by decide) ?_
  refine xb_it (i := 3) (by omega) (by decide) ?_
  exact br_t (by decide) hp
theorem xl_b6 {post : Int32 → SX → Prop} {k : Nat} {t f w kd : Int32} (hk : k < 6) (ed : fd k = nI 6) (hp : post 6 (q, tn, sl, pc, wp, he, co, ca, cb, fs, fc, ts, tu, ux, tl, ul, tm, gc, ga, gp, ss, st, sf, tc, tr, ow, ti, fd, ft, fk, fn, fh, fl, fv, rs, nt)) : wpX_beginFrame post (q, tn, sl, pc, wp, he, co, ca, cb, fs, fc, ts, tu, ux, tl, ul, tm, gc, ga, gp, ss, st, sf, tc, tr, ow, ti, fd, ft, fk, fn, fh, fl, fv, rs, nt) (nI k) t f w kd := by
  have ek : (nI k).toNatClampNeg = k := nI_clamp (by omega)
  exact ⟨vp_in_nI hk (by decide), br_f (by rw [ek, ed]; decide) hp⟩
theorem yl_bf {post : SY → Prop} {k d t f i n : Nat} {w : Int32} (hk : k < 6) (hd : d < 6) (ed : fd k = nI d) (ht : t < 4) (hl : le t = nI n) (hn : n ≤ 64) (hi : i < n) (h0 : co (64 * t + i) = 0) (hf : cf_n co (64 * t) i = f)
    (hp : post (q, wp, tn, sl, yd, nd, co, ca, cb, le, he, kl, tu, uy, tl, ul, tm, gc, ga, gp, ss, st, sf, upd fd k (nI (d + 1)), tc, tr, ow, ti, upd ft (6 * k + d) (nI t), upd fn (6 * k + d) (nI i), upd fh (6 * k + d) 0, upd fp (6 * k + d) 0, upd fz (6 * k + d) 0, lo_4 fl (6 * k + d) w, fv, rs, au)) : wpY_enter post (q, wp, tn, sl, yd, nd, co, ca, cb, le, he, kl, tu, uy, tl, ul, tm, gc, ga, gp, ss, st, sf, fd, tc, tr, ow, ti, ft, fn, fh, fp, fz, fl, fv, rs, au) (nI k) (nI t) (nI f) w := by
  have ek : (nI k).toNatClampNeg = k := nI_clamp (by omega)
  have vk : vp_in (nI k) 6 := vp_in_nI hk (by decide)
  have e1 : 6 * nI k + fd (nI k).toNatClampNeg = nI (6 * k + d) := by rw [ek, ed]; exact ix_l 6 rfl k d
  have ex : (nI (6 * k + d)).toNatClampNeg = 6 * k + d := nI_clamp (by omega)
  have vx : vp_in (nI (6 * k + d)) 36 := vp_in_nI (by omega) (by decide)
  refine ⟨vk, vk, nm_r (e' := upd fd k (nI (d + 1))) (by rw [ek, ed, nI_1]) (nm_r e1 ⟨vx, nm_r (e' := upd ft (6 * k + d) (nI t)) (by rw [ex]) ?_⟩)⟩
  refine yl_fun (by omega) hl hn hi h0 hf ?_
  refine ⟨vx, nm_r (e' := upd fn (6 * k + d) (nI i)) (by rw [ex]) ⟨vx, nm_r (e' := upd fh (6 * k + d) 0) (by rw [ex]) ⟨vx, nm_r (e' := upd fp (6 * k + d) 0) (by rw [ex, ix_bn0]) ⟨vx, nm_r (e' := upd fz (6 * k + d) 0) (by rw [ex, ix_bn0]) ⟨5, ?_⟩⟩⟩⟩⟩
  refine yb_i0 (by omega) ?_
  refine yb_it (i := 1) (by omega) (by decide) (by decide) ?_
  refine yb_it (i := 2) (by omega) (by decide) (by decide) ?_
  refine yb_it (i := 3) (by omega) (by decide) (by decide) ?_
  exact br_t (by decide) hp
/-- the least thread that does not run -/
theorem fl_loop : ∀ d i : Nat, i + d = 6 →
    (∃ k : Nat, i ≤ k ∧ k < 6 ∧ tc k ≠ -1 ∧ (∀ post : Int32 → Prop, post (nI k) → wX_freeThread_2 post q tn sl pc wp he co ca cb fs fc ts tu ux tl ul tm gc ga gp ss st sf tc tr ow ti fd ft fk fn fh fl fv rs nt (d + 1) (nI i)) ∧ (∀ (post : Int32 → SY → Prop) (y1 y2 y3 y4 y6 : Int32), wY_begin_57 post y1 y2 y3 y4 (nI k) y6 q wp tn sl yd nd co ca cb le he kl tu uy tl ul tm gc ga gp ss st sf fd tc tr ow ti ft fn fh fp fz fl fv rs au → wY_begin_33 post y1 y2 y3 y4 y6 q wp tn sl yd nd co ca cb le he kl tu uy tl ul tm gc ga gp ss st sf fd tc tr ow ti ft fn fh fp fz fl fv rs au (d + 1) (nI i))) ∨
    ((∀ post : Int32 → Prop, post (-1) → wX_freeThread_2 post q tn sl pc wp he co ca cb fs fc ts tu ux tl ul tm gc ga gp ss st sf tc tr ow ti fd ft fk fn fh fl fv rs nt (d + 1) (nI i)) ∧ (∀ (post : Int32 → SY → Prop) (y1 y2 y3 y4 y6 : Int32), post (-1) (q, wp, tn, sl, yd, nd, co, ca, cb, le, he, kl, tu, uy, tl, ul, tm, gc, ga, gp, ss, st, sf, fd, tc, tr, ow, ti, ft, fn, fh, fp, fz, fl, fv, rs, au) → wY_begin_33 post y1 y2 y3 y4 y6 q wp tn sl yd nd co ca cb le he kl tu uy tl ul tm gc ga gp ss st sf fd tc tr ow ti ft fn fh fp fz fl fv rs au (d + 1) (nI i))) := by
  intro d
  induction d with
  | zero =>
    intro i hi
    have : i = 6 := by omega
    subst this
    exact Or.inr ⟨fun _ h => br_t (by decide) h, fun _ _ _ _ _ _ h => br_t (by decide) (br_t rfl h)⟩
  | succ d ih =>
    intro i hi
    have ei : (nI i).toNatClampNeg = i := nI_clamp (by omega)
    have vi : vp_in (nI i) 6 := vp_in_nI (by omega) (by decide)
    have n : ¬ (6 : Int32) ≤ nI i := ix_ge 6 rfl (by omega) (by decide)
    by_cases c : tc i = -1
    · have c' : tc (nI i).toNatClampNeg = -1 := by rw [ei]; exact c
      rcases ih (i + 1) (by omega) with ⟨k, h1, h2, h3, h4, h5⟩ | ⟨h4, h5⟩
      · exact Or.inl ⟨k, by omega, h2, h3, fun post h => br_f n ⟨vi, br_t c' (nm_r (nI_1 i) (h4 post h))⟩, fun post y1 y2 y3 y4 y6 h => br_f n ⟨vi, br_t c' (nm_r (nI_1 i) (h5 post y1 y2 y3 y4 y6 h))⟩⟩
      · exact Or.inr ⟨fun post h => br_f n ⟨vi, br_t c' (nm_r (nI_1 i) (h4 post h))⟩, fun post y1 y2 y3 y4 y6 h => br_f n ⟨vi, br_t c' (nm_r (nI_1 i) (h5 post y1 y2 y3 y4 y6 h))⟩⟩
    · have c' : ¬ tc (nI i).toNatClampNeg = -1 := by rw [ei]; exact c
      exact Or.inl ⟨i, Nat.le_refl _, by omega, c, fun post h => br_f n ⟨vi, br_f c' h⟩, fun post y1 y2 y3 y4 y6 h => br_f n ⟨vi, br_f c' h⟩⟩
/-- a new thread: refused on both sides, or begun on both with the same number -/
theorem bl_all {t f i n : Nat} {w s : Int32} (hT : tn = -1 ∨ ∃ k : Nat, k < 6 ∧ tn = nI k) (ht : t < 4) (hf4 : f < 4) (hs : fs (4 * t + f) = nI i) (hl : le t = nI n) (hn : n ≤ 64) (hi : i < n) (h0 : co (64 * t + i) = 0) (hf : cf_n co (64 * t) i = f) :
    ((∀ post : Int32 → SX → Prop, post (-1) (q, tn, sl, pc, wp, he, co, ca, cb, fs, fc, ts, tu, ux, tl, ul, tm, gc, ga, gp, ss, st, sf, tc, tr, ow, ti, fd, ft, fk, fn, fh, fl, fv, rs, nt) → wpX_beginThread post (q, tn, sl, pc, wp, he, co, ca, cb, fs, fc, ts, tu, ux, tl, ul, tm, gc, ga, gp, ss, st, sf, tc, tr, ow, ti, fd, ft, fk, fn, fh, fl, fv, rs, nt) (nI t) (nI f) w s) ∧ (∀ post : Int32 → SY → Prop, post (-1) (q, wp, tn, sl, yd, nd, co, ca, cb, le, he, kl, tu, uy, tl, ul, tm, gc, ga, gp, ss, st, sf, fd, tc, tr, ow, ti, ft, fn, fh, fp, fz, fl, fv, rs, au) → wpY_begin post (q, wp, tn, sl, yd, nd, co, ca, cb, le, he, kl, tu, uy, tl, ul, tm, gc, ga, gp, ss, st, sf, fd, tc, tr, ow, ti, ft, fn, fh, fp, fz, fl, fv, rs, au) (nI t) (nI f) w s)) ∨
    ∃ (k : Nat) (tn' sl' : Int32), k < 6 ∧ tc k ≠ -1 ∧ ((tn = -1 ∧ tn' = nI k ∧ sl' = q) ∨ (tn ≠ -1 ∧ tn' = tn ∧ sl' = sl)) ∧
    (∀ post : Int32 → SX → Prop, post (nI k) (q, tn', sl', pc, wp, he, co, ca, cb, fs, fc, ts, tu, ux, tl, ul, tm, gc, ga, gp, ss, st, sf, upd tc k (-1), upd tr k 0, upd ow k (nI t), upd ti k s, upd (upd fd k 0) k (nI (0 + 1)), upd ft (6 * k + 0) (nI t), upd fk (6 * k + 0) 0, upd fn (6 * k + 0) (nI i), upd fh (6 * k + 0) 0, lo_4 fl (6 * k + 0) w, fv, rs, nt) → wpX_beginThread post (q, tn, sl, pc, wp, he, co, ca, cb, fs, fc, ts, tu, ux, tl, ul, tm, gc, ga, gp, ss, st, sf, tc, tr, ow, ti, fd, ft, fk, fn, fh, fl, fv, rs, nt) (nI t) (nI f) w s) ∧
    (∀ post : Int32 → SY → Prop, post (nI k) (q, wp, tn', sl', yd, nd, co, ca, cb, le, he, kl, tu, uy, tl, ul, tm, gc, ga, gp, ss, st, sf, upd (upd fd k 0) k (nI (0 + 1)), upd tc k (-1), upd tr k 0, upd ow k (nI t), upd ti k s, upd ft (6 * k + 0) (nI t), upd fn (6 * k + 0) (nI i), upd fh (6 * k + 0) 0, upd fp (6 * k + 0) 0, upd fz (6 * k + 0) 0, lo_4 fl (6 * k + 0) w, fv, rs, au) → wpY_begin post (q, wp, tn, sl, yd, nd, co, ca, cb, le, he, kl, tu, uy, tl, ul, tm, gc, ga, gp, ss, st, sf, fd, tc, tr, ow, ti, ft, fn, fh, fp, fz, fl, fv, rs, au) (nI t) (nI f) w s) := by
  have et : (nI t).toNatClampNeg = t := nI_clamp (by omega)
  have vt : vp_in (nI t) 4 := vp_in_nI ht (by decide)
  have n0 : ¬ (1 : Int32) = 0 := by decide
  obtain ⟨r, x1, y1⟩ := tl_all (q := q) (tn := tn) (sl := sl) (pc := pc) (wp := wp) (yd := yd) (nd := nd) (he := he) (co := co) (ca := ca) (cb := cb) (fs := fs) (fc := fc) (ts := ts) (tu := tu) (ux := ux) (tl := tl) (ul := ul) (tm := tm) (gc := gc) (ga := ga) (gp := gp) (ss := ss) (st := st) (sf := sf) (tc := tc) (tr := tr) (ow := ow) (ti := ti) (fd := fd) (ft := ft) (fk := fk) (fn := fn) (fh := fh) (fl := fl) (fv := fv) (rs := rs) (nt := nt) (le := le) (kl := kl) (uy := uy) (fp := fp) (fz := fz) (au := au) (nI t)
  have ytn : ∀ post : Int32 → SY → Prop, (∀ y6 : Int32, (y6 = 0 ∧ tn ≠ -1 ∨ y6 = 1 ∧ tn = -1) → wY_begin_33 post (nI t) (nI f) w s y6 q wp tn sl yd nd co ca cb le he kl tu uy tl ul tm gc ga gp ss st sf fd tc tr ow ti ft fn fh fp fz fl fv rs au 7 0) → r < tm (nI t).toNatClampNeg → wpY_begin post (q, wp, tn, sl, yd, nd, co, ca, cb, le, he, kl, tu, uy, tl, ul, tm, gc, ga, gp, ss, st, sf, fd, tc, tr, ow, ti, ft, fn, fh, fp, fz, fl, fv, rs, au) (nI t) (nI f) w s := by
    intro post h c
    unfold wpY_begin; dsimp only
    refine y1 _ ⟨vt, br_t c ?_⟩
    rcases hT with e | ⟨k, hk, e⟩
    · exact br_f (by rw [e]; decide) ⟨7, h 1 (Or.inr ⟨rfl, e⟩)⟩
    · exact br_t (by rw [e]; exact nI_pos' (by omega)) ⟨7, h 0 (Or.inl ⟨rfl, by rw [e]; exact ix_neg k (by omega)⟩)⟩
  by_cases c : r < tm (nI t).toNatClampNeg
  · rcases fl_loop (q := q) (tn := tn) (sl := sl) (pc := pc) (wp := wp) (yd := yd) (nd := nd) (he := he) (co := co) (ca := ca) (cb := cb) (fs := fs) (fc := fc) (ts := ts) (tu := tu) (ux := ux) (tl := tl) (ul := ul) (tm := tm) (gc := gc) (ga := ga) (gp := gp) (ss := ss) (st := st) (sf := sf) (tc := tc) (tr := tr) (ow := ow) (ti := ti) (fd := fd) (ft := ft) (fk := fk) (fn := fn) (fh := fh) (fl := fl) (fv := fv) (rs := rs) (nt := nt) (le := le) (kl := kl) (uy := uy) (fp := fp) (fz := fz) (au := au) 6 0 rfl with ⟨k, h1, h2, h3, h4, h5⟩ | ⟨h4, h5⟩
    · refine Or.inr ⟨k, if tn = -1 then nI k else tn, if tn = -1 then q else sl, h2, h3, ?_, fun post h => ?_, fun post h => ?_⟩
      · by_cases e : tn = -1
        · rw [if_pos e, if_pos e]; exact Or.inl ⟨e, rfl, rfl⟩
        · rw [if_neg e, if_neg e]; exact Or.inr ⟨e, rfl, rfl⟩
      · have ek : (nI k).toNatClampNeg = k := nI_clamp (by omega)
        have vk : vp_in (nI k) 6 := vp_in_nI h2 (by decide)
        unfold wpX_beginThread; dsimp only
        refine (show wpX_freeThread _ _ from ⟨7, h4 _ ?_⟩)
        refine br_f (ix_neg k (by omega)) (x1 _ ⟨vt, br_t c ⟨vk, nm_r (e' := upd tc k (-1)) (by rw [ek]) ⟨vk, nm_r (e' := upd tr k 0) (by rw [ek]) ⟨vk, nm_r (e' := upd ow k (nI t)) (by rw [ek]) ⟨vk, nm_r (e' := upd ti k s) (by rw [ek]) ⟨vk, nm_r (e' := upd fd k 0) (by rw [ek]) ?_⟩⟩⟩⟩⟩⟩)
        refine xl_bf (d := 0) h2 (by decide) pk_us ht hf4 hs ?_
        by_cases e : tn = -1
        · rw [if_pos e, if_pos e] at h
          exact br_t e h
        · rw [if_neg e, if_neg e] at h
          exact br_f e h
      · have ek : (nI k).toNatClampNeg = k := nI_clamp (by omega)
        have vk : vp_in (nI k) 6 := vp_in_nI h2 (by decide)
        refine ytn post (fun y6 hy => h5 post _ _ _ _ _ ?_) c
        refine br_f (ix_ne 6 rfl (by omega) (by omega) (by decide)) ⟨vk, nm_r (e' := upd tc k (-1)) (by rw [ek]) ⟨vk, nm_r (e' := upd tr k 0) (by rw [ek]) ⟨vk, nm_r (e' := upd ow k (nI t)) (by rw [ek]) ⟨vk, nm_r (e' := upd ti k s) (by rw [ek]) ⟨vk, nm_r (e' := upd fd k 0) (by rw [ek]) ?_⟩⟩⟩⟩⟩
        refine yl_bf (d := 0) h2 (by decide) pk_us ht hl hn hi h0 hf ?_
        rcases hy with ⟨z, e⟩ | ⟨z, e⟩
        · rw [if_neg e, if_neg e] at h
          exact br_t z h
        · rw [if_pos e, if_pos e] at h
          exact br_f (by rw [z]; exact n0) h
    · refine Or.inl ⟨fun post h => ?_, fun post h => ?_⟩
      · unfold wpX_beginThread; dsimp only
        exact (show wpX_freeThread _ _ from ⟨7, h4 _ (br_t rfl h)⟩)
      · exact ytn post (fun y6 hy => h5 post _ _ _ _ _ h) c
  · refine Or.inl ⟨fun post h => ?_, fun post h => ?_⟩
    · unfold wpX_beginThread; dsimp only
      rcases fl_loop (q := q) (tn := tn) (sl := sl) (pc := pc) (wp := wp) (yd := yd) (nd := nd) (he := he) (co := co) (ca := ca) (cb := cb) (fs := fs) (fc := fc) (ts := ts) (tu := tu) (ux := ux) (tl := tl) (ul := ul) (tm := tm) (gc := gc) (ga := ga) (gp := gp) (ss := ss) (st := st) (sf := sf) (tc := tc) (tr := tr) (ow := ow) (ti := ti) (fd := fd) (ft := ft) (fk := fk) (fn := fn) (fh := fh) (fl := fl) (fv := fv) (rs := rs) (nt := nt) (le := le) (kl := kl) (uy := uy) (fp := fp) (fz := fz) (au := au) 6 0 rfl with ⟨k, h1, h2, h3, h4, h5⟩ | ⟨h4, h5⟩
      · exact (show wpX_freeThread _ _ from ⟨7, h4 _ (br_f (ix_neg k (by omega)) (x1 _ ⟨vt, br_f c h⟩))⟩)
      · exact (show wpX_freeThread _ _ from ⟨7, h4 _ (br_t rfl h)⟩)
    · unfold wpY_begin; dsimp only
      exact y1 _ ⟨vt, br_f c h⟩
end
end
section
theorem fr_cg {H : Nat → Nat → Nat → Prop} {ft fn fh ft' fn' fh' : Nat → Int32} {x e : Nat} (h : fr_ok H ft fn fh x e) (e1 : ft' x = ft x) (e2 : fn' x = fn x) (e3 : fh' x = fh x) : fr_ok H ft' fn' fh' x e := by
  obtain ⟨t, i, hh, z1, z2, z3, z4, z5⟩ := h
  exact ⟨t, i, hh, z1, by rw [e1]; exact z2, by rw [e2]; exact z3, by rw [e3]; exact z4, z5⟩
theorem tl_cg {H : Nat → Nat → Nat → Prop} {ft fn fh fz ft' fn' fh' fz' : Nat → Int32} {k d : Nat} (h0 : 0 < d) (h : th_lo H ft fn fh fz k d) (e1 : ∀ j, j + 1 < d → ft' (6 * k + j) = ft (6 * k + j)) (e2 : ∀ j, j + 1 < d → fn' (6 * k + j) = fn (6 * k + j)) (e3 : ∀ j, j + 1 < d → fh' (6 * k + j) = fh (6 * k + j)) (e4 : ∀ j, j < d → fz' (6 * k + j) = fz (6 * k + j)) : th_lo H ft' fn' fh' fz' k d := by
  refine ⟨?_, fun j hj => ?_⟩
  · have := e4 0 h0
    rw [Nat.add_zero] at this
    rw [this]
    exact h.1
  · rw [show 6 * k + j + 1 = 6 * k + (j + 1) by omega, e4 (j + 1) hj]
    exact fr_cg (h.2 j hj) (e1 j hj) (e2 j hj) (e3 j hj)
theorem th_cg {H : Nat → Nat → Nat → Prop} {ft fn fh fz tc fd ft' fn' fh' fz' tc' fd' : Nat → Int32} {k : Nat} (h : th_ok H ft fn fh fz tc fd k) (e1 : ∀ j, j < 6 → ft' (6 * k + j) = ft (6 * k + j)) (e2 : ∀ j, j < 6 → fn' (6 * k + j) = fn (6 * k + j)) (e3 : ∀ j, j < 6 → fh' (6 * k + j) = fh (6 * k + j)) (e4 : ∀ j, j < 6 → fz' (6 * k + j) = fz (6 * k + j)) (e5 : tc' k = tc k) (e6 : fd' k = fd k) : th_ok H ft' fn' fh' fz' tc' fd' k := by
  obtain ⟨d, z1, z2, z3, z4⟩ := h
  refine ⟨d, z1, by rw [e6]; exact z2, by rw [e5]; exact z3, fun h0 => ?_⟩
  obtain ⟨y1, y2⟩ := z4 h0
  exact ⟨tl_cg h0 y1 (fun j hj => e1 j (by omega)) (fun j hj => e2 j (by omega)) (fun j hj => e3 j (by omega)) (fun j hj => e4 j (by omega)), fr_cg y2 (e1 _ (by omega)) (e2 _ (by omega)) (e3 _ (by omega))⟩
/-- a frame of tenant t on top of thread k -/
theorem nf_up {fd ft fd' ft' : Nat → Int32} {k d t s : Nat} (hd : d < 6) (ed : fd k = nI d) (ed' : fd' k = nI (d + 1)) (eo : ∀ j, j ≠ k → fd' j = fd j) (et : ft' (6 * k + d) = nI t) (ex : ∀ x, x ≠ 6 * k + d → ft' x = ft x) :
    (nf_t fd' ft' s → nf_t fd ft s) ∧ (t < 4 → s < 4 → s ≠ t → nf_t fd ft s → nf_t fd' ft' s) := by
  constructor
  · intro h k' hk' d' hd' e j hj
    by_cases ck : k' = k
    · subst ck
      rw [ed, nI_eq (by omega) (by omega)] at e
      have := h k' hk' (d + 1) (by omega) ed' j (by omega)
      rwa [ex _ (by omega)] at this
    · have := h k' hk' d' hd' (by rw [eo k' ck]; exact e) j hj
      rwa [ex _ (by omega)] at this
  · intro ht hs hst h k' hk' d' hd' e j hj
    by_cases ck : k' = k
    · subst ck
      rw [ed', nI_eq (by omega) (by omega)] at e
      by_cases cj : j = d
      · subst cj
        rw [et]
        intro z
        rw [nI_eq (by omega) (by omega)] at z
        exact hst z.symm
      · rw [ex _ (by omega)]
        exact h k' hk' d (by omega) ed j (by omega)
    · rw [ex _ (by omega)]
      exact h k' hk' d' hd' (by rw [← eo k' ck]; exact e) j hj
theorem ru_up {ux uy kl fd ft fd' ft' : Nat → Int32} {k d t : Nat} (h : rl_u ux uy kl fd ft) (ht : t < 4) (hk0 : kl t = 0) (hd : d < 6) (ed : fd k = nI d) (ed' : fd' k = nI (d + 1)) (eo : ∀ j, j ≠ k → fd' j = fd j) (et : ft' (6 * k + d) = nI t) (ex : ∀ x, x ≠ 6 * k + d → ft' x = ft x) : rl_u ux uy kl fd' ft' := by
  intro s hs
  obtain ⟨u1, u2⟩ := h s hs
  obtain ⟨n1, n2⟩ := nf_up (s := s) hd ed ed' eo et ex
  refine ⟨fun z1 z2 => u1 z1 (n1 z2), fun z => u2 (fun y => z ⟨y.1, n2 ht hs (fun c => ?_) y.2⟩)⟩
  subst c
  exact y.1 hk0
theorem rl_tw {tn sl : Int32} {tc : Nat → Int32} (h : rl_tn tn sl tc) : tn = -1 ∨ ∃ k : Nat, k < 6 ∧ tn = nI k := by
  rcases h with e | ⟨k, hk, e, _⟩
  · exact Or.inl e
  · exact Or.inr ⟨k, hk, e⟩
section
variable {q tn sl pc wp yd nd : Int32} {he co ca cb fs fc ts tu ux tl ul tm gc ga gp ss st sf tc tr ow ti fd ft fk fn fh fl fv rs nt le kl uy fp fz au : Nat → Int32}
theorem pr_new {M : Nat} {H : Nat → Nat → Nat → Prop} {k t i : Nat} {tn' sl' s w : Int32} (R : rl_R M H q tn sl pc wp yd nd he co ca cb fs fc ts tu ux tl ul tm gc ga gp ss st sf tc tr ow ti fd ft fk fn fh fl fv rs nt le kl uy fp fz au) (hk : k < 6) (hc : tc k ≠ -1) (ht : t < 4) (hk0 : kl t = 0) (hH : H t i 0)
    (hT : (tn = -1 ∧ tn' = nI k ∧ sl' = q) ∨ (tn ≠ -1 ∧ tn' = tn ∧ sl' = sl)) :
    rl_R M H q tn' sl' pc wp yd nd he co ca cb fs fc ts tu ux tl ul tm gc ga gp ss st sf (upd tc k (-1)) (upd tr k 0) (upd ow k (nI t)) (upd ti k s) (upd (upd fd k 0) k (nI (0 + 1))) (upd ft (6 * k + 0) (nI t)) (upd fk (6 * k + 0) 0) (upd fn (6 * k + 0) (nI i)) (upd fh (6 * k + 0) 0) (lo_4 fl (6 * k + 0) w) fv rs nt le kl uy (upd fp (6 * k + 0) 0) (upd fz (6 * k + 0) 0) au := by
  obtain ⟨a1, a2, a3, a4, a5, a6, a7, a8, a9, a10⟩ := R
  obtain ⟨d, d1, d2, d3, d4⟩ := a7 k hk
  have d0 : d = 0 := by
    rcases Nat.eq_zero_or_pos d with z | z
    · exact z
    · exact absurd (d3.mpr z) hc
  subst d0
  refine ⟨a1, ?_, a3, a4, a5, a6, ?_, ?_, ?_, a10⟩
  · rcases hT with ⟨e, e1, e2⟩ | ⟨e, e1, e2⟩
    · obtain ⟨n, n1, n2, n3⟩ := a1
      exact Or.inr ⟨k, hk, e1, pk_us, n, n1, n2, by rw [e2]; exact n3⟩
    · rcases a2 with z | ⟨k', z1, z2, z3, z4⟩
      · exact absurd z e
      · refine Or.inr ⟨k', z1, by rw [e1]; exact z2, ?_, by rw [e2]; exact z4⟩
        rw [pk_un (fun c => hc (by rw [← c]; exact z3))]
        exact z3
  · intro k' hk'
    by_cases ck : k' = k
    · subst ck
      refine ⟨1, by decide, pk_us, ⟨fun _ => by decide, fun _ => pk_us⟩, fun _ => ⟨⟨?_, fun j hj => absurd hj (by omega)⟩, t, i, 0, ht, pk_us, pk_us, pk_us, hH⟩⟩
      exact pk_us
    · exact th_cg (a7 k' hk') (fun j hj => pk_un (by omega)) (fun j hj => pk_un (by omega)) (fun j hj => pk_un (by omega)) (fun j hj => pk_un (by omega)) (pk_un ck) (by rw [pk_un ck, pk_un ck])
  · intro x hx
    by_cases cx : x = 6 * k + 0
    · subst cx
      exact Or.inl ⟨pk_us, pk_us, pk_us⟩
    · unfold rl_kx
      rw [pk_un cx, pk_un cx, pk_un cx]
      exact a8 x hx
  · exact ru_up (d := 0) (k := k) (t := t) a9 ht hk0 (by decide) d2 pk_us (fun j hj => by rw [pk_un hj, pk_un hj]) pk_us (fun x hx => pk_un hx)
theorem xl_ce0 {post : Int32 → Prop} {t : Nat} {f : Int32} (ht : t < 4) (h : f < 0 ∨ fc t ≤ f ∨ ts t ≠ 1) (hp : post 0) : wpX_canEnter post (q, tn, sl, pc, wp, he, co, ca, cb, fs, fc, ts, tu, ux, tl, ul, tm, gc, ga, gp, ss, st, sf, tc, tr, ow, ti, fd, ft, fk, fn, fh, fl, fv, rs, nt) (nI t) f := by
  have et : (nI t).toNatClampNeg = t := nI_clamp (by omega)
  have vt : vp_in (nI t) 4 := vp_in_nI ht (by decide)
  by_cases c1 : f < 0
  · exact br_t c1 (br_t rfl hp)
  · by_cases c2 : fc t ≤ f
    · exact br_f c1 ⟨vt, br_t (by rw [et]; exact c2) (br_t rfl hp)⟩
    · have c3 : ts t ≠ 1 := (h.resolve_left c1).resolve_left c2
      exact br_f c1 ⟨vt, br_f (by rw [et]; exact c2) (br_f (by decide) ⟨vt, br_f (by rw [et]; exact c3) hp⟩)⟩
theorem xl_ce1 {post : Int32 → Prop} {t : Nat} {f : Int32} (ht : t < 4) (h1 : ¬ f < 0) (h2 : ¬ fc t ≤ f) (h3 : ts t = 1) (hp : post 1) : wpX_canEnter post (q, tn, sl, pc, wp, he, co, ca, cb, fs, fc, ts, tu, ux, tl, ul, tm, gc, ga, gp, ss, st, sf, tc, tr, ow, ti, fd, ft, fk, fn, fh, fl, fv, rs, nt) (nI t) f := by
  have et : (nI t).toNatClampNeg = t := nI_clamp (by omega)
  have vt : vp_in (nI t) 4 := vp_in_nI ht (by decide)
  exact br_f h1 ⟨vt, br_f (by rw [et]; exact h2) (br_f (by decide) ⟨vt, br_t (by rw [et]; exact h3) hp⟩)⟩
theorem i_vc_start {k : Nat} {u : SX} {v : SY} (I : i_Rel k u v) (hk : k + 5 ≤ 2561) (v1 : Int32) (v2 : Int32) (v3 : Int32) : wpX_start (fun r u' => wpY_start (fun r' v' => r' = r ∧ i_Rel (k + 5) u' v') v v1 v2 v3) u v1 v2 v3 := by
  have I5 := i_up I
  obtain ⟨H, q, tn, sl, pc, wp, yd, nd, he, co, ca, cb, fs, fc, ts, tu, ux, tl, ul, tm, gc, ga, gp, ss, st, sf, tc, tr, ow, ti, fd, ft, fk, fn, fh, fl, fv, rs, nt, le, kl, uy, fp, fz, au, rfl, rfl, a1, a2, a3, a4, a5, a6, a7, a8, a9, a10⟩ := I
  have n0 : ¬ (1 : Int32) = 0 := by decide
  have fin : ∀ (r : Int32) (u' : SX) (v' : SY), i_Rel (k + 5) u' v' → (∀ post : Int32 → SX → Prop, post r u' → wpX_start post (q, tn, sl, pc, wp, he, co, ca, cb, fs, fc, ts, tu, ux, tl, ul, tm, gc, ga, gp, ss, st, sf, tc, tr, ow, ti, fd, ft, fk, fn, fh, fl, fv, rs, nt) v1 v2 v3) → (∀ post : Int32 → SY → Prop, post r v' → wpY_start post (q, wp, tn, sl, yd, nd, co, ca, cb, le, he, kl, tu, uy, tl, ul, tm, gc, ga, gp, ss, st, sf, fd, tc, tr, ow, ti, ft, fn, fh, fp, fz, fl, fv, rs, au) v1 v2 v3) →
      wpX_start (fun r u' => wpY_start (fun r' v' => r' = r ∧ i_Rel (k + 5) u' v') (q, wp, tn, sl, yd, nd, co, ca, cb, le, he, kl, tu, uy, tl, ul, tm, gc, ga, gp, ss, st, sf, fd, tc, tr, ow, ti, ft, fn, fh, fp, fz, fl, fv, rs, au) v1 v2 v3) (q, tn, sl, pc, wp, he, co, ca, cb, fs, fc, ts, tu, ux, tl, ul, tm, gc, ga, gp, ss, st, sf, tc, tr, ow, ti, fd, ft, fk, fn, fh, fl, fv, rs, nt) v1 v2 v3 := fun r u' v' h1 h2 h3 => h2 _ (h3 _ ⟨rfl, h1⟩)
  rcases ten_c v1 with c | ⟨t, ht, rfl⟩
  · refine fin (-1) _ _ I5 (fun post h => ?_) (fun post h => ?_)
    · unfold wpX_start; dsimp only
      exact xl_ten0 c (br_t rfl h)
    · unfold wpY_start; dsimp only
      exact yl_ten0 c (br_t rfl h)
  have vt : vp_in (nI t) 4 := vp_in_nI ht (by decide)
  have et : (nI t).toNatClampNeg = t := nI_clamp (by omega)
  obtain ⟨n, c, b1, b2, b3, b4, b5, b6, b7, b8, b9, b10, b11⟩ := a4 t ht
  have xno : (v2 < 0 ∨ fc t ≤ v2 ∨ ts t ≠ 1) → ∀ post : Int32 → SX → Prop, post (-1) (q, tn, sl, pc, wp, he, co, ca, cb, fs, fc, ts, tu, ux, tl, ul, tm, gc, ga, gp, ss, st, sf, tc, tr, ow, ti, fd, ft, fk, fn, fh, fl, fv, rs, nt) → wpX_start post (q, tn, sl, pc, wp, he, co, ca, cb, fs, fc, ts, tu, ux, tl, ul, tm, gc, ga, gp, ss, st, sf, tc, tr, ow, ti, fd, ft, fk, fn, fh, fl, fv, rs, nt) (nI t) v2 v3 := by
    intro z post h
    unfold wpX_start; dsimp only
    exact xl_ten1 ht (br_f n0 (xl_ce0 ht z (br_t rfl h)))
  by_cases ck : kl t = 0
  · by_cases c1 : v2 < 0
    · refine fin (-1) _ _ I5 (xno (Or.inl c1)) (fun post h => ?_)
      unfold wpY_start; dsimp only
      exact yl_ten1 ht (br_f n0 ⟨vt, br_t (by rw [et]; exact ck) (br_t c1 h)⟩)
    obtain ⟨f, hf, rfl⟩ := nI_of c1
    by_cases c2 : f < c
    · have hn : n ≠ 0 := by
        intro z
        rw [b5, z] at c2
        exact absurd c2 (Nat.not_lt_zero f)
      have hts : ts t = 1 := by rw [b8, if_neg hn, if_pos ck]
      obtain ⟨i, i1, i2, i3, i4⟩ := b9 f c2
      have xy : ∀ post : Int32 → SX → Prop, wpX_beginThread post (q, tn, sl, pc, wp, he, co, ca, cb, fs, fc, ts, tu, ux, tl, ul, tm, gc, ga, gp, ss, st, sf, tc, tr, ow, ti, fd, ft, fk, fn, fh, fl, fv, rs, nt) (nI t) (nI f) v3 0 → wpX_start post (q, tn, sl, pc, wp, he, co, ca, cb, fs, fc, ts, tu, ux, tl, ul, tm, gc, ga, gp, ss, st, sf, tc, tr, ow, ti, fd, ft, fk, fn, fh, fl, fv, rs, nt) (nI t) (nI f) v3 := by
        intro post h
        unfold wpX_start; dsimp only
        exact xl_ten1 ht (br_f n0 (xl_ce1 ht c1 (by rw [b4]; exact nI_ge c2 (by omega)) hts (br_f n0 h)))
      have yy : ∀ post : Int32 → SY → Prop, wpY_begin post (q, wp, tn, sl, yd, nd, co, ca, cb, le, he, kl, tu, uy, tl, ul, tm, gc, ga, gp, ss, st, sf, fd, tc, tr, ow, ti, ft, fn, fh, fp, fz, fl, fv, rs, au) (nI t) (nI f) v3 0 → wpY_start post (q, wp, tn, sl, yd, nd, co, ca, cb, le, he, kl, tu, uy, tl, ul, tm, gc, ga, gp, ss, st, sf, fd, tc, tr, ow, ti, ft, fn, fh, fp, fz, fl, fv, rs, au) (nI t) (nI f) v3 := by
        intro post h
        unfold wpY_start; dsimp only
        refine yl_ten1 ht (br_f n0 ⟨vt, br_t (by rw [et]; exact ck) (br_f c1 (yl_fns (by omega) b2 b1 (br_t ?_ h)))⟩)
        rw [← b5]
        exact nI_lt c2 (by omega)
      rcases bl_all (q := q) (tn := tn) (sl := sl) (pc := pc) (wp := wp) (yd := yd) (nd := nd) (he := he) (co := co) (ca := ca) (cb := cb) (fs := fs) (fc := fc) (ts := ts) (tu := tu) (ux := ux) (tl := tl) (ul := ul) (tm := tm) (gc := gc) (ga := ga) (gp := gp) (ss := ss) (st := st) (sf := sf) (tc := tc) (tr := tr) (ow := ow) (ti := ti) (fd := fd) (ft := ft) (fk := fk) (fn := fn) (fh := fh) (fl := fl) (fv := fv) (rs := rs) (nt := nt) (le := le) (kl := kl) (uy := uy) (fp := fp) (fz := fz) (au := au) (w := v3) (s := 0) (rl_tw a2) ht (by omega) i2 b2 b1 i1 i3 i4 with ⟨x1, y1⟩ | ⟨k', tn', sl', h1, h2, h3, x1, y1⟩
      · exact fin (-1) _ _ I5 (fun post h => xy _ (x1 _ h)) (fun post h => yy _ (y1 _ h))
      · exact fin (nI k') _ _ (mk_rel (pr_new (R := ⟨a1, a2, a3, a4, a5, a6, a7, a8, a9, rl_nU a10 (by omega)⟩) h1 h2 ht ck (b10 i i1 i3) h3)) (fun post h => xy _ (x1 _ h)) (fun post h => yy _ (y1 _ h))
    · refine fin (-1) _ _ I5 (xno (Or.inr (Or.inl (by rw [b4]; exact nI_le (by omega) hf)))) (fun post h => ?_)
      unfold wpY_start; dsimp only
      refine yl_ten1 ht (br_f n0 ⟨vt, br_t (by rw [et]; exact ck) (br_f c1 (yl_fns (by omega) b2 b1 (br_f ?_ h)))⟩)
      rw [← b5]
      exact nI_nlt (by omega) hf
  · refine fin (-1) _ _ I5 (xno (Or.inr (Or.inr ?_))) (fun post h => ?_)
    · rw [b8]
      by_cases cn : n = 0
      · rw [if_pos cn]; decide
      · rw [if_neg cn, if_neg ck]; decide
    · unfold wpY_start; dsimp only
      exact yl_ten1 ht (br_f n0 ⟨vt, br_f (by rw [et]; exact ck) h⟩)
end
end
section
def rl_v (ux uy kl fd ft : Nat → Int32) : Prop := ∀ t, t < 4 → ¬ (kl t ≠ 0 ∧ nf_t fd ft t) → ux t = uy t
theorem rl_uv {ux uy kl fd ft : Nat → Int32} (h : rl_u ux uy kl fd ft) : rl_v ux uy kl fd ft := fun t ht => (h t ht).2
/-- what a step leaves alone, but for the notes' bound -/
def rl_C (M : Nat) (H : Nat → Nat → Nat → Prop) (q pc nd : Int32) (le fc ts kl fs co ca cb gc gp st sf au nt : Nat → Int32) : Prop :=
  rl_q q ∧ rl_pc pc le ∧ rl_b H le fc ts kl fs co ca cb ∧ rl_g gc gp ∧ rl_s st sf ∧ rl_n M nd au nt
/-- the states after a step of thread k and before units are released and the turn passes -/
def md_R (M k s : Nat) (u : SX) (v : SY) : Prop :=
  ∃ (H : Nat → Nat → Nat → Prop) (q tn sl pc wp yd nd slx : Int32) (he co ca cb fs fc ts tu ux tl ul tm gc ga gp ss st sf tc tr ow ti fd ft fk fn fh fl fv rs nt le kl uy fp fz au : Nat → Int32),
  u = (q, tn, slx, pc, wp, he, co, ca, cb, fs, fc, ts, tu, ux, tl, ul, tm, gc, ga, gp, ss, st, sf, tc, tr, ow, ti, fd, ft, fk, fn, fh, fl, fv, rs, nt) ∧ v = (q, wp, tn, sl, yd, nd, co, ca, cb, le, he, kl, tu, uy, tl, ul, tm, gc, ga, gp, ss, st, sf, fd, tc, tr, ow, ti, ft, fn, fh, fp, fz, fl, fv, rs, au) ∧ rl_C M H q pc nd le fc ts kl fs co ca cb gc gp st sf au nt ∧ tn = nI k ∧ sl = nI s ∧ (slx = nI s ∧ tc k = -1 ∧ yd = 0 ∨ slx = 0 ∧ (tc k ≠ -1 ∨ yd ≠ 0)) ∧
  rl_t H ft fn fh fz tc fd ∧ rl_k fk fp fz ∧ rl_v ux uy kl fd ft
theorem nf_dn {fd ft fd' ft' : Nat → Int32} {k d d' s : Nat} (hd : d ≤ 6) (hd' : d' ≤ d) (ed : fd k = nI d) (ed' : fd' k = nI d') (eo : ∀ j, j ≠ k → fd' j = fd j) (ex : ∀ x, ft' x = ft x) (h : nf_t fd ft s) : nf_t fd' ft' s := by
  intro k' hk' e he6 ee j hj
  rw [ex]
  by_cases ck : k' = k
  · subst ck
    rw [ed', nI_eq (by omega) (by omega)] at ee
    exact h k' hk' d hd ed j (by omega)
  · exact h k' hk' e he6 (by rw [← eo k' ck]; exact ee) j hj
theorem rv_dn {ux uy kl fd ft : Nat → Int32} {k d d' : Nat} (h : rl_v ux uy kl fd ft) (hd : d ≤ 6) (hd' : d' ≤ d) (ed : fd k = nI d) : rl_v ux uy kl (upd fd k (nI d')) ft := fun t ht z =>
  h t ht (fun y => z ⟨y.1, nf_dn hd hd' ed pk_us (fun j hj => pk_un hj) (fun _ => rfl) y.2⟩)
theorem bu_h8 {H : Nat → Nat → Nat → Prop} {le fc ts kl fs co ca cb : Nat → Int32} (B : rl_b H le fc ts kl fs co ca cb) {t i h : Nat} (ht : t < 4) (hH : H t i h) : h ≤ 8 := by
  obtain ⟨n, c, b1, b2, b3, b4, b5, b6, b7, b8, b9, b10, b11⟩ := B t ht
  exact (b11 i h hH).2.1
section
variable {q tn sl pc wp yd nd : Int32} {he co ca cb fs fc ts tu ux tl ul tm gc ga gp ss st sf tc tr ow ti fd ft fk fn fh fl fv rs nt le kl uy fp fz au : Nat → Int32}
theorem mk_md {M k s : Nat} {H : Nat → Nat → Nat → Prop} {slx : Int32} (C : rl_C M H q pc nd le fc ts kl fs co ca cb gc gp st sf au nt) (h1 : tn = nI k) (h2 : sl = nI s) (h3 : slx = nI s ∧ tc k = -1 ∧ yd = 0 ∨ slx = 0 ∧ (tc k ≠ -1 ∨ yd ≠ 0))
    (h4 : rl_t H ft fn fh fz tc fd) (h5 : rl_k fk fp fz) (h6 : rl_v ux uy kl fd ft) : md_R M k s (q, tn, slx, pc, wp, he, co, ca, cb, fs, fc, ts, tu, ux, tl, ul, tm, gc, ga, gp, ss, st, sf, tc, tr, ow, ti, fd, ft, fk, fn, fh, fl, fv, rs, nt) (q, wp, tn, sl, yd, nd, co, ca, cb, le, he, kl, tu, uy, tl, ul, tm, gc, ga, gp, ss, st, sf, fd, tc, tr, ow, ti, ft, fn, fh, fp, fz, fl, fv, rs, au) :=
  ⟨H, q, tn, sl, pc, wp, yd, nd, slx, he, co, ca, cb, fs, fc, ts, tu, ux, tl, ul, tm, gc, ga, gp, ss, st, sf, tc, tr, ow, ti, fd, ft, fk, fn, fh, fl, fv, rs, nt, le, kl, uy, fp, fz, au, rfl, rfl, C, h1, h2, h3, h4, h5, h6⟩
theorem rs_loop {M k s : Nat} {H : Nat → Nat → Nat → Prop} {f : Int32} (C : rl_C M H q pc nd le fc ts kl fs co ca cb gc gp st sf au nt) (htn : tn = nI k) (hsl : sl = nI s) (hyd : yd = 0) (hf : f ≠ -1) (hk : k < 6) (htc : tc k = -1) (hK : rl_k fk fp fz) :
    ∀ (d : Nat) (fd : Nat → Int32), d + 1 ≤ 6 → fd k = nI (d + 1) → th_lo H ft fn fh fz k (d + 1) → (∀ k', k' < 6 → k' ≠ k → th_ok H ft fn fh fz tc fd k') → rl_v ux uy kl fd ft →
    ∃ (u1 : SX) (v1 : SY), md_R M k s u1 v1 ∧ (∀ post : SX → Prop, post u1 → wX_unwind_12 post (nI k) f (nI (6 * k)) q tn sl pc wp (d + 1) (nI (6 * k + d)) he co ca cb fs fc ts tu ux tl ul tm gc ga gp ss st sf tc tr ow ti fd ft fk fn fh fl fv rs nt) ∧ (∀ post : SY → Prop, post v1 → wY_raise_0 post (nI k) f q wp tn sl yd nd (d + 2) co ca cb le he kl tu uy tl ul tm gc ga gp ss st sf fd tc tr ow ti ft fn fh fp fz fl fv rs au) := by
  have ek : (nI k).toNatClampNeg = k := nI_clamp (by omega)
  have vk : vp_in (nI k) 6 := vp_in_nI hk (by decide)
  intro d
  induction d with
  | zero =>
    intro fd hd6 ed hlo hO hV
    have hz : fz (6 * k) = 0 := hlo.1
    have ex : (nI (6 * k + 0)).toNatClampNeg = 6 * k + 0 := nI_clamp (by omega)
    have vx : vp_in (nI (6 * k + 0)) 36 := vp_in_nI (by omega) (by decide)
    have e0 : 6 * nI k + (nI (0 + 1) - 1) = nI (6 * k + 0) := by rw [nI_pred, ix_l (M := 6) 6 rfl]
    refine ⟨(q, tn, 0, pc, wp, he, co, ca, cb, fs, fc, ts, tu, ux, tl, ul, tm, gc, ga, gp, ss, st, sf, upd tc k f, upd tr k 0, ow, ti, upd fd k 0, ft, fk, fn, fh, fl, fv, rs, nt), (q, wp, tn, sl, yd, nd, co, ca, cb, le, he, kl, tu, uy, tl, ul, tm, gc, ga, gp, ss, st, sf, upd fd k 0, upd tc k f, upd tr k 0, ow, ti, ft, fn, fh, fp, fz, fl, fv, rs, au), mk_md C htn hsl (Or.inr ⟨rfl, Or.inl (by rw [pk_us]; exact hf)⟩) ?_ hK ?_, fun post h => ?_, fun post h => ?_⟩
    · intro k' hk'
      by_cases ck : k' = k
      · subst ck
        exact ⟨0, by decide, pk_us, ⟨fun z => absurd (by rw [← z, pk_us]) hf, fun z => absurd z (by decide)⟩, fun z => absurd z (by decide)⟩
      · exact th_cg (hO k' hk' ck) (fun _ _ => rfl) (fun _ _ => rfl) (fun _ _ => rfl) (fun _ _ => rfl) (pk_un ck) (pk_un ck)
    · exact rv_dn (d' := 0) hV hd6 (by omega) ed
    · exact br_t (nI_le (by omega) (by omega)) (xl_end hk h)
    · refine ⟨vk, br_f (by rw [ek, ed]; decide) ⟨vk, vk, nm_r (e' := upd fd k (nI 0)) (by rw [ek, ed]; rfl) (nm_r (e' := nI (6 * k + 0)) (by rw [ek, ed]; exact e0) ⟨vx, br_t (by rw [ex]; exact hz) ?_⟩)⟩⟩
      refine ⟨vk, br_t (by rw [ek, pk_us]; decide) (yl_end hk ?_)⟩
      rw [ix_uu]
      exact h
  | succ d ih =>
    intro fd hd6 ed hlo hO hV
    have ex : (nI (6 * k + (d + 1))).toNatClampNeg = 6 * k + (d + 1) := nI_clamp (by omega)
    have vx : vp_in (nI (6 * k + (d + 1))) 36 := vp_in_nI (by omega) (by decide)
    have ep : nI (6 * k + (d + 1)) - 1 = nI (6 * k + d) := nI_pred _
    have ep' : nI (6 * k + (d + 1)) + -1 = nI (6 * k + d) := pk_m1 _
    have eY : 6 * nI k + (fd (nI k).toNatClampNeg - 1) = nI (6 * k + (d + 1)) := by rw [ek, ed, nI_pred, ix_l (M := 6) 6 rfl]
    have eF : upd fd (nI k).toNatClampNeg (fd (nI k).toNatClampNeg - 1) = upd fd k (nI (d + 1)) := by rw [ek, ed, nI_pred]
    have hX : ¬ nI (6 * k + (d + 1)) ≤ nI (6 * k) := nI_ge (by omega) (by omega)
    have hY : ¬ fd (nI k).toNatClampNeg ≤ 0 := by rw [ek, ed]; exact nI_nle (by omega) (by omega)
    have hO' : ∀ k', k' < 6 → k' ≠ k → th_ok H ft fn fh fz tc (upd fd k (nI (d + 1))) k' := fun k' hk' ck => th_cg (hO k' hk' ck) (fun _ _ => rfl) (fun _ _ => rfl) (fun _ _ => rfl) (fun _ _ => rfl) rfl (pk_un ck)
    have hV' : rl_v ux uy kl (upd fd k (nI (d + 1))) ft := rv_dn hV hd6 (by omega) ed
    by_cases cz : fz (6 * k + (d + 1)) = 0
    · have ck : ¬ fk (6 * k + (d + 1)) = 2 := by
        rcases hK (6 * k + (d + 1)) (by omega) with z | z | z
        · rw [z.2.2]; decide
        · rw [z.2.2]; decide
        · rw [z.2.1] at cz; exact absurd cz (by decide)
      obtain ⟨u1, v1, r1, r2, r3⟩ := ih (upd fd k (nI (d + 1))) (by omega) pk_us ⟨hlo.1, fun j hj => hlo.2 j (by omega)⟩ hO' hV'
      refine ⟨u1, v1, r1, fun post h => ?_, fun post h => ?_⟩
      · exact br_f hX ⟨vk, vk, nm_r eF ⟨vx, br_f (by rw [ex]; exact ck) (nm_r ep' (r2 post h))⟩⟩
      · exact ⟨vk, br_f hY ⟨vk, vk, nm_r eF (nm_r eY ⟨vx, br_t (by rw [ex]; exact cz) (r3 post h)⟩)⟩⟩
    · have ck : fk (6 * k + (d + 1)) = 2 := by
        rcases hK (6 * k + (d + 1)) (by omega) with z | z | z
        · exact absurd z.2.1 cz
        · exact absurd z.2.1 cz
        · exact z.2.2
      have fo := hlo.2 d (by omega)
      rw [show 6 * k + d + 1 = 6 * k + (d + 1) by omega, if_neg cz] at fo
      obtain ⟨t, i, h, t1, t2, t3, t4, t5⟩ := fo
      have h8 : h + 2 ≤ 8 := bu_h8 C.2.2.1 t1 t5
      have p2 : (upd fh (6 * k + d) (nI (h + 1))) (6 * k + d) = nI (h + 1) := pk_us
      refine ⟨(q, tn, sl, pc, wp, he, co, ca, cb, fs, fc, ts, tu, ux, tl, ul, tm, gc, ga, gp, ss, st, sf, tc, tr, ow, ti, upd fd k (nI (d + 1)), ft, fk, fn, upd (upd fh (6 * k + d) (nI (h + 1))) (6 * k + d) (nI (h + 1 + 1)), fl, upd (upd fv (8 * (6 * k + d) + h) 0) (8 * (6 * k + d) + (h + 1)) f, rs, nt), (q, wp, tn, sl, yd, nd, co, ca, cb, le, he, kl, tu, uy, tl, ul, tm, gc, ga, gp, ss, st, sf, upd fd k (nI (d + 1)), tc, tr, ow, ti, ft, fn, upd (upd fh (6 * k + d) (nI (h + 1))) (6 * k + d) (nI (h + 1 + 1)), fp, fz, fl, upd (upd fv (8 * (6 * k + d) + h) 0) (8 * (6 * k + d) + (h + 1)) f, rs, au), mk_md C htn hsl (Or.inl ⟨hsl, htc, hyd⟩) ?_ hK hV', fun post hp => ?_, fun post hp => ?_⟩
      · intro k' hk'
        by_cases ckk : k' = k
        · subst ckk
          refine ⟨d + 1, by omega, pk_us, ⟨fun _ => by omega, fun _ => htc⟩, fun _ => ⟨?_, t, i, h + 2, t1, t2, t3, pk_us, t5⟩⟩
          exact ⟨hlo.1, fun j hj => fr_cg (hlo.2 j (by omega)) rfl rfl (by rw [pk_un (by omega), pk_un (by omega)])⟩
        · exact th_cg (hO' k' hk' ckk) (fun _ _ => rfl) (fun _ _ => rfl) (fun j hj => by rw [pk_un (by omega), pk_un (by omega)]) (fun _ _ => rfl) rfl rfl
      · refine br_f hX ⟨vk, vk, nm_r eF ⟨vx, br_t (by rw [ex]; exact ck) ?_⟩⟩
        rw [ep]
        refine xl_push (h := h) (by omega) t4 (by omega) ?_
        exact xl_push (h := h + 1) (by omega) pk_us (by omega) hp
      · refine ⟨vk, br_f hY ⟨vk, vk, nm_r eF (nm_r eY ⟨vx, br_f (by rw [ex]; exact cz) ?_⟩)⟩⟩
        rw [ep]
        refine yl_push (h := h) (by omega) t4 (by omega) ?_
        exact yl_push (h := h + 1) (by omega) pk_us (by omega) hp
theorem rs_all {M k s d : Nat} {H : Nat → Nat → Nat → Prop} {f : Int32} (C : rl_C M H q pc nd le fc ts kl fs co ca cb gc gp st sf au nt) (htn : tn = nI k) (hsl : sl = nI s) (hyd : yd = 0) (hf : f ≠ -1) (hk : k < 6) (htc : tc k = -1) (hK : rl_k fk fp fz)
    (h0 : 0 < d) (hd6 : d ≤ 6) (ed : fd k = nI d) (hlo : th_lo H ft fn fh fz k d) (hO : ∀ k', k' < 6 → k' ≠ k → th_ok H ft fn fh fz tc fd k') (hV : rl_v ux uy kl fd ft) :
    ∃ (u1 : SX) (v1 : SY), md_R M k s u1 v1 ∧ (∀ post : SX → Prop, post u1 → wpX_unwind post (q, tn, sl, pc, wp, he, co, ca, cb, fs, fc, ts, tu, ux, tl, ul, tm, gc, ga, gp, ss, st, sf, tc, tr, ow, ti, fd, ft, fk, fn, fh, fl, fv, rs, nt) (nI k) f) ∧ (∀ post : SY → Prop, post v1 → wpY_raise post (q, wp, tn, sl, yd, nd, co, ca, cb, le, he, kl, tu, uy, tl, ul, tm, gc, ga, gp, ss, st, sf, fd, tc, tr, ow, ti, ft, fn, fh, fp, fz, fl, fv, rs, au) (nI k) f) := by
  obtain ⟨e, rfl⟩ : ∃ e, d = e + 1 := ⟨d - 1, by omega⟩
  obtain ⟨u1, v1, r1, r2, r3⟩ := rs_loop (q := q) (tn := tn) (sl := sl) (pc := pc) (wp := wp) (yd := yd) (nd := nd) (he := he) (co := co) (ca := ca) (cb := cb) (fs := fs) (fc := fc) (ts := ts) (tu := tu) (ux := ux) (tl := tl) (ul := ul) (tm := tm) (gc := gc) (ga := ga) (gp := gp) (ss := ss) (st := st) (sf := sf) (tc := tc) (tr := tr) (ow := ow) (ti := ti) (ft := ft) (fk := fk) (fn := fn) (fh := fh) (fl := fl) (fv := fv) (rs := rs) (nt := nt) (le := le) (kl := kl) (uy := uy) (fp := fp) (fz := fz) (au := au) C htn hsl hyd hf hk htc hK e fd hd6 ed hlo hO hV
  refine ⟨u1, v1, r1, fun post h => ?_, fun post h => ⟨_, r3 post h⟩⟩
  refine nm_r (ix_m 6 rfl k) (xl_top hk (by omega) ed ⟨e + 1, ?_⟩)
  exact r2 post h
end
end
section
def pl_P (o i : Nat) (a : Int32) : Prop := o = 0 ∨ (14 ≤ o ∧ o ≤ 17) ∨ ((o = 12 ∨ o = 13) ∧ a ≤ nI i)
def bs_R (k d t i h o : Nat) (fd ft fn fh co : Nat → Int32) : Prop :=
  k < 6 ∧ 0 < d ∧ d ≤ 6 ∧ fd k = nI d ∧ t < 4 ∧ ft (6 * k + (d - 1)) = nI t ∧ fn (6 * k + (d - 1)) = nI i ∧ fh (6 * k + (d - 1)) = nI h ∧ i < 64 ∧ o < 24 ∧ co (64 * t + i) = nI o
section
variable {q tn sl pc wp yd nd : Int32} {he co ca cb fs fc ts tu ux tl ul tm gc ga gp ss st sf tc tr ow ti fd ft fk fn fh fl fv rs nt le kl uy fp fz au : Nat → Int32}
theorem xl_poll {post : Int32 → Prop} {t i o : Nat} (ht : t < 4) (hi : i < 64) (ho : o < 24) (eo : co (64 * t + i) = nI o) (h1 : pl_P o i (ca (64 * t + i)) → post 1) (h0 : ¬ pl_P o i (ca (64 * t + i)) → post 0) : wpX_isPoll post (q, tn, sl, pc, wp, he, co, ca, cb, fs, fc, ts, tu, ux, tl, ul, tm, gc, ga, gp, ss, st, sf, tc, tr, ow, ti, fd, ft, fk, fn, fh, fl, fv, rs, nt) (nI t) (nI i) := by
  have e1 : nI t * 64 + nI i = nI (64 * t + i) := ix_r 64 rfl t i
  have e2 : (nI (64 * t + i)).toNatClampNeg = 64 * t + i := nI_clamp (by omega)
  have v1 : vp_in (nI t * 64 + nI i) 320 := by rw [e1]; exact vp_in_nI (by omega) (by decide)
  refine ⟨v1, nm_r (e' := nI o) (by rw [e1, e2, eo]) ?_⟩
  clear eo
  have ho24 : o = 0 ∨ o = 1 ∨ o = 2 ∨ o = 3 ∨ o = 4 ∨ o = 5 ∨ o = 6 ∨ o = 7 ∨ o = 8 ∨ o = 9 ∨ o = 10 ∨ o = 11 ∨ o = 12 ∨ o = 13 ∨ o = 14 ∨ o = 15 ∨ o = 16 ∨ o = 17 ∨ o = 18 ∨ o = 19 ∨ o = 20 ∨ o = 21 ∨ o = 22 ∨ o = 23 := by omega
  rcases ho24 with rfl | rfl | rfl | rfl | rfl | rfl | rfl | rfl | rfl | rfl | rfl | rfl | rfl | rfl | rfl | rfl | rfl | rfl | rfl | rfl | rfl | rfl | rfl | rfl
  · exact br_f (by decide) (br_f (by decide) (br_t (by decide) (h1 (by unfold pl_P; omega))))
  · exact br_f (by decide) (br_f (by decide) (br_f (by decide) (br_t (by decide) (h0 (by unfold pl_P; omega)))))
  · exact br_f (by decide) (br_f (by decide) (br_f (by decide) (br_f (by decide) (br_t (by decide) (h0 (by unfold pl_P; omega))))))
  · exact br_f (by decide) (br_f (by decide) (br_f (by decide) (br_f (by decide) (br_f (by decide) (br_t (by decide) (h0 (by unfold pl_P; omega)))))))
  · exact br_f (by decide) (br_f (by decide) (br_f (by decide) (br_f (by decide) (br_f (by decide) (br_f (by decide) (br_t (by decide) (h0 (by unfold pl_P; omega))))))))
  · exact br_f (by decide) (br_f (by decide) (br_f (by decide) (br_f (by decide) (br_f (by decide) (br_f (by decide) (br_f (by decide) (br_t (by decide) (h0 (by unfold pl_P; omega)))))))))
  · exact br_f (by decide) (br_f (by decide) (br_f (by decide) (br_f (by decide) (br_f (by decide) (br_f (by decide) (br_f (by decide) (br_f (by decide) (br_t (by decide) (h0 (by unfold pl_P; omega))))))))))
  · exact br_f (by decide) (br_f (by decide) (br_f (by decide) (br_f (by decide) (br_f (by decide) (br_f (by decide) (br_f (by decide) (br_f (by decide) (br_f (by decide) (br_t (by decide) (h0 (by unfold pl_P; omega)))))))))))
  · exact br_f (by decide) (br_f (by decide) (br_f (by decide) (br_f (by decide) (br_f (by decide) (br_f (by decide) (br_f (by decide) (br_f (by decide) (br_f (by decide) (br_f (by decide) (br_t (by decide) (h0 (by unfold pl_P; omega))))))))))))
  · exact br_f (by decide) (br_f (by decide) (br_f (by decide) (br_f (by decide) (br_f (by decide) (br_f (by decide) (br_f (by decide) (br_f (by decide) (br_f (by decide) (br_f (by decide) (br_f (by decide) (br_t (by decide) (h0 (by unfold pl_P; omega)))))))))))))
  · exact br_f (by decide) (br_f (by decide) (br_f (by decide) (br_f (by decide) (br_f (by decide) (br_f (by decide) (br_f (by decide) (br_f (by decide) (br_f (by decide) (br_f (by decide) (br_f (by decide) (br_f (by decide) (br_t (by decide) (h0 (by unfold pl_P; omega))))))))))))))
  · exact br_f (by decide) (br_f (by decide) (br_f (by decide) (br_f (by decide) (br_f (by decide) (br_f (by decide) (br_f (by decide) (br_f (by decide) (br_f (by decide) (br_f (by decide) (br_f (by decide) (br_f (by decide) (br_f (by decide) (br_t (by decide) (h0 (by unfold pl_P; omega)))))))))))))))
  · refine br_f (by decide) (br_f (by decide) (br_f (by decide) (br_f (by decide) (br_f (by decide) (br_f (by decide) (br_f (by decide) (br_f (by decide) (br_f (by decide) (br_f (by decide) (br_f (by decide) (br_f (by decide) (br_f (by decide) (br_f (by decide) (br_t (by decide) (?_)))))))))))))))
    refine (show wX_isPoll_98 post (nI t) (nI i) q tn sl pc wp he co ca cb fs fc ts tu ux tl ul tm gc ga gp ss st sf tc tr ow ti fd ft fk fn fh fl fv rs nt from ⟨v1, ?_⟩)
    rw [e1, e2]
    by_cases c : nI i < ca (64 * t + i)
    · exact br_t c (h0 (by intro z; rcases z with z | z | z; omega; omega; exact absurd c (Int32.not_lt.mpr z.2)))
    · exact br_f c (h1 (Or.inr (Or.inr ⟨by omega, Int32.not_lt.mp c⟩)))
  · refine br_f (by decide) (br_f (by decide) (br_f (by decide) (br_f (by decide) (br_f (by decide) (br_f (by decide) (br_f (by decide) (br_f (by decide) (br_f (by decide) (br_f (by decide) (br_f (by decide) (br_f (by decide) (br_f (by decide) (br_f (by decide) (br_f (by decide) (br_t (by decide) (?_))))))))))))))))
    refine (show wX_isPoll_98 post (nI t) (nI i) q tn sl pc wp he co ca cb fs fc ts tu ux tl ul tm gc ga gp ss st sf tc tr ow ti fd ft fk fn fh fl fv rs nt from ⟨v1, ?_⟩)
    rw [e1, e2]
    by_cases c : nI i < ca (64 * t + i)
    · exact br_t c (h0 (by intro z; rcases z with z | z | z; omega; omega; exact absurd c (Int32.not_lt.mpr z.2)))
    · exact br_f c (h1 (Or.inr (Or.inr ⟨by omega, Int32.not_lt.mp c⟩)))
  · exact br_f (by decide) (br_f (by decide) (br_f (by decide) (br_f (by decide) (br_f (by decide) (br_f (by decide) (br_f (by decide) (br_f (by decide) (br_f (by decide) (br_f (by decide) (br_f (by decide) (br_f (by decide) (br_f (by decide) (br_f (by decide) (br_f (by decide) (br_f (by decide) (br_t (by decide) (h1 (by unfold pl_P; omega))))))))))))))))))
  · exact br_f (by decide) (br_f (by decide) (br_f (by decide) (br_f (by decide) (br_f (by decide) (br_f (by decide) (br_f (by decide) (br_f (by decide) (br_f (by decide) (br_f (by decide) (br_f (by decide) (br_f (by decide) (br_f (by decide) (br_f (by decide) (br_f (by decide) (br_f (by decide) (br_f (by decide) (br_t (by decide) (h1 (by unfold pl_P; omega)))))))))))))))))))
  · exact br_f (by decide) (br_f (by decide) (br_f (by decide) (br_f (by decide) (br_f (by decide) (br_f (by decide) (br_f (by decide) (br_f (by decide) (br_f (by decide) (br_f (by decide) (br_f (by decide) (br_f (by decide) (br_f (by decide) (br_f (by decide) (br_f (by decide) (br_f (by decide) (br_f (by decide) (br_f (by decide) (br_t (by decide) (h1 (by unfold pl_P; omega))))))))))))))))))))
  · exact br_f (by decide) (br_f (by decide) (br_f (by decide) (br_f (by decide) (br_f (by decide) (br_f (by decide) (br_f (by decide) (br_f (by decide) (br_f (by decide) (br_f (by decide) (br_f (by decide) (br_f (by decide) (br_f (by decide) (br_f (by decide) (br_f (by decide) (br_f (by decide) (br_f (by decide) (br_f (by decide) (br_f (by decide) (br_t (by decide) (h1 (by unfold pl_P; omega)))))))))))))))))))))
  · exact br_f (by decide) (br_t (by decide) (h0 (by unfold pl_P; omega)))
  · exact br_f (by decide) (br_t (by decide) (h0 (by unfold pl_P; omega)))
  · exact br_f (by decide) (br_t (by decide) (h0 (by unfold pl_P; omega)))
  · exact br_f (by decide) (br_t (by decide) (h0 (by unfold pl_P; omega)))
  · exact br_f (by decide) (br_t (by decide) (h0 (by unfold pl_P; omega)))
  · exact br_f (by decide) (br_t (by decide) (h0 (by unfold pl_P; omega)))
theorem yl_poll {post : Int32 → Prop} {i o : Nat} {a : Int32} (ho : o < 24) (h1 : pl_P o i a → post 1) (h0 : ¬ pl_P o i a → post 0) : wpY_poll post (q, wp, tn, sl, yd, nd, co, ca, cb, le, he, kl, tu, uy, tl, ul, tm, gc, ga, gp, ss, st, sf, fd, tc, tr, ow, ti, ft, fn, fh, fp, fz, fl, fv, rs, au) (nI o) (nI i) a := by
  have ho24 : o = 0 ∨ o = 1 ∨ o = 2 ∨ o = 3 ∨ o = 4 ∨ o = 5 ∨ o = 6 ∨ o = 7 ∨ o = 8 ∨ o = 9 ∨ o = 10 ∨ o = 11 ∨ o = 12 ∨ o = 13 ∨ o = 14 ∨ o = 15 ∨ o = 16 ∨ o = 17 ∨ o = 18 ∨ o = 19 ∨ o = 20 ∨ o = 21 ∨ o = 22 ∨ o = 23 := by omega
  rcases ho24 with rfl | rfl | rfl | rfl | rfl | rfl | rfl | rfl | rfl | rfl | rfl | rfl | rfl | rfl | rfl | rfl | rfl | rfl | rfl | rfl | rfl | rfl | rfl | rfl
  · exact br_t (by decide) (h1 (by unfold pl_P; omega))
  · exact br_f (by decide) (br_t (by decide) (br_f (by decide) (br_f (by decide) (h0 (by unfold pl_P; omega)))))
  · exact br_f (by decide) (br_t (by decide) (br_f (by decide) (br_f (by decide) (h0 (by unfold pl_P; omega)))))
  · exact br_f (by decide) (br_t (by decide) (br_f (by decide) (br_f (by decide) (h0 (by unfold pl_P; omega)))))
  · exact br_f (by decide) (br_t (by decide) (br_f (by decide) (br_f (by decide) (h0 (by unfold pl_P; omega)))))
  · exact br_f (by decide) (br_t (by decide) (br_f (by decide) (br_f (by decide) (h0 (by unfold pl_P; omega)))))
  · exact br_f (by decide) (br_t (by decide) (br_f (by decide) (br_f (by decide) (h0 (by unfold pl_P; omega)))))
  · exact br_f (by decide) (br_t (by decide) (br_f (by decide) (br_f (by decide) (h0 (by unfold pl_P; omega)))))
  · exact br_f (by decide) (br_t (by decide) (br_f (by decide) (br_f (by decide) (h0 (by unfold pl_P; omega)))))
  · exact br_f (by decide) (br_t (by decide) (br_f (by decide) (br_f (by decide) (h0 (by unfold pl_P; omega)))))
  · exact br_f (by decide) (br_t (by decide) (br_f (by decide) (br_f (by decide) (h0 (by unfold pl_P; omega)))))
  · exact br_f (by decide) (br_t (by decide) (br_f (by decide) (br_f (by decide) (h0 (by unfold pl_P; omega)))))
  · refine br_f (by decide) (br_t (by decide) (br_t (by decide) (?_)))
    by_cases c : nI i < a
    · exact br_t c (h0 (by intro z; rcases z with z | z | z; omega; omega; exact absurd c (Int32.not_lt.mpr z.2)))
    · exact br_f c (h1 (Or.inr (Or.inr ⟨by omega, Int32.not_lt.mp c⟩)))
  · refine br_f (by decide) (br_t (by decide) (br_f (by decide) (br_t (by decide) (?_))))
    by_cases c : nI i < a
    · exact br_t c (h0 (by intro z; rcases z with z | z | z; omega; omega; exact absurd c (Int32.not_lt.mpr z.2)))
    · exact br_f c (h1 (Or.inr (Or.inr ⟨by omega, Int32.not_lt.mp c⟩)))
  · exact br_f (by decide) (br_f (by decide) (br_t (by decide) (h1 (by unfold pl_P; omega))))
  · exact br_f (by decide) (br_f (by decide) (br_t (by decide) (h1 (by unfold pl_P; omega))))
  · exact br_f (by decide) (br_f (by decide) (br_t (by decide) (h1 (by unfold pl_P; omega))))
  · exact br_f (by decide) (br_f (by decide) (br_t (by decide) (h1 (by unfold pl_P; omega))))
  · exact br_f (by decide) (br_f (by decide) (br_f (by decide) (br_f (by decide) (br_f (by decide) (h0 (by unfold pl_P; omega))))))
  · exact br_f (by decide) (br_f (by decide) (br_f (by decide) (br_f (by decide) (br_f (by decide) (h0 (by unfold pl_P; omega))))))
  · exact br_f (by decide) (br_f (by decide) (br_f (by decide) (br_f (by decide) (br_f (by decide) (h0 (by unfold pl_P; omega))))))
  · exact br_f (by decide) (br_f (by decide) (br_f (by decide) (br_f (by decide) (br_f (by decide) (h0 (by unfold pl_P; omega))))))
  · exact br_f (by decide) (br_f (by decide) (br_f (by decide) (br_f (by decide) (br_f (by decide) (h0 (by unfold pl_P; omega))))))
  · exact br_f (by decide) (br_f (by decide) (br_f (by decide) (br_f (by decide) (br_f (by decide) (h0 (by unfold pl_P; omega))))))
theorem po_0 (a : Int32) : st_po 0 a = 0 := by simp [st_po]
theorem po_1 (a : Int32) : st_po 1 a = 0 := by simp [st_po]
theorem po_2 (a : Int32) : st_po 2 a = 1 := by simp [st_po]
theorem po_3 (a : Int32) : st_po 3 a = 1 := by simp [st_po]
theorem po_4 (a : Int32) : st_po 4 a = 2 := by simp [st_po]
theorem po_5 (a : Int32) : st_po 5 a = 2 := by simp [st_po]
theorem po_6 (a : Int32) : st_po 6 a = 2 := by simp [st_po]
theorem po_7 (a : Int32) : st_po 7 a = 2 := by simp [st_po]
theorem po_8 (a : Int32) : st_po 8 a = 2 := by simp [st_po]
theorem po_9 (a : Int32) : st_po 9 a = 2 := by simp [st_po]
theorem po_10 (a : Int32) : st_po 10 a = 0 := by simp [st_po]
theorem po_11 (a : Int32) : st_po 11 a = 1 := by simp [st_po]
theorem po_12 (a : Int32) : st_po 12 a = 0 := by simp [st_po]
theorem po_13 (a : Int32) : st_po 13 a = 1 := by simp [st_po]
theorem po_14 (a : Int32) : st_po 14 a = 1 := by simp [st_po]
theorem po_15 (a : Int32) : st_po 15 a = 1 := by simp [st_po]
theorem po_16 (a : Int32) : st_po 16 a = 1 := by simp [st_po]
theorem po_17 (a : Int32) : st_po 17 a = 1 := by simp [st_po]
theorem po_19 (a : Int32) : st_po 19 a = 1 := by simp [st_po]
theorem po_20 (a : Int32) : st_po 20 a = 1 := by simp [st_po]
theorem po_21 (a : Int32) : st_po 21 a = 1 := by simp [st_po]
theorem po_22 (a : Int32) : st_po 22 a = 1 := by simp [st_po]
theorem po_23 (a : Int32) : st_po 23 a = 0 := by simp [st_po]
theorem pu_0 (a : Int32) : st_pu 0 a = 0 := by simp [st_pu]
theorem pu_1 (a : Int32) : st_pu 1 a = 1 := by simp [st_pu]
theorem pu_2 (a : Int32) : st_pu 2 a = 2 := by simp [st_pu]
theorem pu_3 (a : Int32) : st_pu 3 a = 0 := by simp [st_pu]
theorem pu_4 (a : Int32) : st_pu 4 a = 2 := by simp [st_pu]
theorem pu_5 (a : Int32) : st_pu 5 a = 1 := by simp [st_pu]
theorem pu_6 (a : Int32) : st_pu 6 a = 1 := by simp [st_pu]
theorem pu_7 (a : Int32) : st_pu 7 a = 1 := by simp [st_pu]
theorem pu_8 (a : Int32) : st_pu 8 a = 1 := by simp [st_pu]
theorem pu_9 (a : Int32) : st_pu 9 a = 1 := by simp [st_pu]
theorem pu_10 (a : Int32) : st_pu 10 a = 1 := by simp [st_pu]
theorem pu_11 (a : Int32) : st_pu 11 a = 0 := by simp [st_pu]
theorem pu_12 (a : Int32) : st_pu 12 a = 0 := by simp [st_pu]
theorem pu_13 (a : Int32) : st_pu 13 a = 0 := by simp [st_pu]
theorem pu_14 (a : Int32) : st_pu 14 a = 1 := by simp [st_pu]
theorem pu_15 (a : Int32) : st_pu 15 a = 1 := by simp [st_pu]
theorem pu_16 (a : Int32) : st_pu 16 a = 2 := by simp [st_pu]
theorem pu_17 (a : Int32) : st_pu 17 a = 1 := by simp [st_pu]
theorem pu_19 (a : Int32) : st_pu 19 a = 1 := by simp [st_pu]
theorem pu_20 (a : Int32) : st_pu 20 a = 0 := by simp [st_pu]
theorem pu_21 (a : Int32) : st_pu 21 a = 0 := by simp [st_pu]
theorem pu_22 (a : Int32) : st_pu 22 a = 0 := by simp [st_pu]
theorem pu_23 (a : Int32) : st_pu 23 a = 0 := by simp [st_pu]
theorem po_18 (a : Int32) : st_po 18 a = if a = 1 then 1 else 0 := by simp [st_po]
theorem pu_18 (a : Int32) : st_pu 18 a = if a = 1 then 0 else 1 := by simp [st_pu]
theorem yl_pops {post : Int32 → Prop} {o : Nat} {a : Int32} (ho : o < 24) (h : post (nI (st_po o a))) : wpY_pops post (q, wp, tn, sl, yd, nd, co, ca, cb, le, he, kl, tu, uy, tl, ul, tm, gc, ga, gp, ss, st, sf, fd, tc, tr, ow, ti, ft, fn, fh, fp, fz, fl, fv, rs, au) (nI o) a := by
  have ho24 : o = 0 ∨ o = 1 ∨ o = 2 ∨ o = 3 ∨ o = 4 ∨ o = 5 ∨ o = 6 ∨ o = 7 ∨ o = 8 ∨ o = 9 ∨ o = 10 ∨ o = 11 ∨ o = 12 ∨ o = 13 ∨ o = 14 ∨ o = 15 ∨ o = 16 ∨ o = 17 ∨ o = 18 ∨ o = 19 ∨ o = 20 ∨ o = 21 ∨ o = 22 ∨ o = 23 := by omega
  rcases ho24 with rfl | rfl | rfl | rfl | rfl | rfl | rfl | rfl | rfl | rfl | rfl | rfl | rfl | rfl | rfl | rfl | rfl | rfl | rfl | rfl | rfl | rfl | rfl | rfl
  · rw [po_0] at h
    exact br_f (by decide) (br_t (by decide) (br_f (by decide) (br_f (by decide) (br_f (by decide) (br_f (by decide) (br_t (by decide) (br_t (by decide) (h))))))))
  · rw [po_1] at h
    exact br_f (by decide) (br_t (by decide) (br_f (by decide) (br_f (by decide) (br_f (by decide) (br_f (by decide) (br_t (by decide) (br_t (by decide) (h))))))))
  · rw [po_2] at h
    exact br_f (by decide) (br_t (by decide) (br_f (by decide) (br_t (by decide) (h))))
  · rw [po_3] at h
    exact br_f (by decide) (br_t (by decide) (br_f (by decide) (br_f (by decide) (br_t (by decide) (h)))))
  · rw [po_4] at h
    exact br_t (by decide) (h)
  · rw [po_5] at h
    exact br_f (by decide) (br_f (by decide) (br_f (by decide) (h)))
  · rw [po_6] at h
    exact br_f (by decide) (br_f (by decide) (br_f (by decide) (h)))
  · rw [po_7] at h
    exact br_f (by decide) (br_f (by decide) (br_f (by decide) (h)))
  · rw [po_8] at h
    exact br_f (by decide) (br_f (by decide) (br_f (by decide) (h)))
  · rw [po_9] at h
    exact br_f (by decide) (br_f (by decide) (br_f (by decide) (h)))
  · rw [po_10] at h
    exact br_f (by decide) (br_f (by decide) (br_t (by decide) (br_f (by decide) (br_f (by decide) (br_f (by decide) (br_f (by decide) (br_t (by decide) (br_t (by decide) (h)))))))))
  · rw [po_11] at h
    exact br_f (by decide) (br_f (by decide) (br_t (by decide) (br_f (by decide) (br_f (by decide) (br_f (by decide) (br_t (by decide) (h)))))))
  · rw [po_12] at h
    exact br_f (by decide) (br_f (by decide) (br_t (by decide) (br_f (by decide) (br_f (by decide) (br_f (by decide) (br_f (by decide) (br_t (by decide) (br_t (by decide) (h)))))))))
  · rw [po_13] at h
    exact br_f (by decide) (br_f (by decide) (br_t (by decide) (br_f (by decide) (br_f (by decide) (br_f (by decide) (br_f (by decide) (br_f (by decide) (br_t (by decide) (h)))))))))
  · rw [po_14] at h
    exact br_f (by decide) (br_f (by decide) (br_t (by decide) (br_f (by decide) (br_f (by decide) (br_f (by decide) (br_f (by decide) (br_f (by decide) (br_t (by decide) (h)))))))))
  · rw [po_15] at h
    exact br_f (by decide) (br_f (by decide) (br_t (by decide) (br_f (by decide) (br_f (by decide) (br_f (by decide) (br_f (by decide) (br_f (by decide) (br_t (by decide) (h)))))))))
  · rw [po_16] at h
    exact br_f (by decide) (br_f (by decide) (br_t (by decide) (br_f (by decide) (br_f (by decide) (br_f (by decide) (br_f (by decide) (br_f (by decide) (br_t (by decide) (h)))))))))
  · rw [po_17] at h
    exact br_f (by decide) (br_f (by decide) (br_t (by decide) (br_f (by decide) (br_f (by decide) (br_f (by decide) (br_f (by decide) (br_f (by decide) (br_t (by decide) (h)))))))))
  · rw [po_18] at h
    by_cases c : a = 1
    · rw [if_pos c] at h
      exact br_f (by decide) (br_f (by decide) (br_t (by decide) (br_t (by decide) (br_t c h))))
    · rw [if_neg c] at h
      exact br_f (by decide) (br_f (by decide) (br_t (by decide) (br_t (by decide) (br_f c h))))
  · rw [po_19] at h
    exact br_f (by decide) (br_f (by decide) (br_t (by decide) (br_f (by decide) (br_f (by decide) (br_f (by decide) (br_f (by decide) (br_f (by decide) (br_f (by decide) (br_f (by decide) (br_f (by decide) (h)))))))))))
  · rw [po_20] at h
    exact br_f (by decide) (br_f (by decide) (br_t (by decide) (br_f (by decide) (br_f (by decide) (br_f (by decide) (br_f (by decide) (br_f (by decide) (br_f (by decide) (br_f (by decide) (br_f (by decide) (h)))))))))))
  · rw [po_21] at h
    exact br_f (by decide) (br_f (by decide) (br_t (by decide) (br_f (by decide) (br_f (by decide) (br_f (by decide) (br_f (by decide) (br_f (by decide) (br_f (by decide) (br_f (by decide) (br_f (by decide) (h)))))))))))
  · rw [po_22] at h
    exact br_f (by decide) (br_f (by decide) (br_t (by decide) (br_f (by decide) (br_f (by decide) (br_f (by decide) (br_f (by decide) (br_f (by decide) (br_f (by decide) (br_f (by decide) (br_f (by decide) (h)))))))))))
  · rw [po_23] at h
    exact br_f (by decide) (br_f (by decide) (br_t (by decide) (br_f (by decide) (br_f (by decide) (br_f (by decide) (br_f (by decide) (br_f (by decide) (br_f (by decide) (br_f (by decide) (br_t (by decide) (h)))))))))))
theorem yl_pushes {post : Int32 → Prop} {o : Nat} {a : Int32} (ho : o < 24) (h : post (nI (st_pu o a))) : wpY_pushes post (q, wp, tn, sl, yd, nd, co, ca, cb, le, he, kl, tu, uy, tl, ul, tm, gc, ga, gp, ss, st, sf, fd, tc, tr, ow, ti, ft, fn, fh, fp, fz, fl, fv, rs, au) (nI o) a := by
  have ho24 : o = 0 ∨ o = 1 ∨ o = 2 ∨ o = 3 ∨ o = 4 ∨ o = 5 ∨ o = 6 ∨ o = 7 ∨ o = 8 ∨ o = 9 ∨ o = 10 ∨ o = 11 ∨ o = 12 ∨ o = 13 ∨ o = 14 ∨ o = 15 ∨ o = 16 ∨ o = 17 ∨ o = 18 ∨ o = 19 ∨ o = 20 ∨ o = 21 ∨ o = 22 ∨ o = 23 := by omega
  rcases ho24 with rfl | rfl | rfl | rfl | rfl | rfl | rfl | rfl | rfl | rfl | rfl | rfl | rfl | rfl | rfl | rfl | rfl | rfl | rfl | rfl | rfl | rfl | rfl | rfl
  · rw [pu_0] at h
    exact br_f (by decide) (br_f (by decide) (br_f (by decide) (br_f (by decide) (br_f (by decide) (br_t (by decide) (br_f (by decide) (br_f (by decide) (br_f (by decide) (br_f (by decide) (h))))))))))
  · rw [pu_1] at h
    exact br_f (by decide) (br_f (by decide) (br_f (by decide) (br_f (by decide) (br_t (by decide) (h)))))
  · rw [pu_2] at h
    exact br_t (by decide) (h)
  · rw [pu_3] at h
    exact br_f (by decide) (br_f (by decide) (br_f (by decide) (br_f (by decide) (br_f (by decide) (br_t (by decide) (br_f (by decide) (br_f (by decide) (br_f (by decide) (br_f (by decide) (h))))))))))
  · rw [pu_4] at h
    exact br_f (by decide) (br_t (by decide) (h))
  · rw [pu_5] at h
    exact br_f (by decide) (br_f (by decide) (br_f (by decide) (br_f (by decide) (br_f (by decide) (br_f (by decide) (br_t (by decide) (h)))))))
  · rw [pu_6] at h
    exact br_f (by decide) (br_f (by decide) (br_f (by decide) (br_f (by decide) (br_f (by decide) (br_f (by decide) (br_t (by decide) (h)))))))
  · rw [pu_7] at h
    exact br_f (by decide) (br_f (by decide) (br_f (by decide) (br_f (by decide) (br_f (by decide) (br_f (by decide) (br_t (by decide) (h)))))))
  · rw [pu_8] at h
    exact br_f (by decide) (br_f (by decide) (br_f (by decide) (br_f (by decide) (br_f (by decide) (br_f (by decide) (br_t (by decide) (h)))))))
  · rw [pu_9] at h
    exact br_f (by decide) (br_f (by decide) (br_f (by decide) (br_f (by decide) (br_f (by decide) (br_f (by decide) (br_t (by decide) (h)))))))
  · rw [pu_10] at h
    exact br_f (by decide) (br_f (by decide) (br_f (by decide) (br_f (by decide) (br_f (by decide) (br_f (by decide) (br_t (by decide) (h)))))))
  · rw [pu_11] at h
    exact br_f (by decide) (br_f (by decide) (br_f (by decide) (br_f (by decide) (br_f (by decide) (br_f (by decide) (br_f (by decide) (br_f (by decide) (br_f (by decide) (br_f (by decide) (br_f (by decide) (h)))))))))))
  · rw [pu_12] at h
    exact br_f (by decide) (br_f (by decide) (br_f (by decide) (br_f (by decide) (br_f (by decide) (br_f (by decide) (br_f (by decide) (br_f (by decide) (br_f (by decide) (br_f (by decide) (br_f (by decide) (h)))))))))))
  · rw [pu_13] at h
    exact br_f (by decide) (br_f (by decide) (br_f (by decide) (br_f (by decide) (br_f (by decide) (br_f (by decide) (br_f (by decide) (br_f (by decide) (br_f (by decide) (br_f (by decide) (br_f (by decide) (h)))))))))))
  · rw [pu_14] at h
    exact br_f (by decide) (br_f (by decide) (br_f (by decide) (br_f (by decide) (br_f (by decide) (br_f (by decide) (br_f (by decide) (br_t (by decide) (h))))))))
  · rw [pu_15] at h
    exact br_f (by decide) (br_f (by decide) (br_f (by decide) (br_f (by decide) (br_f (by decide) (br_f (by decide) (br_f (by decide) (br_f (by decide) (br_t (by decide) (h)))))))))
  · rw [pu_16] at h
    exact br_f (by decide) (br_f (by decide) (br_t (by decide) (h)))
  · rw [pu_17] at h
    exact br_f (by decide) (br_f (by decide) (br_f (by decide) (br_f (by decide) (br_f (by decide) (br_f (by decide) (br_f (by decide) (br_f (by decide) (br_f (by decide) (br_t (by decide) (h))))))))))
  · rw [pu_18] at h
    by_cases c : a = 1
    · rw [if_pos c] at h
      exact br_f (by decide) (br_f (by decide) (br_f (by decide) (br_t (by decide) (br_t c h))))
    · rw [if_neg c] at h
      exact br_f (by decide) (br_f (by decide) (br_f (by decide) (br_t (by decide) (br_f c h))))
  · rw [pu_19] at h
    exact br_f (by decide) (br_f (by decide) (br_f (by decide) (br_f (by decide) (br_f (by decide) (br_f (by decide) (br_f (by decide) (br_f (by decide) (br_f (by decide) (br_f (by decide) (br_t (by decide) (h)))))))))))
  · rw [pu_20] at h
    exact br_f (by decide) (br_f (by decide) (br_f (by decide) (br_f (by decide) (br_f (by decide) (br_f (by decide) (br_f (by decide) (br_f (by decide) (br_f (by decide) (br_f (by decide) (br_f (by decide) (h)))))))))))
  · rw [pu_21] at h
    exact br_f (by decide) (br_f (by decide) (br_f (by decide) (br_f (by decide) (br_f (by decide) (br_f (by decide) (br_f (by decide) (br_f (by decide) (br_f (by decide) (br_f (by decide) (br_f (by decide) (h)))))))))))
  · rw [pu_22] at h
    exact br_f (by decide) (br_f (by decide) (br_f (by decide) (br_f (by decide) (br_f (by decide) (br_f (by decide) (br_f (by decide) (br_f (by decide) (br_f (by decide) (br_f (by decide) (br_f (by decide) (h)))))))))))
  · rw [pu_23] at h
    exact br_f (by decide) (br_f (by decide) (br_f (by decide) (br_f (by decide) (br_f (by decide) (br_f (by decide) (br_f (by decide) (br_f (by decide) (br_f (by decide) (br_f (by decide) (br_f (by decide) (h)))))))))))
theorem xl_popped {post : Int32 → Prop} {o : Nat} {a : Int32} (ho : o < 24) (h : post (nI (st_po o a))) : wpX_popped post (nI o) a := by
  have ho24 : o = 0 ∨ o = 1 ∨ o = 2 ∨ o = 3 ∨ o = 4 ∨ o = 5 ∨ o = 6 ∨ o = 7 ∨ o = 8 ∨ o = 9 ∨ o = 10 ∨ o = 11 ∨ o = 12 ∨ o = 13 ∨ o = 14 ∨ o = 15 ∨ o = 16 ∨ o = 17 ∨ o = 18 ∨ o = 19 ∨ o = 20 ∨ o = 21 ∨ o = 22 ∨ o = 23 := by omega
  rcases ho24 with rfl | rfl | rfl | rfl | rfl | rfl | rfl | rfl | rfl | rfl | rfl | rfl | rfl | rfl | rfl | rfl | rfl | rfl | rfl | rfl | rfl | rfl | rfl | rfl
  · rw [po_0] at h
    exact br_t (by decide) (h)
  · rw [po_1] at h
    exact br_t (by decide) (h)
  · rw [po_2] at h
    exact br_f (by decide) (br_f (by decide) (br_t (by decide) (h)))
  · rw [po_3] at h
    exact br_f (by decide) (br_f (by decide) (br_f (by decide) (br_t (by decide) (h))))
  · rw [po_4] at h
    exact br_f (by decide) (br_f (by decide) (br_f (by decide) (br_f (by decide) (br_t (by decide) (h)))))
  · rw [po_5] at h
    exact br_f (by decide) (br_f (by decide) (br_f (by decide) (br_f (by decide) (br_f (by decide) (br_t (by decide) (h))))))
  · rw [po_6] at h
    exact br_f (by decide) (br_f (by decide) (br_f (by decide) (br_f (by decide) (br_f (by decide) (br_f (by decide) (br_t (by decide) (h)))))))
  · rw [po_7] at h
    exact br_f (by decide) (br_f (by decide) (br_f (by decide) (br_f (by decide) (br_f (by decide) (br_f (by decide) (br_f (by decide) (br_t (by decide) (h))))))))
  · rw [po_8] at h
    exact br_f (by decide) (br_f (by decide) (br_f (by decide) (br_f (by decide) (br_f (by decide) (br_f (by decide) (br_f (by decide) (br_f (by decide) (br_t (by decide) (h)))))))))
  · rw [po_9] at h
    exact br_f (by decide) (br_f (by decide) (br_f (by decide) (br_f (by decide) (br_f (by decide) (br_f (by decide) (br_f (by decide) (br_f (by decide) (br_f (by decide) (br_t (by decide) (h))))))))))
  · rw [po_10] at h
    exact br_f (by decide) (br_f (by decide) (br_f (by decide) (br_f (by decide) (br_f (by decide) (br_f (by decide) (br_f (by decide) (br_f (by decide) (br_f (by decide) (br_f (by decide) (br_t (by decide) (h)))))))))))
  · rw [po_11] at h
    exact br_f (by decide) (br_f (by decide) (br_f (by decide) (br_f (by decide) (br_f (by decide) (br_f (by decide) (br_f (by decide) (br_f (by decide) (br_f (by decide) (br_f (by decide) (br_f (by decide) (br_t (by decide) (h))))))))))))
  · rw [po_12] at h
    exact br_f (by decide) (br_f (by decide) (br_f (by decide) (br_f (by decide) (br_f (by decide) (br_f (by decide) (br_f (by decide) (br_f (by decide) (br_f (by decide) (br_f (by decide) (br_f (by decide) (br_f (by decide) (br_t (by decide) (h)))))))))))))
  · rw [po_13] at h
    exact br_f (by decide) (br_f (by decide) (br_f (by decide) (br_f (by decide) (br_f (by decide) (br_f (by decide) (br_f (by decide) (br_f (by decide) (br_f (by decide) (br_f (by decide) (br_f (by decide) (br_f (by decide) (br_f (by decide) (br_t (by decide) (h))))))))))))))
  · rw [po_14] at h
    exact br_f (by decide) (br_f (by decide) (br_f (by decide) (br_f (by decide) (br_f (by decide) (br_f (by decide) (br_f (by decide) (br_f (by decide) (br_f (by decide) (br_f (by decide) (br_f (by decide) (br_f (by decide) (br_f (by decide) (br_f (by decide) (br_t (by decide) (h)))))))))))))))
  · rw [po_15] at h
    exact br_f (by decide) (br_f (by decide) (br_f (by decide) (br_f (by decide) (br_f (by decide) (br_f (by decide) (br_f (by decide) (br_f (by decide) (br_f (by decide) (br_f (by decide) (br_f (by decide) (br_f (by decide) (br_f (by decide) (br_f (by decide) (br_f (by decide) (br_t (by decide) (h))))))))))))))))
  · rw [po_16] at h
    exact br_f (by decide) (br_f (by decide) (br_f (by decide) (br_f (by decide) (br_f (by decide) (br_f (by decide) (br_f (by decide) (br_f (by decide) (br_f (by decide) (br_f (by decide) (br_f (by decide) (br_f (by decide) (br_f (by decide) (br_f (by decide) (br_f (by decide) (br_f (by decide) (br_t (by decide) (h)))))))))))))))))
  · rw [po_17] at h
    exact br_f (by decide) (br_f (by decide) (br_f (by decide) (br_f (by decide) (br_f (by decide) (br_f (by decide) (br_f (by decide) (br_f (by decide) (br_f (by decide) (br_f (by decide) (br_f (by decide) (br_f (by decide) (br_f (by decide) (br_f (by decide) (br_f (by decide) (br_f (by decide) (br_f (by decide) (br_t (by decide) (h))))))))))))))))))
  · rw [po_18] at h
    by_cases c : a = 1
    · rw [if_pos c] at h
      exact br_f (by decide) (br_f (by decide) (br_f (by decide) (br_f (by decide) (br_f (by decide) (br_f (by decide) (br_f (by decide) (br_f (by decide) (br_f (by decide) (br_f (by decide) (br_f (by decide) (br_f (by decide) (br_f (by decide) (br_f (by decide) (br_f (by decide) (br_f (by decide) (br_f (by decide) (br_f (by decide) (br_t (by decide) (br_t c h)))))))))))))))))))
    · rw [if_neg c] at h
      exact br_f (by decide) (br_f (by decide) (br_f (by decide) (br_f (by decide) (br_f (by decide) (br_f (by decide) (br_f (by decide) (br_f (by decide) (br_f (by decide) (br_f (by decide) (br_f (by decide) (br_f (by decide) (br_f (by decide) (br_f (by decide) (br_f (by decide) (br_f (by decide) (br_f (by decide) (br_f (by decide) (br_t (by decide) (br_f c h)))))))))))))))))))
  · rw [po_19] at h
    exact br_f (by decide) (br_f (by decide) (br_f (by decide) (br_f (by decide) (br_f (by decide) (br_f (by decide) (br_f (by decide) (br_f (by decide) (br_f (by decide) (br_f (by decide) (br_f (by decide) (br_f (by decide) (br_f (by decide) (br_f (by decide) (br_f (by decide) (br_f (by decide) (br_f (by decide) (br_f (by decide) (br_f (by decide) (br_t (by decide) (h))))))))))))))))))))
  · rw [po_20] at h
    exact br_f (by decide) (br_f (by decide) (br_f (by decide) (br_f (by decide) (br_f (by decide) (br_f (by decide) (br_f (by decide) (br_f (by decide) (br_f (by decide) (br_f (by decide) (br_f (by decide) (br_f (by decide) (br_f (by decide) (br_f (by decide) (br_f (by decide) (br_f (by decide) (br_f (by decide) (br_f (by decide) (br_f (by decide) (br_f (by decide) (br_t (by decide) (h)))))))))))))))))))))
  · rw [po_21] at h
    exact br_f (by decide) (br_f (by decide) (br_f (by decide) (br_f (by decide) (br_f (by decide) (br_f (by decide) (br_f (by decide) (br_f (by decide) (br_f (by decide) (br_f (by decide) (br_f (by decide) (br_f (by decide) (br_f (by decide) (br_f (by decide) (br_f (by decide) (br_f (by decide) (br_f (by decide) (br_f (by decide) (br_f (by decide) (br_f (by decide) (br_f (by decide) (br_t (by decide) (h))))))))))))))))))))))
  · rw [po_22] at h
    exact br_f (by decide) (br_f (by decide) (br_f (by decide) (br_f (by decide) (br_f (by decide) (br_f (by decide) (br_f (by decide) (br_f (by decide) (br_f (by decide) (br_f (by decide) (br_f (by decide) (br_f (by decide) (br_f (by decide) (br_f (by decide) (br_f (by decide) (br_f (by decide) (br_f (by decide) (br_f (by decide) (br_f (by decide) (br_f (by decide) (br_f (by decide) (br_f (by decide) (br_t (by decide) (h)))))))))))))))))))))))
  · rw [po_23] at h
    exact br_f (by decide) (br_t (by decide) (h))
theorem xl_pushed {post : Int32 → Prop} {o : Nat} {a : Int32} (ho : o < 24) (h : post (nI (st_pu o a))) : wpX_pushed post (nI o) a := by
  have ho24 : o = 0 ∨ o = 1 ∨ o = 2 ∨ o = 3 ∨ o = 4 ∨ o = 5 ∨ o = 6 ∨ o = 7 ∨ o = 8 ∨ o = 9 ∨ o = 10 ∨ o = 11 ∨ o = 12 ∨ o = 13 ∨ o = 14 ∨ o = 15 ∨ o = 16 ∨ o = 17 ∨ o = 18 ∨ o = 19 ∨ o = 20 ∨ o = 21 ∨ o = 22 ∨ o = 23 := by omega
  rcases ho24 with rfl | rfl | rfl | rfl | rfl | rfl | rfl | rfl | rfl | rfl | rfl | rfl | rfl | rfl | rfl | rfl | rfl | rfl | rfl | rfl | rfl | rfl | rfl | rfl
  · rw [pu_0] at h
    exact br_t (by decide) (h)
  · rw [pu_1] at h
    exact br_f (by decide) (br_f (by decide) (br_t (by decide) (h)))
  · rw [pu_2] at h
    exact br_f (by decide) (br_f (by decide) (br_f (by decide) (br_t (by decide) (h))))
  · rw [pu_3] at h
    exact br_f (by decide) (br_f (by decide) (br_f (by decide) (br_f (by decide) (br_t (by decide) (h)))))
  · rw [pu_4] at h
    exact br_f (by decide) (br_f (by decide) (br_f (by decide) (br_f (by decide) (br_f (by decide) (br_t (by decide) (h))))))
  · rw [pu_5] at h
    exact br_f (by decide) (br_f (by decide) (br_f (by decide) (br_f (by decide) (br_f (by decide) (br_f (by decide) (br_t (by decide) (h)))))))
  · rw [pu_6] at h
    exact br_f (by decide) (br_f (by decide) (br_f (by decide) (br_f (by decide) (br_f (by decide) (br_f (by decide) (br_f (by decide) (br_t (by decide) (h))))))))
  · rw [pu_7] at h
    exact br_f (by decide) (br_f (by decide) (br_f (by decide) (br_f (by decide) (br_f (by decide) (br_f (by decide) (br_f (by decide) (br_f (by decide) (br_t (by decide) (h)))))))))
  · rw [pu_8] at h
    exact br_f (by decide) (br_f (by decide) (br_f (by decide) (br_f (by decide) (br_f (by decide) (br_f (by decide) (br_f (by decide) (br_f (by decide) (br_f (by decide) (br_t (by decide) (h))))))))))
  · rw [pu_9] at h
    exact br_f (by decide) (br_f (by decide) (br_f (by decide) (br_f (by decide) (br_f (by decide) (br_f (by decide) (br_f (by decide) (br_f (by decide) (br_f (by decide) (br_f (by decide) (br_t (by decide) (h)))))))))))
  · rw [pu_10] at h
    exact br_f (by decide) (br_f (by decide) (br_f (by decide) (br_f (by decide) (br_f (by decide) (br_f (by decide) (br_f (by decide) (br_f (by decide) (br_f (by decide) (br_f (by decide) (br_f (by decide) (br_t (by decide) (h))))))))))))
  · rw [pu_11] at h
    exact br_f (by decide) (br_f (by decide) (br_f (by decide) (br_f (by decide) (br_f (by decide) (br_f (by decide) (br_f (by decide) (br_f (by decide) (br_f (by decide) (br_f (by decide) (br_f (by decide) (br_f (by decide) (br_t (by decide) (h)))))))))))))
  · rw [pu_12] at h
    exact br_f (by decide) (br_f (by decide) (br_f (by decide) (br_f (by decide) (br_f (by decide) (br_f (by decide) (br_f (by decide) (br_f (by decide) (br_f (by decide) (br_f (by decide) (br_f (by decide) (br_f (by decide) (br_f (by decide) (br_t (by decide) (h))))))))))))))
  · rw [pu_13] at h
    exact br_f (by decide) (br_f (by decide) (br_f (by decide) (br_f (by decide) (br_f (by decide) (br_f (by decide) (br_f (by decide) (br_f (by decide) (br_f (by decide) (br_f (by decide) (br_f (by decide) (br_f (by decide) (br_f (by decide) (br_f (by decide) (br_t (by decide) (h)))))))))))))))
  · rw [pu_14] at h
    exact br_f (by decide) (br_f (by decide) (br_f (by decide) (br_f (by decide) (br_f (by decide) (br_f (by decide) (br_f (by decide) (br_f (by decide) (br_f (by decide) (br_f (by decide) (br_f (by decide) (br_f (by decide) (br_f (by decide) (br_f (by decide) (br_f (by decide) (br_t (by decide) (h))))))))))))))))
  · rw [pu_15] at h
    exact br_f (by decide) (br_f (by decide) (br_f (by decide) (br_f (by decide) (br_f (by decide) (br_f (by decide) (br_f (by decide) (br_f (by decide) (br_f (by decide) (br_f (by decide) (br_f (by decide) (br_f (by decide) (br_f (by decide) (br_f (by decide) (br_f (by decide) (br_f (by decide) (br_t (by decide) (h)))))))))))))))))
  · rw [pu_16] at h
    exact br_f (by decide) (br_f (by decide) (br_f (by decide) (br_f (by decide) (br_f (by decide) (br_f (by decide) (br_f (by decide) (br_f (by decide) (br_f (by decide) (br_f (by decide) (br_f (by decide) (br_f (by decide) (br_f (by decide) (br_f (by decide) (br_f (by decide) (br_f (by decide) (br_f (by decide) (br_t (by decide) (h))))))))))))))))))
  · rw [pu_17] at h
    exact br_f (by decide) (br_f (by decide) (br_f (by decide) (br_f (by decide) (br_f (by decide) (br_f (by decide) (br_f (by decide) (br_f (by decide) (br_f (by decide) (br_f (by decide) (br_f (by decide) (br_f (by decide) (br_f (by decide) (br_f (by decide) (br_f (by decide) (br_f (by decide) (br_f (by decide) (br_f (by decide) (br_t (by decide) (h)))))))))))))))))))
  · rw [pu_18] at h
    by_cases c : a = 1
    · rw [if_pos c] at h
      exact br_f (by decide) (br_f (by decide) (br_f (by decide) (br_f (by decide) (br_f (by decide) (br_f (by decide) (br_f (by decide) (br_f (by decide) (br_f (by decide) (br_f (by decide) (br_f (by decide) (br_f (by decide) (br_f (by decide) (br_f (by decide) (br_f (by decide) (br_f (by decide) (br_f (by decide) (br_f (by decide) (br_f (by decide) (br_t (by decide) (br_t c h))))))))))))))))))))
    · rw [if_neg c] at h
      exact br_f (by decide) (br_f (by decide) (br_f (by decide) (br_f (by decide) (br_f (by decide) (br_f (by decide) (br_f (by decide) (br_f (by decide) (br_f (by decide) (br_f (by decide) (br_f (by decide) (br_f (by decide) (br_f (by decide) (br_f (by decide) (br_f (by decide) (br_f (by decide) (br_f (by decide) (br_f (by decide) (br_f (by decide) (br_t (by decide) (br_f c h))))))))))))))))))))
  · rw [pu_19] at h
    exact br_f (by decide) (br_f (by decide) (br_f (by decide) (br_f (by decide) (br_f (by decide) (br_f (by decide) (br_f (by decide) (br_f (by decide) (br_f (by decide) (br_f (by decide) (br_f (by decide) (br_f (by decide) (br_f (by decide) (br_f (by decide) (br_f (by decide) (br_f (by decide) (br_f (by decide) (br_f (by decide) (br_f (by decide) (br_f (by decide) (br_t (by decide) (h)))))))))))))))))))))
  · rw [pu_20] at h
    exact br_f (by decide) (br_t (by decide) (h))
  · rw [pu_21] at h
    exact br_f (by decide) (br_t (by decide) (h))
  · rw [pu_22] at h
    exact br_f (by decide) (br_t (by decide) (h))
  · rw [pu_23] at h
    exact br_f (by decide) (br_t (by decide) (h))
theorem xl_fb {post : Int32 → Prop} {k d t i h o : Nat} (B : bs_R k d t i h o fd ft fn fh co) (h3 : ts t = 2 → pl_P o i (ca (64 * t + i)) → post 3) (h2 : (ts t ≠ 2 ∨ ¬ pl_P o i (ca (64 * t + i))) → ¬ tu t < tl t → post 2) (h0 : (ts t ≠ 2 ∨ ¬ pl_P o i (ca (64 * t + i))) → tu t < tl t → post 0) : wpX_faultBefore post (q, tn, sl, pc, wp, he, co, ca, cb, fs, fc, ts, tu, ux, tl, ul, tm, gc, ga, gp, ss, st, sf, tc, tr, ow, ti, fd, ft, fk, fn, fh, fl, fv, rs, nt) (nI k) := by
  obtain ⟨hk, hd0, hd6, ed, ht, eft, efn, efh, hi, ho, eo⟩ := B
  have ex : (nI (6 * k + (d - 1))).toNatClampNeg = 6 * k + (d - 1) := nI_clamp (by omega)
  have vx : vp_in (nI (6 * k + (d - 1))) 36 := vp_in_nI (by omega) (by decide)
  have et : (nI t).toNatClampNeg = t := nI_clamp (by omega)
  have vt : vp_in (nI t) 4 := vp_in_nI ht (by decide)
  have q39 : (ts t ≠ 2 ∨ ¬ pl_P o i (ca (64 * t + i))) → wX_faultBefore_39 post (nI t) q tn sl pc wp he co ca cb fs fc ts tu ux tl ul tm gc ga gp ss st sf tc tr ow ti fd ft fk fn fh fl fv rs nt := by
    intro z
    refine ⟨vt, vt, ?_⟩
    rw [et]
    by_cases c : tu t < tl t
    · exact br_t c (h0 z c)
    · exact br_f c (h2 z c)
  unfold wpX_faultBefore; dsimp only
  refine xl_top hk hd0 ed ⟨vx, nm_r (e' := nI t) (by rw [ex, eft]) ⟨vt, ?_⟩⟩
  rw [et]
  by_cases c : ts t = 2
  · refine br_t c ⟨vx, ?_⟩
    rw [ex, efn]
    exact xl_poll ht hi ho eo (fun z => br_f (by decide) (h3 c z)) (fun z => br_t rfl (q39 (Or.inr z)))
  · exact br_f c (q39 (Or.inl c))
theorem yl_s88 {post : SY → Prop} {k d t i h o : Nat} (B : bs_R k d t i h o fd ft fn fh co) (hn : kl t = 0 ∨ ¬ pl_P o i (ca (64 * t + i))) (hp : wY_step_88 post (nI k) (nI (6 * k + (d - 1))) (nI t) (nI i) (nI o) (ca (64 * t + i)) q wp tn sl yd nd co ca cb le he kl tu uy tl ul tm gc ga gp ss st sf fd tc tr ow ti ft fn fh fp fz fl fv rs au) : wpY_step post (q, wp, tn, sl, yd, nd, co, ca, cb, le, he, kl, tu, uy, tl, ul, tm, gc, ga, gp, ss, st, sf, fd, tc, tr, ow, ti, ft, fn, fh, fp, fz, fl, fv, rs, au) (nI k) := by
  obtain ⟨hk, hd0, hd6, ed, ht, eft, efn, efh, hi, ho, eo⟩ := B
  have ek : (nI k).toNatClampNeg = k := nI_clamp (by omega)
  have ex : (nI (6 * k + (d - 1))).toNatClampNeg = 6 * k + (d - 1) := nI_clamp (by omega)
  have vx : vp_in (nI (6 * k + (d - 1))) 36 := vp_in_nI (by omega) (by decide)
  have et : (nI t).toNatClampNeg = t := nI_clamp (by omega)
  have vt : vp_in (nI t) 4 := vp_in_nI ht (by decide)
  have e1 : 64 * nI t + nI i = nI (64 * t + i) := ix_l 64 rfl t i
  have e2 : (nI (64 * t + i)).toNatClampNeg = 64 * t + i := nI_clamp (by omega)
  have v1 : vp_in (64 * nI t + nI i) 320 := by rw [e1]; exact vp_in_nI (by omega) (by decide)
  have e0 : 6 * nI k + fd (nI k).toNatClampNeg - 1 = nI (6 * k + (d - 1)) := by
    rw [ek, ed, ix_l (M := 6) 6 rfl, ix_p (by omega)]
    exact congrArg nI (by omega)
  refine ⟨vp_in_nI hk (by decide), nm_r e0 ⟨vx, nm_r (e' := nI t) (by rw [ex, eft]) ⟨vx, nm_r (e' := nI i) (by rw [ex, efn]) ⟨v1, nm_r (e' := nI o) (by rw [e1, e2, eo]) ⟨v1, nm_r (e' := ca (64 * t + i)) (by rw [e1, e2]) ⟨vt, ?_⟩⟩⟩⟩⟩⟩
  rw [et]
  by_cases c : kl t = 0
  · exact br_t c hp
  · exact br_f c (yl_poll ho (fun z => absurd z (hn.resolve_left c)) (fun _ => br_t rfl hp))
theorem yl_s3 {post : SY → Prop} {k d t i h o : Nat} (v1 : SY) (B : bs_R k d t i h o fd ft fn fh co) (hn : kl t ≠ 0) (hP : pl_P o i (ca (64 * t + i))) (hr : ∀ post' : SY → Prop, post' v1 → wpY_raise post' (q, wp, tn, sl, yd, nd, co, ca, cb, le, he, kl, tu, uy, tl, ul, tm, gc, ga, gp, ss, st, sf, fd, tc, tr, ow, ti, ft, fn, fh, fp, fz, fl, fv, rs, au) (nI k) 3) (hp : post v1) : wpY_step post (q, wp, tn, sl, yd, nd, co, ca, cb, le, he, kl, tu, uy, tl, ul, tm, gc, ga, gp, ss, st, sf, fd, tc, tr, ow, ti, ft, fn, fh, fp, fz, fl, fv, rs, au) (nI k) := by
  obtain ⟨hk, hd0, hd6, ed, ht, eft, efn, efh, hi, ho, eo⟩ := B
  have ek : (nI k).toNatClampNeg = k := nI_clamp (by omega)
  have ex : (nI (6 * k + (d - 1))).toNatClampNeg = 6 * k + (d - 1) := nI_clamp (by omega)
  have vx : vp_in (nI (6 * k + (d - 1))) 36 := vp_in_nI (by omega) (by decide)
  have et : (nI t).toNatClampNeg = t := nI_clamp (by omega)
  have vt : vp_in (nI t) 4 := vp_in_nI ht (by decide)
  have e1 : 64 * nI t + nI i = nI (64 * t + i) := ix_l 64 rfl t i
  have e2 : (nI (64 * t + i)).toNatClampNeg = 64 * t + i := nI_clamp (by omega)
  have v1' : vp_in (64 * nI t + nI i) 320 := by rw [e1]; exact vp_in_nI (by omega) (by decide)
  have e0 : 6 * nI k + fd (nI k).toNatClampNeg - 1 = nI (6 * k + (d - 1)) := by
    rw [ek, ed, ix_l (M := 6) 6 rfl, ix_p (by omega)]
    exact congrArg nI (by omega)
  refine ⟨vp_in_nI hk (by decide), nm_r e0 ⟨vx, nm_r (e' := nI t) (by rw [ex, eft]) ⟨vx, nm_r (e' := nI i) (by rw [ex, efn]) ⟨v1', nm_r (e' := nI o) (by rw [e1, e2, eo]) ⟨v1', nm_r (e' := ca (64 * t + i)) (by rw [e1, e2]) ⟨vt, br_f (by rw [et]; exact hn) (yl_poll ho (fun z => br_f (by decide) (hr _ ?_)) (fun z => absurd hP z))⟩⟩⟩⟩⟩⟩
  obtain ⟨y0, y1, y2, y3, y4, y5, y6, y7, y8, y9, y10, y11, y12, y13, y14, y15, y16, y17, y18, y19, y20, y21, y22, y23, y24, y25, y26, y27, y28, y29, y30, y31, y32, y33, y34, y35, y36⟩ := v1
  exact hp
theorem yl_s2 {post : SY → Prop} {k d t i h o : Nat} (v1 : SY) (B : bs_R k d t i h o fd ft fn fh co) (hn : kl t = 0 ∨ ¬ pl_P o i (ca (64 * t + i))) (hl : ¬ tu t < tl t) (hr : ∀ post' : SY → Prop, post' v1 → wpY_raise post' (q, wp, tn, sl, yd, nd, co, ca, cb, le, he, kl, tu, uy, tl, ul, tm, gc, ga, gp, ss, st, sf, fd, tc, tr, ow, ti, ft, fn, fh, fp, fz, fl, fv, rs, au) (nI k) 2) (hp : post v1) : wpY_step post (q, wp, tn, sl, yd, nd, co, ca, cb, le, he, kl, tu, uy, tl, ul, tm, gc, ga, gp, ss, st, sf, fd, tc, tr, ow, ti, ft, fn, fh, fp, fz, fl, fv, rs, au) (nI k) := by
  refine yl_s88 B hn ?_
  have ht := B.2.2.2.2.1
  have et : (nI t).toNatClampNeg = t := nI_clamp (by omega)
  have vt : vp_in (nI t) 4 := vp_in_nI ht (by decide)
  refine ⟨vt, vt, br_f (by rw [et]; exact hl) (hr _ ?_)⟩
  obtain ⟨y0, y1, y2, y3, y4, y5, y6, y7, y8, y9, y10, y11, y12, y13, y14, y15, y16, y17, y18, y19, y20, y21, y22, y23, y24, y25, y26, y27, y28, y29, y30, y31, y32, y33, y34, y35, y36⟩ := v1
  exact hp

theorem yl_sc {post : SY → Prop} {k d t i h o : Nat} (v1 : SY) (B : bs_R k d t i h o fd ft fn fh co) (hn : kl t = 0 ∨ ¬ pl_P o i (ca (64 * t + i))) (hl : tu t < tl t) (ho : o < 14)
    (hr : ∀ post' : SY → Prop, post' v1 → wpY_calculate post' (q, wp, tn, sl, yd, nd, co, ca, cb, le, he, kl, upd tu t (tu t + 1), uy, tl, ul, tm, gc, ga, gp, ss, st, sf, fd, tc, tr, ow, ti, ft, upd fn (6 * k + (d - 1)) (nI (i + 1)), fh, fp, fz, fl, fv, rs, au) (nI (6 * k + (d - 1))) (nI o) (ca (64 * t + i))) (hp : post v1) : wpY_step post (q, wp, tn, sl, yd, nd, co, ca, cb, le, he, kl, tu, uy, tl, ul, tm, gc, ga, gp, ss, st, sf, fd, tc, tr, ow, ti, ft, fn, fh, fp, fz, fl, fv, rs, au) (nI k) := by
  refine yl_s88 B hn ?_
  obtain ⟨hk, hd0, hd6, ed, ht, eft, efn, efh, hi, ho24, eo⟩ := B
  have ex : (nI (6 * k + (d - 1))).toNatClampNeg = 6 * k + (d - 1) := nI_clamp (by omega)
  have vx : vp_in (nI (6 * k + (d - 1))) 36 := vp_in_nI (by omega) (by decide)
  have et : (nI t).toNatClampNeg = t := nI_clamp (by omega)
  have vt : vp_in (nI t) 4 := vp_in_nI ht (by decide)
  have e1 : 64 * nI t + nI i = nI (64 * t + i) := ix_l 64 rfl t i
  have e2 : (nI (64 * t + i)).toNatClampNeg = 64 * t + i := nI_clamp (by omega)
  have v320 : vp_in (64 * nI t + nI i) 320 := by rw [e1]; exact vp_in_nI (by omega) (by decide)
  refine ⟨vt, vt, br_t (by rw [et]; exact hl) ⟨vt, vt, nm_r (e' := upd tu t (tu t + 1)) (by rw [et]) ⟨vx, vx, nm_r (e' := upd fn (6 * k + (d - 1)) (nI (i + 1))) (by rw [ex, efn, nI_1]) ?_⟩⟩⟩
  refine br_f (ix_ge 14 rfl ho (by decide)) (hr _ ?_)
  obtain ⟨y0, y1, y2, y3, y4, y5, y6, y7, y8, y9, y10, y11, y12, y13, y14, y15, y16, y17, y18, y19, y20, y21, y22, y23, y24, y25, y26, y27, y28, y29, y30, y31, y32, y33, y34, y35, y36⟩ := v1
  exact hp

theorem yl_sa {post : SY → Prop} {k d t i h o : Nat} (v1 : SY) (B : bs_R k d t i h o fd ft fn fh co) (hn : kl t = 0 ∨ ¬ pl_P o i (ca (64 * t + i))) (hl : tu t < tl t) (ho : 14 ≤ o) (ho18 : o ≠ 18)
    (hr : ∀ post' : SY → Prop, post' v1 → wpY_act post' (q, wp, tn, sl, yd, nd, co, ca, cb, le, he, kl, upd tu t (tu t + 1), uy, tl, ul, tm, gc, ga, gp, ss, st, sf, fd, tc, tr, ow, ti, ft, upd fn (6 * k + (d - 1)) (nI (i + 1)), fh, fp, fz, fl, fv, rs, au) (nI k) (nI (6 * k + (d - 1))) (nI o) (ca (64 * t + i))) (hp : post v1) : wpY_step post (q, wp, tn, sl, yd, nd, co, ca, cb, le, he, kl, tu, uy, tl, ul, tm, gc, ga, gp, ss, st, sf, fd, tc, tr, ow, ti, ft, fn, fh, fp, fz, fl, fv, rs, au) (nI k) := by
  refine yl_s88 B hn ?_
  obtain ⟨hk, hd0, hd6, ed, ht, eft, efn, efh, hi, ho24, eo⟩ := B
  have ex : (nI (6 * k + (d - 1))).toNatClampNeg = 6 * k + (d - 1) := nI_clamp (by omega)
  have vx : vp_in (nI (6 * k + (d - 1))) 36 := vp_in_nI (by omega) (by decide)
  have et : (nI t).toNatClampNeg = t := nI_clamp (by omega)
  have vt : vp_in (nI t) 4 := vp_in_nI ht (by decide)
  have e1 : 64 * nI t + nI i = nI (64 * t + i) := ix_l 64 rfl t i
  have e2 : (nI (64 * t + i)).toNatClampNeg = 64 * t + i := nI_clamp (by omega)
  have v320 : vp_in (64 * nI t + nI i) 320 := by rw [e1]; exact vp_in_nI (by omega) (by decide)
  refine ⟨vt, vt, br_t (by rw [et]; exact hl) ⟨vt, vt, nm_r (e' := upd tu t (tu t + 1)) (by rw [et]) ⟨vx, vx, nm_r (e' := upd fn (6 * k + (d - 1)) (nI (i + 1))) (by rw [ex, efn, nI_1]) ?_⟩⟩⟩
  refine br_t (ix_le 14 rfl ho (by omega)) (br_f (ix_ne 18 rfl ho18 (by omega) (by decide)) (hr _ ?_))
  obtain ⟨y0, y1, y2, y3, y4, y5, y6, y7, y8, y9, y10, y11, y12, y13, y14, y15, y16, y17, y18, y19, y20, y21, y22, y23, y24, y25, y26, y27, y28, y29, y30, y31, y32, y33, y34, y35, y36⟩ := v1
  exact hp

theorem yl_sg {post : SY → Prop} {k d t i h o : Nat} (v1 : SY) (B : bs_R k d t i h o fd ft fn fh co) (hn : kl t = 0 ∨ ¬ pl_P o i (ca (64 * t + i))) (hl : tu t < tl t) (ho : o = 18)
    (hr : ∀ post' : SY → Prop, post' v1 → wpY_guard post' (q, wp, tn, sl, yd, nd, co, ca, cb, le, he, kl, upd tu t (tu t + 1), uy, tl, ul, tm, gc, ga, gp, ss, st, sf, fd, tc, tr, ow, ti, ft, upd fn (6 * k + (d - 1)) (nI (i + 1)), fh, fp, fz, fl, fv, rs, au) (nI k) (nI (6 * k + (d - 1))) (ca (64 * t + i)) (cb (64 * t + i))) (hp : post v1) : wpY_step post (q, wp, tn, sl, yd, nd, co, ca, cb, le, he, kl, tu, uy, tl, ul, tm, gc, ga, gp, ss, st, sf, fd, tc, tr, ow, ti, ft, fn, fh, fp, fz, fl, fv, rs, au) (nI k) := by
  refine yl_s88 B hn ?_
  obtain ⟨hk, hd0, hd6, ed, ht, eft, efn, efh, hi, ho24, eo⟩ := B
  have ex : (nI (6 * k + (d - 1))).toNatClampNeg = 6 * k + (d - 1) := nI_clamp (by omega)
  have vx : vp_in (nI (6 * k + (d - 1))) 36 := vp_in_nI (by omega) (by decide)
  have et : (nI t).toNatClampNeg = t := nI_clamp (by omega)
  have vt : vp_in (nI t) 4 := vp_in_nI ht (by decide)
  have e1 : 64 * nI t + nI i = nI (64 * t + i) := ix_l 64 rfl t i
  have e2 : (nI (64 * t + i)).toNatClampNeg = 64 * t + i := nI_clamp (by omega)
  have v320 : vp_in (64 * nI t + nI i) 320 := by rw [e1]; exact vp_in_nI (by omega) (by decide)
  refine ⟨vt, vt, br_t (by rw [et]; exact hl) ⟨vt, vt, nm_r (e' := upd tu t (tu t + 1)) (by rw [et]) ⟨vx, vx, nm_r (e' := upd fn (6 * k + (d - 1)) (nI (i + 1))) (by rw [ex, efn, nI_1]) ?_⟩⟩⟩
  subst ho
  refine br_t (by decide) (br_t rfl ⟨v320, ?_⟩)
  rw [e1, e2]
  refine hr _ ?_
  obtain ⟨y0, y1, y2, y3, y4, y5, y6, y7, y8, y9, y10, y11, y12, y13, y14, y15, y16, y17, y18, y19, y20, y21, y22, y23, y24, y25, y26, y27, y28, y29, y30, y31, y32, y33, y34, y35, y36⟩ := v1
  exact hp

end
end
section
/-- an instruction o at (i, h) of a sound bundle -/
def bu_at (ca cb : Nat → Int32) (b n c : Nat) (H : Nat → Nat → Prop) (i h o : Nat) : Prop :=
  (o = 10 ∨ o = 11 → ∃ a : Nat, a < 4 ∧ ca (b + i) = nI a) ∧
  (o = 14 ∨ o = 15 ∨ o = 17 → ∃ f : Nat, f < c ∧ ca (b + i) = nI f) ∧
  (o = 16 → ∃ s : Nat, s < 4 ∧ ca (b + i) = nI s) ∧
  (o = 18 → (∃ a : Nat, a < 4 ∧ ca (b + i) = nI a) ∧ (∃ p : Nat, p < 84 ∧ cb (b + i) = nI p)) ∧
  st_po o (ca (b + i)) ≤ h ∧ h - st_po o (ca (b + i)) + st_pu o (ca (b + i)) ≤ 8 ∧
  (o ≠ 12 → o ≠ 21 → o ≠ 22 → i + 1 < n ∧ H (i + 1) (h - st_po o (ca (b + i)) + st_pu o (ca (b + i)))) ∧
  (o = 12 ∨ o = 13 → ∃ j : Nat, ca (b + i) = nI j ∧ H j (h - st_po o (ca (b + i)) + st_pu o (ca (b + i))))
theorem bu_get {co ca cb : Nat → Int32} {b n c : Nat} {H : Nat → Nat → Prop} {i h : Nat} (z : bu_ok co ca cb b n c H i h) : i < n ∧ h ≤ 8 ∧ ∃ o : Nat, o < 24 ∧ co (b + i) = nI o ∧ bu_at ca cb b n c H i h o := by
  obtain ⟨z1, z2, o, z3, z4, z5⟩ := z
  exact ⟨z1, z2, o, z3, z4, z5⟩
def sg_R (M : Nat) (H : Nat → Nat → Nat → Prop) (k s d t i h o n c : Nat) (q tn sl pc wp yd nd : Int32) (he co ca cb fs fc ts tu ux tl ul tm gc ga gp ss st sf tc tr ow ti fd ft fk fn fh fl fv rs nt le kl uy fp fz au : Nat → Int32) : Prop :=
  rl_C M H q pc nd le fc ts kl fs co ca cb gc gp st sf au nt ∧ tn = nI k ∧ sl = nI s ∧ yd = 0 ∧ tc k = -1 ∧ bs_R k d t i h o fd ft fn fh co ∧ th_lo H ft fn fh fz k d ∧ (∀ k', k' < 6 → k' ≠ k → th_ok H ft fn fh fz tc fd k') ∧ rl_k fk fp fz ∧ rl_v ux uy kl fd ft ∧
  (kl t = 0 ∨ ¬ pl_P o i (ca (64 * t + i))) ∧ tu t < tl t ∧ h ≤ 8 ∧ le t = nI n ∧ n ≤ 64 ∧ fc t = nI c ∧ c ≤ 4 ∧ bu_at ca cb (64 * t) n c (H t) i h o
section
variable {q tn sl pc wp yd nd : Int32} {he co ca cb fs fc ts tu ux tl ul tm gc ga gp ss st sf tc tr ow ti fd ft fk fn fh fl fv rs nt le kl uy fp fz au : Nat → Int32}
theorem rc_up {M : Nat} {H : Nat → Nat → Nat → Prop} (C : rl_C M H q pc nd le fc ts kl fs co ca cb gc gp st sf au nt) : rl_C (M + 1) H q pc nd le fc ts kl fs co ca cb gc gp st sf au nt :=
  ⟨C.1, C.2.1, C.2.2.1, C.2.2.2.1, C.2.2.2.2.1, rl_nU C.2.2.2.2.2 (by omega)⟩
theorem pr_top {M : Nat} {H : Nat → Nat → Nat → Prop} {k s d t i h o n c i' h' : Nat} {nd' slx yd' : Int32} {fn' fh' fl' fv' tu' ux' uy' rs' nt' au' : Nat → Int32} (G : sg_R M H k s d t i h o n c q tn sl pc wp yd nd he co ca cb fs fc ts tu ux tl ul tm gc ga gp ss st sf tc tr ow ti fd ft fk fn fh fl fv rs nt le kl uy fp fz au) (C' : rl_C (M + 1) H q pc nd' le fc ts kl fs co ca cb gc gp st sf au' nt')
    (e1 : ∀ y, y ≠ 6 * k + (d - 1) → fn' y = fn y) (e2 : fn' (6 * k + (d - 1)) = nI i') (e3 : ∀ y, y ≠ 6 * k + (d - 1) → fh' y = fh y) (e4 : fh' (6 * k + (d - 1)) = nI h') (hH : H t i' h') (hV' : rl_v ux' uy' kl fd ft) (hs : slx = nI s ∧ tc k = -1 ∧ yd' = 0 ∨ slx = 0 ∧ (tc k ≠ -1 ∨ yd' ≠ 0)) :
    md_R (M + 1) k s (q, tn, slx, pc, wp, he, co, ca, cb, fs, fc, ts, tu', ux', tl, ul, tm, gc, ga, gp, ss, st, sf, tc, tr, ow, ti, fd, ft, fk, fn', fh', fl', fv', rs', nt') (q, wp, tn, sl, yd', nd', co, ca, cb, le, he, kl, tu', uy', tl, ul, tm, gc, ga, gp, ss, st, sf, fd, tc, tr, ow, ti, ft, fn', fh', fp, fz, fl', fv', rs', au') := by
  obtain ⟨C, htn, hsl, hyd, htc, ⟨hk, hd0, hd6, ed, ht, eft, efn, efh, hi, ho, eo⟩, hlo, hO, hK, hV, g⟩ := G
  refine mk_md C' htn hsl hs ?_ hK hV'
  intro k' hk'
  by_cases ck : k' = k
  · subst ck
    refine ⟨d, hd6, ed, ⟨fun _ => hd0, fun _ => htc⟩, fun _ => ⟨tl_cg hd0 hlo (fun _ _ => rfl) (fun j hj => e1 _ (by omega)) (fun j hj => e3 _ (by omega)) (fun _ _ => rfl), t, i', h', ht, eft, e2, e4, hH⟩⟩
  · exact th_cg (hO k' hk' ck) (fun _ _ => rfl) (fun j hj => e1 _ (by omega)) (fun j hj => e3 _ (by omega)) (fun _ _ => rfl) rfl rfl

theorem xl_cv {post : Int32 → SX → Prop} {k d t i h o : Nat} (u1 : SX) (B : bs_R k d t i h o fd ft fn fh co) (ho : o < 12) (hr : ∀ post' : SX → Prop, post' u1 → wpX_computeValues post' (q, tn, sl, pc, wp, he, co, ca, cb, fs, fc, ts, upd tu t (tu t + 1), ux, tl, ul, tm, gc, ga, gp, ss, st, sf, tc, tr, ow, ti, fd, ft, fk, upd fn (6 * k + (d - 1)) (nI (i + 1)), fh, fl, fv, rs, nt) (nI (6 * k + (d - 1))) (nI o) (ca (64 * t + i))) (hp : post 0 u1) : wpX_execute post (q, tn, sl, pc, wp, he, co, ca, cb, fs, fc, ts, tu, ux, tl, ul, tm, gc, ga, gp, ss, st, sf, tc, tr, ow, ti, fd, ft, fk, fn, fh, fl, fv, rs, nt) (nI k) := by
  obtain ⟨hk, hd0, hd6, ed, ht, eft, efn, efh, hi, ho24, eo⟩ := B
  have ex : (nI (6 * k + (d - 1))).toNatClampNeg = 6 * k + (d - 1) := nI_clamp (by omega)
  have vx : vp_in (nI (6 * k + (d - 1))) 36 := vp_in_nI (by omega) (by decide)
  have et : (nI t).toNatClampNeg = t := nI_clamp (by omega)
  have vt : vp_in (nI t) 4 := vp_in_nI ht (by decide)
  have e1 : nI t * 64 + nI i = nI (64 * t + i) := ix_r 64 rfl t i
  have e2 : (nI (64 * t + i)).toNatClampNeg = 64 * t + i := nI_clamp (by omega)
  have v320 : vp_in (nI (64 * t + i)) 320 := vp_in_nI (by omega) (by decide)
  unfold wpX_execute; dsimp only
  refine xl_top hk hd0 ed ⟨vx, nm_r (e' := nI t) (by rw [ex, eft]) ⟨vx, nm_r (e' := nI (64 * t + i)) (by rw [ex, efn, e1]) ⟨v320, nm_r (e' := nI o) (by rw [e2, eo]) ⟨v320, nm_r (e' := ca (64 * t + i)) (by rw [e2]) ⟨vt, vt, nm_r (e' := upd tu t (tu t + 1)) (by rw [et]) ⟨vx, vx, nm_r (e' := upd fn (6 * k + (d - 1)) (nI (i + 1))) (by rw [ex, efn, nI_1]) ?_⟩⟩⟩⟩⟩⟩
  refine br_t (nI_lt (b := 12) ho (by decide)) (hr _ ?_)
  obtain ⟨y0, y1, y2, y3, y4, y5, y6, y7, y8, y9, y10, y11, y12, y13, y14, y15, y16, y17, y18, y19, y20, y21, y22, y23, y24, y25, y26, y27, y28, y29, y30, y31, y32, y33, y34, y35⟩ := u1
  exact hp
theorem xe_12 {post : Int32 → SX → Prop} {k d t i h : Nat} (B : bs_R k d t i h 12 fd ft fn fh co) (hp : post 0 (q, tn, sl, pc, wp, he, co, ca, cb, fs, fc, ts, upd tu t (tu t + 1), ux, tl, ul, tm, gc, ga, gp, ss, st, sf, tc, tr, ow, ti, fd, ft, fk, upd (upd fn (6 * k + (d - 1)) (nI (i + 1))) (6 * k + (d - 1)) (ca (64 * t + i)), fh, fl, fv, rs, nt)) : wpX_execute post (q, tn, sl, pc, wp, he, co, ca, cb, fs, fc, ts, tu, ux, tl, ul, tm, gc, ga, gp, ss, st, sf, tc, tr, ow, ti, fd, ft, fk, fn, fh, fl, fv, rs, nt) (nI k) := by
  obtain ⟨hk, hd0, hd6, ed, ht, eft, efn, efh, hi, ho24, eo⟩ := B
  have ex : (nI (6 * k + (d - 1))).toNatClampNeg = 6 * k + (d - 1) := nI_clamp (by omega)
  have vx : vp_in (nI (6 * k + (d - 1))) 36 := vp_in_nI (by omega) (by decide)
  have et : (nI t).toNatClampNeg = t := nI_clamp (by omega)
  have vt : vp_in (nI t) 4 := vp_in_nI ht (by decide)
  have e1 : nI t * 64 + nI i = nI (64 * t + i) := ix_r 64 rfl t i
  have e2 : (nI (64 * t + i)).toNatClampNeg = 64 * t + i := nI_clamp (by omega)
  have v320 : vp_in (nI (64 * t + i)) 320 := vp_in_nI (by omega) (by decide)
  unfold wpX_execute; dsimp only
  refine xl_top hk hd0 ed ⟨vx, nm_r (e' := nI t) (by rw [ex, eft]) ⟨vx, nm_r (e' := nI (64 * t + i)) (by rw [ex, efn, e1]) ⟨v320, nm_r (e' := nI 12) (by rw [e2, eo]) ⟨v320, nm_r (e' := ca (64 * t + i)) (by rw [e2]) ⟨vt, vt, nm_r (e' := upd tu t (tu t + 1)) (by rw [et]) ⟨vx, vx, nm_r (e' := upd fn (6 * k + (d - 1)) (nI (i + 1))) (by rw [ex, efn, nI_1]) ?_⟩⟩⟩⟩⟩⟩
  refine br_f (by decide) (br_f (by decide) (br_t (by decide) (?_)))
  exact ⟨vx, nm_r (by rw [ex]) hp⟩
theorem xe_13 {post : Int32 → SX → Prop} {k d t i h : Nat} (B : bs_R k d t i h 13 fd ft fn fh co) (h0 : 0 < h) (h8 : h ≤ 8) (hp0 : fv (8 * (6 * k + (d - 1)) + (h - 1)) = 0 → post 0 (q, tn, sl, pc, wp, he, co, ca, cb, fs, fc, ts, upd tu t (tu t + 1), ux, tl, ul, tm, gc, ga, gp, ss, st, sf, tc, tr, ow, ti, fd, ft, fk, upd (upd fn (6 * k + (d - 1)) (nI (i + 1))) (6 * k + (d - 1)) (ca (64 * t + i)), upd fh (6 * k + (d - 1)) (nI (h - 1)), fl, fv, rs, nt)) (hp1 : ¬ fv (8 * (6 * k + (d - 1)) + (h - 1)) = 0 → post 0 (q, tn, sl, pc, wp, he, co, ca, cb, fs, fc, ts, upd tu t (tu t + 1), ux, tl, ul, tm, gc, ga, gp, ss, st, sf, tc, tr, ow, ti, fd, ft, fk, upd fn (6 * k + (d - 1)) (nI (i + 1)), upd fh (6 * k + (d - 1)) (nI (h - 1)), fl, fv, rs, nt)) : wpX_execute post (q, tn, sl, pc, wp, he, co, ca, cb, fs, fc, ts, tu, ux, tl, ul, tm, gc, ga, gp, ss, st, sf, tc, tr, ow, ti, fd, ft, fk, fn, fh, fl, fv, rs, nt) (nI k) := by
  obtain ⟨hk, hd0, hd6, ed, ht, eft, efn, efh, hi, ho24, eo⟩ := B
  have ex : (nI (6 * k + (d - 1))).toNatClampNeg = 6 * k + (d - 1) := nI_clamp (by omega)
  have vx : vp_in (nI (6 * k + (d - 1))) 36 := vp_in_nI (by omega) (by decide)
  have et : (nI t).toNatClampNeg = t := nI_clamp (by omega)
  have vt : vp_in (nI t) 4 := vp_in_nI ht (by decide)
  have e1 : nI t * 64 + nI i = nI (64 * t + i) := ix_r 64 rfl t i
  have e2 : (nI (64 * t + i)).toNatClampNeg = 64 * t + i := nI_clamp (by omega)
  have v320 : vp_in (nI (64 * t + i)) 320 := vp_in_nI (by omega) (by decide)
  unfold wpX_execute; dsimp only
  refine xl_top hk hd0 ed ⟨vx, nm_r (e' := nI t) (by rw [ex, eft]) ⟨vx, nm_r (e' := nI (64 * t + i)) (by rw [ex, efn, e1]) ⟨v320, nm_r (e' := nI 13) (by rw [e2, eo]) ⟨v320, nm_r (e' := ca (64 * t + i)) (by rw [e2]) ⟨vt, vt, nm_r (e' := upd tu t (tu t + 1)) (by rw [et]) ⟨vx, vx, nm_r (e' := upd fn (6 * k + (d - 1)) (nI (i + 1))) (by rw [ex, efn, nI_1]) ?_⟩⟩⟩⟩⟩⟩
  refine br_f (by decide) (br_f (by decide) (br_f (by decide) (br_t (by decide) (?_))))
  refine xl_pop (h := h - 1) (by omega) (by rw [efh]; exact congrArg nI (by omega)) (by omega) ?_
  by_cases c : fv (8 * (6 * k + (d - 1)) + (h - 1)) = 0
  · exact br_t c ⟨vx, nm_r (by rw [ex]) (hp0 c)⟩
  · exact br_f c ⟨vx, vx, nm_r (by rw [ex, ix_self]) (hp1 c)⟩
theorem xe_14 {post : Int32 → SX → Prop} {k d t i h : Nat} (B : bs_R k d t i h 14 fd ft fn fh co) (u1 : SX) (r : Int32) (hr : ∀ post' : Int32 → SX → Prop, post' r u1 → wpX_callFunction post' (q, tn, sl, pc, wp, he, co, ca, cb, fs, fc, ts, upd tu t (tu t + 1), ux, tl, ul, tm, gc, ga, gp, ss, st, sf, tc, tr, ow, ti, fd, ft, fk, upd fn (6 * k + (d - 1)) (nI (i + 1)), fh, fl, fv, rs, nt) (nI k) (ca (64 * t + i)) 0) (hp : post r u1) : wpX_execute post (q, tn, sl, pc, wp, he, co, ca, cb, fs, fc, ts, tu, ux, tl, ul, tm, gc, ga, gp, ss, st, sf, tc, tr, ow, ti, fd, ft, fk, fn, fh, fl, fv, rs, nt) (nI k) := by
  obtain ⟨hk, hd0, hd6, ed, ht, eft, efn, efh, hi, ho24, eo⟩ := B
  have ex : (nI (6 * k + (d - 1))).toNatClampNeg = 6 * k + (d - 1) := nI_clamp (by omega)
  have vx : vp_in (nI (6 * k + (d - 1))) 36 := vp_in_nI (by omega) (by decide)
  have et : (nI t).toNatClampNeg = t := nI_clamp (by omega)
  have vt : vp_in (nI t) 4 := vp_in_nI ht (by decide)
  have e1 : nI t * 64 + nI i = nI (64 * t + i) := ix_r 64 rfl t i
  have e2 : (nI (64 * t + i)).toNatClampNeg = 64 * t + i := nI_clamp (by omega)
  have v320 : vp_in (nI (64 * t + i)) 320 := vp_in_nI (by omega) (by decide)
  unfold wpX_execute; dsimp only
  refine xl_top hk hd0 ed ⟨vx, nm_r (e' := nI t) (by rw [ex, eft]) ⟨vx, nm_r (e' := nI (64 * t + i)) (by rw [ex, efn, e1]) ⟨v320, nm_r (e' := nI 14) (by rw [e2, eo]) ⟨v320, nm_r (e' := ca (64 * t + i)) (by rw [e2]) ⟨vt, vt, nm_r (e' := upd tu t (tu t + 1)) (by rw [et]) ⟨vx, vx, nm_r (e' := upd fn (6 * k + (d - 1)) (nI (i + 1))) (by rw [ex, efn, nI_1]) ?_⟩⟩⟩⟩⟩⟩
  refine br_f (by decide) (br_f (by decide) (br_f (by decide) (br_f (by decide) (br_t (by decide) (?_)))))
  refine hr _ ?_
  obtain ⟨y0, y1, y2, y3, y4, y5, y6, y7, y8, y9, y10, y11, y12, y13, y14, y15, y16, y17, y18, y19, y20, y21, y22, y23, y24, y25, y26, y27, y28, y29, y30, y31, y32, y33, y34, y35⟩ := u1
  exact hp
theorem xe_15 {post : Int32 → SX → Prop} {k d t i h : Nat} (B : bs_R k d t i h 15 fd ft fn fh co) (u1 : SX) (r : Int32) (hr : ∀ post' : Int32 → SX → Prop, post' r u1 → wpX_callFunction post' (q, tn, sl, pc, wp, he, co, ca, cb, fs, fc, ts, upd tu t (tu t + 1), ux, tl, ul, tm, gc, ga, gp, ss, st, sf, tc, tr, ow, ti, fd, ft, fk, upd fn (6 * k + (d - 1)) (nI (i + 1)), fh, fl, fv, rs, nt) (nI k) (ca (64 * t + i)) 1) (hp : post r u1) : wpX_execute post (q, tn, sl, pc, wp, he, co, ca, cb, fs, fc, ts, tu, ux, tl, ul, tm, gc, ga, gp, ss, st, sf, tc, tr, ow, ti, fd, ft, fk, fn, fh, fl, fv, rs, nt) (nI k) := by
  obtain ⟨hk, hd0, hd6, ed, ht, eft, efn, efh, hi, ho24, eo⟩ := B
  have ex : (nI (6 * k + (d - 1))).toNatClampNeg = 6 * k + (d - 1) := nI_clamp (by omega)
  have vx : vp_in (nI (6 * k + (d - 1))) 36 := vp_in_nI (by omega) (by decide)
  have et : (nI t).toNatClampNeg = t := nI_clamp (by omega)
  have vt : vp_in (nI t) 4 := vp_in_nI ht (by decide)
  have e1 : nI t * 64 + nI i = nI (64 * t + i) := ix_r 64 rfl t i
  have e2 : (nI (64 * t + i)).toNatClampNeg = 64 * t + i := nI_clamp (by omega)
  have v320 : vp_in (nI (64 * t + i)) 320 := vp_in_nI (by omega) (by decide)
  unfold wpX_execute; dsimp only
  refine xl_top hk hd0 ed ⟨vx, nm_r (e' := nI t) (by rw [ex, eft]) ⟨vx, nm_r (e' := nI (64 * t + i)) (by rw [ex, efn, e1]) ⟨v320, nm_r (e' := nI 15) (by rw [e2, eo]) ⟨v320, nm_r (e' := ca (64 * t + i)) (by rw [e2]) ⟨vt, vt, nm_r (e' := upd tu t (tu t + 1)) (by rw [et]) ⟨vx, vx, nm_r (e' := upd fn (6 * k + (d - 1)) (nI (i + 1))) (by rw [ex, efn, nI_1]) ?_⟩⟩⟩⟩⟩⟩
  refine br_f (by decide) (br_f (by decide) (br_f (by decide) (br_f (by decide) (br_f (by decide) (br_t (by decide) (?_))))))
  refine hr _ ?_
  obtain ⟨y0, y1, y2, y3, y4, y5, y6, y7, y8, y9, y10, y11, y12, y13, y14, y15, y16, y17, y18, y19, y20, y21, y22, y23, y24, y25, y26, y27, y28, y29, y30, y31, y32, y33, y34, y35⟩ := u1
  exact hp
theorem xe_16 {post : Int32 → SX → Prop} {k d t i h : Nat} (B : bs_R k d t i h 16 fd ft fn fh co) (u1 : SX) (r : Int32) (hr : ∀ post' : Int32 → SX → Prop, post' r u1 → wpX_sendToSlot post' (q, tn, sl, pc, wp, he, co, ca, cb, fs, fc, ts, upd tu t (tu t + 1), ux, tl, ul, tm, gc, ga, gp, ss, st, sf, tc, tr, ow, ti, fd, ft, fk, upd fn (6 * k + (d - 1)) (nI (i + 1)), fh, fl, fv, rs, nt) (nI k) (ca (64 * t + i))) (hp : post r u1) : wpX_execute post (q, tn, sl, pc, wp, he, co, ca, cb, fs, fc, ts, tu, ux, tl, ul, tm, gc, ga, gp, ss, st, sf, tc, tr, ow, ti, fd, ft, fk, fn, fh, fl, fv, rs, nt) (nI k) := by
  obtain ⟨hk, hd0, hd6, ed, ht, eft, efn, efh, hi, ho24, eo⟩ := B
  have ex : (nI (6 * k + (d - 1))).toNatClampNeg = 6 * k + (d - 1) := nI_clamp (by omega)
  have vx : vp_in (nI (6 * k + (d - 1))) 36 := vp_in_nI (by omega) (by decide)
  have et : (nI t).toNatClampNeg = t := nI_clamp (by omega)
  have vt : vp_in (nI t) 4 := vp_in_nI ht (by decide)
  have e1 : nI t * 64 + nI i = nI (64 * t + i) := ix_r 64 rfl t i
  have e2 : (nI (64 * t + i)).toNatClampNeg = 64 * t + i := nI_clamp (by omega)
  have v320 : vp_in (nI (64 * t + i)) 320 := vp_in_nI (by omega) (by decide)
  unfold wpX_execute; dsimp only
  refine xl_top hk hd0 ed ⟨vx, nm_r (e' := nI t) (by rw [ex, eft]) ⟨vx, nm_r (e' := nI (64 * t + i)) (by rw [ex, efn, e1]) ⟨v320, nm_r (e' := nI 16) (by rw [e2, eo]) ⟨v320, nm_r (e' := ca (64 * t + i)) (by rw [e2]) ⟨vt, vt, nm_r (e' := upd tu t (tu t + 1)) (by rw [et]) ⟨vx, vx, nm_r (e' := upd fn (6 * k + (d - 1)) (nI (i + 1))) (by rw [ex, efn, nI_1]) ?_⟩⟩⟩⟩⟩⟩
  refine br_f (by decide) (br_f (by decide) (br_f (by decide) (br_f (by decide) (br_f (by decide) (br_f (by decide) (br_t (by decide) (?_)))))))
  refine hr _ ?_
  obtain ⟨y0, y1, y2, y3, y4, y5, y6, y7, y8, y9, y10, y11, y12, y13, y14, y15, y16, y17, y18, y19, y20, y21, y22, y23, y24, y25, y26, y27, y28, y29, y30, y31, y32, y33, y34, y35⟩ := u1
  exact hp
theorem xe_17 {post : Int32 → SX → Prop} {k d t i h : Nat} (B : bs_R k d t i h 17 fd ft fn fh co) (u1 : SX) (hr : ∀ post' : SX → Prop, post' u1 → wpX_spawnThread post' (q, tn, sl, pc, wp, he, co, ca, cb, fs, fc, ts, upd tu t (tu t + 1), ux, tl, ul, tm, gc, ga, gp, ss, st, sf, tc, tr, ow, ti, fd, ft, fk, upd fn (6 * k + (d - 1)) (nI (i + 1)), fh, fl, fv, rs, nt) (nI k) (ca (64 * t + i))) (hp : post 0 u1) : wpX_execute post (q, tn, sl, pc, wp, he, co, ca, cb, fs, fc, ts, tu, ux, tl, ul, tm, gc, ga, gp, ss, st, sf, tc, tr, ow, ti, fd, ft, fk, fn, fh, fl, fv, rs, nt) (nI k) := by
  obtain ⟨hk, hd0, hd6, ed, ht, eft, efn, efh, hi, ho24, eo⟩ := B
  have ex : (nI (6 * k + (d - 1))).toNatClampNeg = 6 * k + (d - 1) := nI_clamp (by omega)
  have vx : vp_in (nI (6 * k + (d - 1))) 36 := vp_in_nI (by omega) (by decide)
  have et : (nI t).toNatClampNeg = t := nI_clamp (by omega)
  have vt : vp_in (nI t) 4 := vp_in_nI ht (by decide)
  have e1 : nI t * 64 + nI i = nI (64 * t + i) := ix_r 64 rfl t i
  have e2 : (nI (64 * t + i)).toNatClampNeg = 64 * t + i := nI_clamp (by omega)
  have v320 : vp_in (nI (64 * t + i)) 320 := vp_in_nI (by omega) (by decide)
  unfold wpX_execute; dsimp only
  refine xl_top hk hd0 ed ⟨vx, nm_r (e' := nI t) (by rw [ex, eft]) ⟨vx, nm_r (e' := nI (64 * t + i)) (by rw [ex, efn, e1]) ⟨v320, nm_r (e' := nI 17) (by rw [e2, eo]) ⟨v320, nm_r (e' := ca (64 * t + i)) (by rw [e2]) ⟨vt, vt, nm_r (e' := upd tu t (tu t + 1)) (by rw [et]) ⟨vx, vx, nm_r (e' := upd fn (6 * k + (d - 1)) (nI (i + 1))) (by rw [ex, efn, nI_1]) ?_⟩⟩⟩⟩⟩⟩
  refine br_f (by decide) (br_f (by decide) (br_f (by decide) (br_f (by decide) (br_f (by decide) (br_f (by decide) (br_f (by decide) (br_t (by decide) (?_))))))))
  refine hr _ ?_
  obtain ⟨y0, y1, y2, y3, y4, y5, y6, y7, y8, y9, y10, y11, y12, y13, y14, y15, y16, y17, y18, y19, y20, y21, y22, y23, y24, y25, y26, y27, y28, y29, y30, y31, y32, y33, y34, y35⟩ := u1
  exact hp
theorem xe_18 {post : Int32 → SX → Prop} {k d t i h : Nat} (B : bs_R k d t i h 18 fd ft fn fh co) (u1 : SX) (r : Int32) (hr : ∀ post' : Int32 → SX → Prop, post' r u1 → wpX_guardPath post' (q, tn, sl, pc, wp, he, co, ca, cb, fs, fc, ts, upd tu t (tu t + 1), ux, tl, ul, tm, gc, ga, gp, ss, st, sf, tc, tr, ow, ti, fd, ft, fk, upd fn (6 * k + (d - 1)) (nI (i + 1)), fh, fl, fv, rs, nt) (nI k) (ca (64 * t + i)) (cb (64 * t + i))) (hp : post r u1) : wpX_execute post (q, tn, sl, pc, wp, he, co, ca, cb, fs, fc, ts, tu, ux, tl, ul, tm, gc, ga, gp, ss, st, sf, tc, tr, ow, ti, fd, ft, fk, fn, fh, fl, fv, rs, nt) (nI k) := by
  obtain ⟨hk, hd0, hd6, ed, ht, eft, efn, efh, hi, ho24, eo⟩ := B
  have ex : (nI (6 * k + (d - 1))).toNatClampNeg = 6 * k + (d - 1) := nI_clamp (by omega)
  have vx : vp_in (nI (6 * k + (d - 1))) 36 := vp_in_nI (by omega) (by decide)
  have et : (nI t).toNatClampNeg = t := nI_clamp (by omega)
  have vt : vp_in (nI t) 4 := vp_in_nI ht (by decide)
  have e1 : nI t * 64 + nI i = nI (64 * t + i) := ix_r 64 rfl t i
  have e2 : (nI (64 * t + i)).toNatClampNeg = 64 * t + i := nI_clamp (by omega)
  have v320 : vp_in (nI (64 * t + i)) 320 := vp_in_nI (by omega) (by decide)
  unfold wpX_execute; dsimp only
  refine xl_top hk hd0 ed ⟨vx, nm_r (e' := nI t) (by rw [ex, eft]) ⟨vx, nm_r (e' := nI (64 * t + i)) (by rw [ex, efn, e1]) ⟨v320, nm_r (e' := nI 18) (by rw [e2, eo]) ⟨v320, nm_r (e' := ca (64 * t + i)) (by rw [e2]) ⟨vt, vt, nm_r (e' := upd tu t (tu t + 1)) (by rw [et]) ⟨vx, vx, nm_r (e' := upd fn (6 * k + (d - 1)) (nI (i + 1))) (by rw [ex, efn, nI_1]) ?_⟩⟩⟩⟩⟩⟩
  refine br_f (by decide) (br_f (by decide) (br_f (by decide) (br_f (by decide) (br_f (by decide) (br_f (by decide) (br_f (by decide) (br_f (by decide) (br_t (by decide) (?_)))))))))
  rw [e2]
  refine ⟨v320, hr _ ?_⟩
  obtain ⟨y0, y1, y2, y3, y4, y5, y6, y7, y8, y9, y10, y11, y12, y13, y14, y15, y16, y17, y18, y19, y20, y21, y22, y23, y24, y25, y26, y27, y28, y29, y30, y31, y32, y33, y34, y35⟩ := u1
  exact hp
theorem xe_19 {post : Int32 → SX → Prop} {k d t i h : Nat} (B : bs_R k d t i h 19 fd ft fn fh co) (u1 : SX) (hr : ∀ post' : SX → Prop, post' u1 → wpX_allocUnits post' (q, tn, sl, pc, wp, he, co, ca, cb, fs, fc, ts, upd tu t (tu t + 1), ux, tl, ul, tm, gc, ga, gp, ss, st, sf, tc, tr, ow, ti, fd, ft, fk, upd fn (6 * k + (d - 1)) (nI (i + 1)), fh, fl, fv, rs, nt) (nI (6 * k + (d - 1)))) (hp : post 0 u1) : wpX_execute post (q, tn, sl, pc, wp, he, co, ca, cb, fs, fc, ts, tu, ux, tl, ul, tm, gc, ga, gp, ss, st, sf, tc, tr, ow, ti, fd, ft, fk, fn, fh, fl, fv, rs, nt) (nI k) := by
  obtain ⟨hk, hd0, hd6, ed, ht, eft, efn, efh, hi, ho24, eo⟩ := B
  have ex : (nI (6 * k + (d - 1))).toNatClampNeg = 6 * k + (d - 1) := nI_clamp (by omega)
  have vx : vp_in (nI (6 * k + (d - 1))) 36 := vp_in_nI (by omega) (by decide)
  have et : (nI t).toNatClampNeg = t := nI_clamp (by omega)
  have vt : vp_in (nI t) 4 := vp_in_nI ht (by decide)
  have e1 : nI t * 64 + nI i = nI (64 * t + i) := ix_r 64 rfl t i
  have e2 : (nI (64 * t + i)).toNatClampNeg = 64 * t + i := nI_clamp (by omega)
  have v320 : vp_in (nI (64 * t + i)) 320 := vp_in_nI (by omega) (by decide)
  unfold wpX_execute; dsimp only
  refine xl_top hk hd0 ed ⟨vx, nm_r (e' := nI t) (by rw [ex, eft]) ⟨vx, nm_r (e' := nI (64 * t + i)) (by rw [ex, efn, e1]) ⟨v320, nm_r (e' := nI 19) (by rw [e2, eo]) ⟨v320, nm_r (e' := ca (64 * t + i)) (by rw [e2]) ⟨vt, vt, nm_r (e' := upd tu t (tu t + 1)) (by rw [et]) ⟨vx, vx, nm_r (e' := upd fn (6 * k + (d - 1)) (nI (i + 1))) (by rw [ex, efn, nI_1]) ?_⟩⟩⟩⟩⟩⟩
  refine br_f (by decide) (br_f (by decide) (br_f (by decide) (br_f (by decide) (br_f (by decide) (br_f (by decide) (br_f (by decide) (br_f (by decide) (br_f (by decide) (br_t (by decide) (?_))))))))))
  refine hr _ ?_
  obtain ⟨y0, y1, y2, y3, y4, y5, y6, y7, y8, y9, y10, y11, y12, y13, y14, y15, y16, y17, y18, y19, y20, y21, y22, y23, y24, y25, y26, y27, y28, y29, y30, y31, y32, y33, y34, y35⟩ := u1
  exact hp
theorem xe_20 {post : Int32 → SX → Prop} {k d t i h : Nat} (B : bs_R k d t i h 20 fd ft fn fh co) (u1 : SX) (hr : ∀ post' : SX → Prop, post' u1 → wpX_freeUnits post' (q, tn, sl, pc, wp, he, co, ca, cb, fs, fc, ts, upd tu t (tu t + 1), ux, tl, ul, tm, gc, ga, gp, ss, st, sf, tc, tr, ow, ti, fd, ft, fk, upd fn (6 * k + (d - 1)) (nI (i + 1)), fh, fl, fv, rs, nt) (nI (6 * k + (d - 1)))) (hp : post 0 u1) : wpX_execute post (q, tn, sl, pc, wp, he, co, ca, cb, fs, fc, ts, tu, ux, tl, ul, tm, gc, ga, gp, ss, st, sf, tc, tr, ow, ti, fd, ft, fk, fn, fh, fl, fv, rs, nt) (nI k) := by
  obtain ⟨hk, hd0, hd6, ed, ht, eft, efn, efh, hi, ho24, eo⟩ := B
  have ex : (nI (6 * k + (d - 1))).toNatClampNeg = 6 * k + (d - 1) := nI_clamp (by omega)
  have vx : vp_in (nI (6 * k + (d - 1))) 36 := vp_in_nI (by omega) (by decide)
  have et : (nI t).toNatClampNeg = t := nI_clamp (by omega)
  have vt : vp_in (nI t) 4 := vp_in_nI ht (by decide)
  have e1 : nI t * 64 + nI i = nI (64 * t + i) := ix_r 64 rfl t i
  have e2 : (nI (64 * t + i)).toNatClampNeg = 64 * t + i := nI_clamp (by omega)
  have v320 : vp_in (nI (64 * t + i)) 320 := vp_in_nI (by omega) (by decide)
  unfold wpX_execute; dsimp only
  refine xl_top hk hd0 ed ⟨vx, nm_r (e' := nI t) (by rw [ex, eft]) ⟨vx, nm_r (e' := nI (64 * t + i)) (by rw [ex, efn, e1]) ⟨v320, nm_r (e' := nI 20) (by rw [e2, eo]) ⟨v320, nm_r (e' := ca (64 * t + i)) (by rw [e2]) ⟨vt, vt, nm_r (e' := upd tu t (tu t + 1)) (by rw [et]) ⟨vx, vx, nm_r (e' := upd fn (6 * k + (d - 1)) (nI (i + 1))) (by rw [ex, efn, nI_1]) ?_⟩⟩⟩⟩⟩⟩
  refine br_f (by decide) (br_f (by decide) (br_f (by decide) (br_f (by decide) (br_f (by decide) (br_f (by decide) (br_f (by decide) (br_f (by decide) (br_f (by decide) (br_f (by decide) (br_t (by decide) (?_)))))))))))
  refine hr _ ?_
  obtain ⟨y0, y1, y2, y3, y4, y5, y6, y7, y8, y9, y10, y11, y12, y13, y14, y15, y16, y17, y18, y19, y20, y21, y22, y23, y24, y25, y26, y27, y28, y29, y30, y31, y32, y33, y34, y35⟩ := u1
  exact hp
theorem xe_21 {post : Int32 → SX → Prop} {k d t i h : Nat} (B : bs_R k d t i h 21 fd ft fn fh co) (u1 : SX) (hr : ∀ post' : SX → Prop, post' u1 → wpX_returnValue post' (q, tn, sl, pc, wp, he, co, ca, cb, fs, fc, ts, upd tu t (tu t + 1), ux, tl, ul, tm, gc, ga, gp, ss, st, sf, tc, tr, ow, ti, fd, ft, fk, upd fn (6 * k + (d - 1)) (nI (i + 1)), fh, fl, fv, rs, nt) (nI k)) (hp : post 0 u1) : wpX_execute post (q, tn, sl, pc, wp, he, co, ca, cb, fs, fc, ts, tu, ux, tl, ul, tm, gc, ga, gp, ss, st, sf, tc, tr, ow, ti, fd, ft, fk, fn, fh, fl, fv, rs, nt) (nI k) := by
  obtain ⟨hk, hd0, hd6, ed, ht, eft, efn, efh, hi, ho24, eo⟩ := B
  have ex : (nI (6 * k + (d - 1))).toNatClampNeg = 6 * k + (d - 1) := nI_clamp (by omega)
  have vx : vp_in (nI (6 * k + (d - 1))) 36 := vp_in_nI (by omega) (by decide)
  have et : (nI t).toNatClampNeg = t := nI_clamp (by omega)
  have vt : vp_in (nI t) 4 := vp_in_nI ht (by decide)
  have e1 : nI t * 64 + nI i = nI (64 * t + i) := ix_r 64 rfl t i
  have e2 : (nI (64 * t + i)).toNatClampNeg = 64 * t + i := nI_clamp (by omega)
  have v320 : vp_in (nI (64 * t + i)) 320 := vp_in_nI (by omega) (by decide)
  unfold wpX_execute; dsimp only
  refine xl_top hk hd0 ed ⟨vx, nm_r (e' := nI t) (by rw [ex, eft]) ⟨vx, nm_r (e' := nI (64 * t + i)) (by rw [ex, efn, e1]) ⟨v320, nm_r (e' := nI 21) (by rw [e2, eo]) ⟨v320, nm_r (e' := ca (64 * t + i)) (by rw [e2]) ⟨vt, vt, nm_r (e' := upd tu t (tu t + 1)) (by rw [et]) ⟨vx, vx, nm_r (e' := upd fn (6 * k + (d - 1)) (nI (i + 1))) (by rw [ex, efn, nI_1]) ?_⟩⟩⟩⟩⟩⟩
  refine br_f (by decide) (br_f (by decide) (br_f (by decide) (br_f (by decide) (br_f (by decide) (br_f (by decide) (br_f (by decide) (br_f (by decide) (br_f (by decide) (br_f (by decide) (br_f (by decide) (br_t (by decide) (?_))))))))))))
  refine hr _ ?_
  obtain ⟨y0, y1, y2, y3, y4, y5, y6, y7, y8, y9, y10, y11, y12, y13, y14, y15, y16, y17, y18, y19, y20, y21, y22, y23, y24, y25, y26, y27, y28, y29, y30, y31, y32, y33, y34, y35⟩ := u1
  exact hp
theorem xe_22 {post : Int32 → SX → Prop} {k d t i h : Nat} (B : bs_R k d t i h 22 fd ft fn fh co) (h0 : 0 < h) (h8 : h ≤ 8) (hp : post (10 + (fv (8 * (6 * k + (d - 1)) + (h - 1)) &&& 15)) (q, tn, sl, pc, wp, he, co, ca, cb, fs, fc, ts, upd tu t (tu t + 1), ux, tl, ul, tm, gc, ga, gp, ss, st, sf, tc, tr, ow, ti, fd, ft, fk, upd fn (6 * k + (d - 1)) (nI (i + 1)), upd fh (6 * k + (d - 1)) (nI (h - 1)), fl, fv, rs, nt)) : wpX_execute post (q, tn, sl, pc, wp, he, co, ca, cb, fs, fc, ts, tu, ux, tl, ul, tm, gc, ga, gp, ss, st, sf, tc, tr, ow, ti, fd, ft, fk, fn, fh, fl, fv, rs, nt) (nI k) := by
  obtain ⟨hk, hd0, hd6, ed, ht, eft, efn, efh, hi, ho24, eo⟩ := B
  have ex : (nI (6 * k + (d - 1))).toNatClampNeg = 6 * k + (d - 1) := nI_clamp (by omega)
  have vx : vp_in (nI (6 * k + (d - 1))) 36 := vp_in_nI (by omega) (by decide)
  have et : (nI t).toNatClampNeg = t := nI_clamp (by omega)
  have vt : vp_in (nI t) 4 := vp_in_nI ht (by decide)
  have e1 : nI t * 64 + nI i = nI (64 * t + i) := ix_r 64 rfl t i
  have e2 : (nI (64 * t + i)).toNatClampNeg = 64 * t + i := nI_clamp (by omega)
  have v320 : vp_in (nI (64 * t + i)) 320 := vp_in_nI (by omega) (by decide)
  unfold wpX_execute; dsimp only
  refine xl_top hk hd0 ed ⟨vx, nm_r (e' := nI t) (by rw [ex, eft]) ⟨vx, nm_r (e' := nI (64 * t + i)) (by rw [ex, efn, e1]) ⟨v320, nm_r (e' := nI 22) (by rw [e2, eo]) ⟨v320, nm_r (e' := ca (64 * t + i)) (by rw [e2]) ⟨vt, vt, nm_r (e' := upd tu t (tu t + 1)) (by rw [et]) ⟨vx, vx, nm_r (e' := upd fn (6 * k + (d - 1)) (nI (i + 1))) (by rw [ex, efn, nI_1]) ?_⟩⟩⟩⟩⟩⟩
  refine br_f (by decide) (br_f (by decide) (br_f (by decide) (br_f (by decide) (br_f (by decide) (br_f (by decide) (br_f (by decide) (br_f (by decide) (br_f (by decide) (br_f (by decide) (br_f (by decide) (br_f (by decide) (br_t (by decide) (?_)))))))))))))
  exact xl_pop (h := h - 1) (by omega) (by rw [efh]; exact congrArg nI (by omega)) (by omega) hp
theorem xe_23 {post : Int32 → SX → Prop} {k d t i h : Nat} (B : bs_R k d t i h 23 fd ft fn fh co) (hp : post 0 (q, tn, 0, pc, wp, he, co, ca, cb, fs, fc, ts, upd tu t (tu t + 1), ux, tl, ul, tm, gc, ga, gp, ss, st, sf, tc, tr, ow, ti, fd, ft, fk, upd fn (6 * k + (d - 1)) (nI (i + 1)), fh, fl, fv, rs, nt)) : wpX_execute post (q, tn, sl, pc, wp, he, co, ca, cb, fs, fc, ts, tu, ux, tl, ul, tm, gc, ga, gp, ss, st, sf, tc, tr, ow, ti, fd, ft, fk, fn, fh, fl, fv, rs, nt) (nI k) := by
  obtain ⟨hk, hd0, hd6, ed, ht, eft, efn, efh, hi, ho24, eo⟩ := B
  have ex : (nI (6 * k + (d - 1))).toNatClampNeg = 6 * k + (d - 1) := nI_clamp (by omega)
  have vx : vp_in (nI (6 * k + (d - 1))) 36 := vp_in_nI (by omega) (by decide)
  have et : (nI t).toNatClampNeg = t := nI_clamp (by omega)
  have vt : vp_in (nI t) 4 := vp_in_nI ht (by decide)
  have e1 : nI t * 64 + nI i = nI (64 * t + i) := ix_r 64 rfl t i
  have e2 : (nI (64 * t + i)).toNatClampNeg = 64 * t + i := nI_clamp (by omega)
  have v320 : vp_in (nI (64 * t + i)) 320 := vp_in_nI (by omega) (by decide)
  unfold wpX_execute; dsimp only
  refine xl_top hk hd0 ed ⟨vx, nm_r (e' := nI t) (by rw [ex, eft]) ⟨vx, nm_r (e' := nI (64 * t + i)) (by rw [ex, efn, e1]) ⟨v320, nm_r (e' := nI 23) (by rw [e2, eo]) ⟨v320, nm_r (e' := ca (64 * t + i)) (by rw [e2]) ⟨vt, vt, nm_r (e' := upd tu t (tu t + 1)) (by rw [et]) ⟨vx, vx, nm_r (e' := upd fn (6 * k + (d - 1)) (nI (i + 1))) (by rw [ex, efn, nI_1]) ?_⟩⟩⟩⟩⟩⟩
  refine br_f (by decide) (br_f (by decide) (br_f (by decide) (br_f (by decide) (br_f (by decide) (br_f (by decide) (br_f (by decide) (br_f (by decide) (br_f (by decide) (br_f (by decide) (br_f (by decide) (br_f (by decide) (br_f (by decide) (br_t (by decide) (?_))))))))))))))
  exact hp
theorem xl_dup {post : SX → Prop} {x h : Nat} (hx : x < 36) (hh : fh x = nI (h + 1)) (h8 : h + 1 < 8) (hp : post (q, tn, sl, pc, wp, he, co, ca, cb, fs, fc, ts, tu, ux, tl, ul, tm, gc, ga, gp, ss, st, sf, tc, tr, ow, ti, fd, ft, fk, fn, upd (upd (upd fh x (nI h)) x (nI (h + 1))) x (nI (h + 1 + 1)), fl, upd (upd fv (8 * x + h) (fv (8 * x + h))) (8 * x + (h + 1)) (fv (8 * x + h)), rs, nt)) : wpX_duplicateTop post (q, tn, sl, pc, wp, he, co, ca, cb, fs, fc, ts, tu, ux, tl, ul, tm, gc, ga, gp, ss, st, sf, tc, tr, ow, ti, fd, ft, fk, fn, fh, fl, fv, rs, nt) (nI x) := by
  unfold wpX_duplicateTop; dsimp only
  refine xl_pop (h := h) hx hh (by omega) ?_
  refine xl_push (h := h) hx pk_us (by omega) ?_
  exact xl_push (h := h + 1) hx pk_us (by omega) hp
theorem xl_swap {post : SX → Prop} {x h : Nat} (hx : x < 36) (hh : fh x = nI (h + 1 + 1)) (h8 : h + 1 < 8) (hp : post (q, tn, sl, pc, wp, he, co, ca, cb, fs, fc, ts, tu, ux, tl, ul, tm, gc, ga, gp, ss, st, sf, tc, tr, ow, ti, fd, ft, fk, fn, upd (upd (upd (upd fh x (nI (h + 1))) x (nI h)) x (nI (h + 1))) x (nI (h + 1 + 1)), fl, upd (upd fv (8 * x + h) (fv (8 * x + (h + 1)))) (8 * x + (h + 1)) (fv (8 * x + h)), rs, nt)) : wpX_swapTop post (q, tn, sl, pc, wp, he, co, ca, cb, fs, fc, ts, tu, ux, tl, ul, tm, gc, ga, gp, ss, st, sf, tc, tr, ow, ti, fd, ft, fk, fn, fh, fl, fv, rs, nt) (nI x) := by
  unfold wpX_swapTop; dsimp only
  refine xl_pop (h := h + 1) hx hh (by omega) ?_
  refine xl_pop (h := h) hx pk_us (by omega) ?_
  refine xl_push (h := h) hx pk_us (by omega) ?_
  exact xl_push (h := h + 1) hx pk_us (by omega) hp
def cm_v (o : Nat) (l r : Int32) : Int32 := if o = 5 then l + r else if o = 6 then l - r else if o = 7 then l * r else if o = 8 then (if r ≤ l then 0 else 1) else (if l = r then 1 else 0)
theorem xl_cm5 {post : SX → Prop} {x h : Nat} (hx : x < 36) (hh : fh x = nI (h + 1 + 1)) (h8 : h + 1 < 8) (hp : post (q, tn, sl, pc, wp, he, co, ca, cb, fs, fc, ts, tu, ux, tl, ul, tm, gc, ga, gp, ss, st, sf, tc, tr, ow, ti, fd, ft, fk, fn, upd (upd (upd fh x (nI (h + 1))) x (nI h)) x (nI (h + 1)), fl, upd fv (8 * x + h) (cm_v 5 (fv (8 * x + h)) (fv (8 * x + (h + 1)))), rs, nt)) : wpX_combineTwo post (q, tn, sl, pc, wp, he, co, ca, cb, fs, fc, ts, tu, ux, tl, ul, tm, gc, ga, gp, ss, st, sf, tc, tr, ow, ti, fd, ft, fk, fn, fh, fl, fv, rs, nt) (nI x) (nI 5) := by
  unfold wpX_combineTwo; dsimp only
  refine xl_pop (h := h + 1) hx hh (by omega) ?_
  refine xl_pop (h := h) hx pk_us (by omega) ?_
  refine br_f (by decide) (br_f (by decide) (br_t (by decide) (nm_e ?_)))
  unfold wX_combineTwo_104
  exact xl_push (h := h) hx pk_us (by omega) hp
theorem xl_cm6 {post : SX → Prop} {x h : Nat} (hx : x < 36) (hh : fh x = nI (h + 1 + 1)) (h8 : h + 1 < 8) (hp : post (q, tn, sl, pc, wp, he, co, ca, cb, fs, fc, ts, tu, ux, tl, ul, tm, gc, ga, gp, ss, st, sf, tc, tr, ow, ti, fd, ft, fk, fn, upd (upd (upd fh x (nI (h + 1))) x (nI h)) x (nI (h + 1)), fl, upd fv (8 * x + h) (cm_v 6 (fv (8 * x + h)) (fv (8 * x + (h + 1)))), rs, nt)) : wpX_combineTwo post (q, tn, sl, pc, wp, he, co, ca, cb, fs, fc, ts, tu, ux, tl, ul, tm, gc, ga, gp, ss, st, sf, tc, tr, ow, ti, fd, ft, fk, fn, fh, fl, fv, rs, nt) (nI x) (nI 6) := by
  unfold wpX_combineTwo; dsimp only
  refine xl_pop (h := h + 1) hx hh (by omega) ?_
  refine xl_pop (h := h) hx pk_us (by omega) ?_
  refine br_f (by decide) (br_f (by decide) (br_f (by decide) (br_t (by decide) (nm_e ?_))))
  unfold wX_combineTwo_104
  exact xl_push (h := h) hx pk_us (by omega) hp
theorem xl_cm7 {post : SX → Prop} {x h : Nat} (hx : x < 36) (hh : fh x = nI (h + 1 + 1)) (h8 : h + 1 < 8) (hp : post (q, tn, sl, pc, wp, he, co, ca, cb, fs, fc, ts, tu, ux, tl, ul, tm, gc, ga, gp, ss, st, sf, tc, tr, ow, ti, fd, ft, fk, fn, upd (upd (upd fh x (nI (h + 1))) x (nI h)) x (nI (h + 1)), fl, upd fv (8 * x + h) (cm_v 7 (fv (8 * x + h)) (fv (8 * x + (h + 1)))), rs, nt)) : wpX_combineTwo post (q, tn, sl, pc, wp, he, co, ca, cb, fs, fc, ts, tu, ux, tl, ul, tm, gc, ga, gp, ss, st, sf, tc, tr, ow, ti, fd, ft, fk, fn, fh, fl, fv, rs, nt) (nI x) (nI 7) := by
  unfold wpX_combineTwo; dsimp only
  refine xl_pop (h := h + 1) hx hh (by omega) ?_
  refine xl_pop (h := h) hx pk_us (by omega) ?_
  refine br_f (by decide) (br_f (by decide) (br_f (by decide) (br_f (by decide) (br_t (by decide) (nm_e ?_)))))
  unfold wX_combineTwo_104
  exact xl_push (h := h) hx pk_us (by omega) hp
theorem xl_cm8 {post : SX → Prop} {x h : Nat} (hx : x < 36) (hh : fh x = nI (h + 1 + 1)) (h8 : h + 1 < 8) (hp : post (q, tn, sl, pc, wp, he, co, ca, cb, fs, fc, ts, tu, ux, tl, ul, tm, gc, ga, gp, ss, st, sf, tc, tr, ow, ti, fd, ft, fk, fn, upd (upd (upd fh x (nI (h + 1))) x (nI h)) x (nI (h + 1)), fl, upd fv (8 * x + h) (cm_v 8 (fv (8 * x + h)) (fv (8 * x + (h + 1)))), rs, nt)) : wpX_combineTwo post (q, tn, sl, pc, wp, he, co, ca, cb, fs, fc, ts, tu, ux, tl, ul, tm, gc, ga, gp, ss, st, sf, tc, tr, ow, ti, fd, ft, fk, fn, fh, fl, fv, rs, nt) (nI x) (nI 8) := by
  unfold wpX_combineTwo; dsimp only
  refine xl_pop (h := h + 1) hx hh (by omega) ?_
  refine xl_pop (h := h) hx pk_us (by omega) ?_
  by_cases c : fv (8 * x + (h + 1)) ≤ fv (8 * x + h)
  · have e : cm_v 8 (fv (8 * x + h)) (fv (8 * x + (h + 1))) = 0 := by simp only [cm_v]; simp [c]
    rw [e] at hp
    refine br_f (by decide) (br_f (by decide) (br_f (by decide) (br_f (by decide) (br_f (by decide) (br_t (by decide) (br_t c ?_))))))
    unfold wX_combineTwo_86 wX_combineTwo_104
    exact xl_push (h := h) hx pk_us (by omega) hp
  · have e : cm_v 8 (fv (8 * x + h)) (fv (8 * x + (h + 1))) = 1 := by simp only [cm_v]; simp [c]
    rw [e] at hp
    refine br_f (by decide) (br_f (by decide) (br_f (by decide) (br_f (by decide) (br_f (by decide) (br_t (by decide) (br_f c ?_))))))
    unfold wX_combineTwo_86 wX_combineTwo_104
    exact xl_push (h := h) hx pk_us (by omega) hp
theorem xl_cm9 {post : SX → Prop} {x h : Nat} (hx : x < 36) (hh : fh x = nI (h + 1 + 1)) (h8 : h + 1 < 8) (hp : post (q, tn, sl, pc, wp, he, co, ca, cb, fs, fc, ts, tu, ux, tl, ul, tm, gc, ga, gp, ss, st, sf, tc, tr, ow, ti, fd, ft, fk, fn, upd (upd (upd fh x (nI (h + 1))) x (nI h)) x (nI (h + 1)), fl, upd fv (8 * x + h) (cm_v 9 (fv (8 * x + h)) (fv (8 * x + (h + 1)))), rs, nt)) : wpX_combineTwo post (q, tn, sl, pc, wp, he, co, ca, cb, fs, fc, ts, tu, ux, tl, ul, tm, gc, ga, gp, ss, st, sf, tc, tr, ow, ti, fd, ft, fk, fn, fh, fl, fv, rs, nt) (nI x) (nI 9) := by
  unfold wpX_combineTwo; dsimp only
  refine xl_pop (h := h + 1) hx hh (by omega) ?_
  refine xl_pop (h := h) hx pk_us (by omega) ?_
  by_cases c : fv (8 * x + h) = fv (8 * x + (h + 1))
  · have e : cm_v 9 (fv (8 * x + h)) (fv (8 * x + (h + 1))) = 1 := by simp only [cm_v]; simp [c]
    rw [e] at hp
    refine br_f (by decide) (br_t (by decide) (br_t c ?_))
    unfold wX_combineTwo_102 wX_combineTwo_104
    exact xl_push (h := h) hx pk_us (by omega) hp
  · have e : cm_v 9 (fv (8 * x + h)) (fv (8 * x + (h + 1))) = 0 := by simp only [cm_v]; simp [c]
    rw [e] at hp
    refine br_f (by decide) (br_t (by decide) (br_f c ?_))
    unfold wX_combineTwo_102 wX_combineTwo_104
    exact xl_push (h := h) hx pk_us (by omega) hp
theorem xc_0 {post : SX → Prop} {x : Nat} {a : Int32} (hx : x < 36)  (hp : post (q, tn, sl, pc, wp, he, co, ca, cb, fs, fc, ts, tu, ux, tl, ul, tm, gc, ga, gp, ss, st, sf, tc, tr, ow, ti, fd, ft, fk, fn, fh, fl, fv, rs, nt)) : wpX_computeValues post (q, tn, sl, pc, wp, he, co, ca, cb, fs, fc, ts, tu, ux, tl, ul, tm, gc, ga, gp, ss, st, sf, tc, tr, ow, ti, fd, ft, fk, fn, fh, fl, fv, rs, nt) (nI x) (nI 0) a := by
  exact br_t (by decide) hp
theorem yc_0 {post : SY → Prop} {x : Nat} {a : Int32} (hx : x < 36)  (hp : post (q, wp, tn, sl, yd, nd, co, ca, cb, le, he, kl, tu, uy, tl, ul, tm, gc, ga, gp, ss, st, sf, fd, tc, tr, ow, ti, ft, fn, fh, fp, fz, fl, fv, rs, au)) : wpY_calculate post (q, wp, tn, sl, yd, nd, co, ca, cb, le, he, kl, tu, uy, tl, ul, tm, gc, ga, gp, ss, st, sf, fd, tc, tr, ow, ti, ft, fn, fh, fp, fz, fl, fv, rs, au) (nI x) (nI 0) a := by
  unfold wpY_calculate; dsimp only
  refine yl_pops (o := 0) (by decide) ?_
  rw [po_0]
  refine br_t (by decide) (br_t (by decide) ?_)
  exact br_f (by decide) (br_f (by decide) (br_t (by decide) (hp)))
theorem xc_1 {post : SX → Prop} {x h : Nat} {a : Int32} (hx : x < 36) (hh : fh x = nI h) (h8 : h < 8) (hp : post (q, tn, sl, pc, wp, he, co, ca, cb, fs, fc, ts, tu, ux, tl, ul, tm, gc, ga, gp, ss, st, sf, tc, tr, ow, ti, fd, ft, fk, fn, upd fh x (nI (h + 1)), fl, upd fv (8 * x + h) a, rs, nt)) : wpX_computeValues post (q, tn, sl, pc, wp, he, co, ca, cb, fs, fc, ts, tu, ux, tl, ul, tm, gc, ga, gp, ss, st, sf, tc, tr, ow, ti, fd, ft, fk, fn, fh, fl, fv, rs, nt) (nI x) (nI 1) a := by
  exact br_f (by decide) (br_f (by decide) (br_t (by decide) (xl_push (h := h) hx hh h8 hp)))
theorem yc_1 {post : SY → Prop} {x h : Nat} {a : Int32} (hx : x < 36) (hh : fh x = nI h) (h8 : h < 8) (hp : post (q, wp, tn, sl, yd, nd, co, ca, cb, le, he, kl, tu, uy, tl, ul, tm, gc, ga, gp, ss, st, sf, fd, tc, tr, ow, ti, ft, fn, upd fh x (nI (h + 1)), fp, fz, fl, upd fv (8 * x + h) a, rs, au)) : wpY_calculate post (q, wp, tn, sl, yd, nd, co, ca, cb, le, he, kl, tu, uy, tl, ul, tm, gc, ga, gp, ss, st, sf, fd, tc, tr, ow, ti, ft, fn, fh, fp, fz, fl, fv, rs, au) (nI x) (nI 1) a := by
  unfold wpY_calculate; dsimp only
  refine yl_pops (o := 1) (by decide) ?_
  rw [po_1]
  refine br_t (by decide) (br_t (by decide) ?_)
  exact br_f (by decide) (br_f (by decide) (br_f (by decide) (br_t (by decide) (yl_push (h := h) hx hh h8 hp))))
theorem xc_2 {post : SX → Prop} {x h : Nat} {a : Int32} (hx : x < 36) (hh : fh x = nI (h + 1)) (h8 : h + 1 < 8) (hp : post (q, tn, sl, pc, wp, he, co, ca, cb, fs, fc, ts, tu, ux, tl, ul, tm, gc, ga, gp, ss, st, sf, tc, tr, ow, ti, fd, ft, fk, fn, upd (upd (upd fh x (nI h)) x (nI (h + 1))) x (nI (h + 1 + 1)), fl, upd (upd fv (8 * x + h) (fv (8 * x + h))) (8 * x + (h + 1)) (fv (8 * x + h)), rs, nt)) : wpX_computeValues post (q, tn, sl, pc, wp, he, co, ca, cb, fs, fc, ts, tu, ux, tl, ul, tm, gc, ga, gp, ss, st, sf, tc, tr, ow, ti, fd, ft, fk, fn, fh, fl, fv, rs, nt) (nI x) (nI 2) a := by
  exact br_f (by decide) (br_f (by decide) (br_f (by decide) (br_t (by decide) (xl_dup hx hh h8 hp))))
theorem yc_2 {post : SY → Prop} {x h : Nat} {a : Int32} (hx : x < 36) (hh : fh x = nI (h + 1)) (h8 : h + 1 < 8) (hp : post (q, wp, tn, sl, yd, nd, co, ca, cb, le, he, kl, tu, uy, tl, ul, tm, gc, ga, gp, ss, st, sf, fd, tc, tr, ow, ti, ft, fn, upd (upd (upd fh x (nI h)) x (nI (h + 1))) x (nI (h + 1 + 1)), fp, fz, fl, upd (upd fv (8 * x + h) (fv (8 * x + h))) (8 * x + (h + 1)) (fv (8 * x + h)), rs, au)) : wpY_calculate post (q, wp, tn, sl, yd, nd, co, ca, cb, le, he, kl, tu, uy, tl, ul, tm, gc, ga, gp, ss, st, sf, fd, tc, tr, ow, ti, ft, fn, fh, fp, fz, fl, fv, rs, au) (nI x) (nI 2) a := by
  unfold wpY_calculate; dsimp only
  refine yl_pops (o := 2) (by decide) ?_
  rw [po_2]
  refine br_f (by decide) (yl_pop (h := h) hx hh (by omega) (br_t (by decide) ?_))
  refine br_f (by decide) (br_f (by decide) (br_f (by decide) (br_f (by decide) (br_t (by decide) (yl_push (h := h) hx pk_us (by omega) ?_)))))
  exact yl_push (h := h + 1) hx pk_us (by omega) hp
theorem xc_3 {post : SX → Prop} {x h : Nat} {a : Int32} (hx : x < 36) (hh : fh x = nI (h + 1)) (h8 : h < 8) (hp : post (q, tn, sl, pc, wp, he, co, ca, cb, fs, fc, ts, tu, ux, tl, ul, tm, gc, ga, gp, ss, st, sf, tc, tr, ow, ti, fd, ft, fk, fn, upd fh x (nI h), fl, fv, rs, nt)) : wpX_computeValues post (q, tn, sl, pc, wp, he, co, ca, cb, fs, fc, ts, tu, ux, tl, ul, tm, gc, ga, gp, ss, st, sf, tc, tr, ow, ti, fd, ft, fk, fn, fh, fl, fv, rs, nt) (nI x) (nI 3) a := by
  exact br_f (by decide) (br_f (by decide) (br_f (by decide) (br_f (by decide) (br_t (by decide) (xl_pop (h := h) hx hh h8 hp)))))
theorem yc_3 {post : SY → Prop} {x h : Nat} {a : Int32} (hx : x < 36) (hh : fh x = nI (h + 1)) (h8 : h < 8) (hp : post (q, wp, tn, sl, yd, nd, co, ca, cb, le, he, kl, tu, uy, tl, ul, tm, gc, ga, gp, ss, st, sf, fd, tc, tr, ow, ti, ft, fn, upd fh x (nI h), fp, fz, fl, fv, rs, au)) : wpY_calculate post (q, wp, tn, sl, yd, nd, co, ca, cb, le, he, kl, tu, uy, tl, ul, tm, gc, ga, gp, ss, st, sf, fd, tc, tr, ow, ti, ft, fn, fh, fp, fz, fl, fv, rs, au) (nI x) (nI 3) a := by
  unfold wpY_calculate; dsimp only
  refine yl_pops (o := 3) (by decide) ?_
  rw [po_3]
  refine br_f (by decide) (yl_pop (h := h) hx hh (by omega) (br_t (by decide) ?_))
  exact br_f (by decide) (br_f (by decide) (br_f (by decide) (br_f (by decide) (br_f (by decide) (br_t (by decide) (hp))))))
theorem xc_4 {post : SX → Prop} {x h : Nat} {a : Int32} (hx : x < 36) (hh : fh x = nI (h + 1 + 1)) (h8 : h + 1 < 8) (hp : post (q, tn, sl, pc, wp, he, co, ca, cb, fs, fc, ts, tu, ux, tl, ul, tm, gc, ga, gp, ss, st, sf, tc, tr, ow, ti, fd, ft, fk, fn, upd (upd (upd (upd fh x (nI (h + 1))) x (nI h)) x (nI (h + 1))) x (nI (h + 1 + 1)), fl, upd (upd fv (8 * x + h) (fv (8 * x + (h + 1)))) (8 * x + (h + 1)) (fv (8 * x + h)), rs, nt)) : wpX_computeValues post (q, tn, sl, pc, wp, he, co, ca, cb, fs, fc, ts, tu, ux, tl, ul, tm, gc, ga, gp, ss, st, sf, tc, tr, ow, ti, fd, ft, fk, fn, fh, fl, fv, rs, nt) (nI x) (nI 4) a := by
  exact br_f (by decide) (br_f (by decide) (br_f (by decide) (br_f (by decide) (br_f (by decide) (br_t (by decide) (xl_swap hx hh h8 hp))))))
theorem yc_4 {post : SY → Prop} {x h : Nat} {a : Int32} (hx : x < 36) (hh : fh x = nI (h + 1 + 1)) (h8 : h + 1 < 8) (hp : post (q, wp, tn, sl, yd, nd, co, ca, cb, le, he, kl, tu, uy, tl, ul, tm, gc, ga, gp, ss, st, sf, fd, tc, tr, ow, ti, ft, fn, upd (upd (upd (upd fh x (nI (h + 1))) x (nI h)) x (nI (h + 1))) x (nI (h + 1 + 1)), fp, fz, fl, upd (upd fv (8 * x + h) (fv (8 * x + (h + 1)))) (8 * x + (h + 1)) (fv (8 * x + h)), rs, au)) : wpY_calculate post (q, wp, tn, sl, yd, nd, co, ca, cb, le, he, kl, tu, uy, tl, ul, tm, gc, ga, gp, ss, st, sf, fd, tc, tr, ow, ti, ft, fn, fh, fp, fz, fl, fv, rs, au) (nI x) (nI 4) a := by
  unfold wpY_calculate; dsimp only
  refine yl_pops (o := 4) (by decide) ?_
  rw [po_4]
  refine br_f (by decide) (yl_pop (h := h + 1) hx hh (by omega) (br_f (by decide) (yl_pop (h := h) hx pk_us (by omega) ?_)))
  refine br_f (by decide) (br_f (by decide) (br_f (by decide) (br_f (by decide) (br_f (by decide) (br_f (by decide) (br_t (by decide) (yl_push (h := h) hx pk_us (by omega) ?_)))))))
  exact yl_push (h := h + 1) hx pk_us (by omega) hp
theorem xc_5 {post : SX → Prop} {x h : Nat} {a : Int32} (hx : x < 36) (hh : fh x = nI (h + 1 + 1)) (h8 : h + 1 < 8) (hp : post (q, tn, sl, pc, wp, he, co, ca, cb, fs, fc, ts, tu, ux, tl, ul, tm, gc, ga, gp, ss, st, sf, tc, tr, ow, ti, fd, ft, fk, fn, upd (upd (upd fh x (nI (h + 1))) x (nI h)) x (nI (h + 1)), fl, upd fv (8 * x + h) (cm_v 5 (fv (8 * x + h)) (fv (8 * x + (h + 1)))), rs, nt)) : wpX_computeValues post (q, tn, sl, pc, wp, he, co, ca, cb, fs, fc, ts, tu, ux, tl, ul, tm, gc, ga, gp, ss, st, sf, tc, tr, ow, ti, fd, ft, fk, fn, fh, fl, fv, rs, nt) (nI x) (nI 5) a := by
  refine br_f (by decide) (br_f (by decide) (br_f (by decide) (br_f (by decide) (br_f (by decide) (br_f (by decide) (br_t (by decide) (?_)))))))
  unfold wX_computeValues_130
  exact xl_cm5 hx hh h8 hp
theorem yc_5 {post : SY → Prop} {x h : Nat} {a : Int32} (hx : x < 36) (hh : fh x = nI (h + 1 + 1)) (h8 : h + 1 < 8) (hp : post (q, wp, tn, sl, yd, nd, co, ca, cb, le, he, kl, tu, uy, tl, ul, tm, gc, ga, gp, ss, st, sf, fd, tc, tr, ow, ti, ft, fn, upd (upd (upd fh x (nI (h + 1))) x (nI h)) x (nI (h + 1)), fp, fz, fl, upd fv (8 * x + h) (cm_v 5 (fv (8 * x + h)) (fv (8 * x + (h + 1)))), rs, au)) : wpY_calculate post (q, wp, tn, sl, yd, nd, co, ca, cb, le, he, kl, tu, uy, tl, ul, tm, gc, ga, gp, ss, st, sf, fd, tc, tr, ow, ti, ft, fn, fh, fp, fz, fl, fv, rs, au) (nI x) (nI 5) a := by
  unfold wpY_calculate; dsimp only
  refine yl_pops (o := 5) (by decide) ?_
  rw [po_5]
  refine br_f (by decide) (yl_pop (h := h + 1) hx hh (by omega) (br_f (by decide) (yl_pop (h := h) hx pk_us (by omega) ?_)))
  exact br_f (by decide) (br_f (by decide) (br_f (by decide) (br_f (by decide) (br_f (by decide) (br_f (by decide) (br_f (by decide) (br_t (by decide) (yl_push (h := h) hx pk_us (by omega) hp))))))))
theorem xc_6 {post : SX → Prop} {x h : Nat} {a : Int32} (hx : x < 36) (hh : fh x = nI (h + 1 + 1)) (h8 : h + 1 < 8) (hp : post (q, tn, sl, pc, wp, he, co, ca, cb, fs, fc, ts, tu, ux, tl, ul, tm, gc, ga, gp, ss, st, sf, tc, tr, ow, ti, fd, ft, fk, fn, upd (upd (upd fh x (nI (h + 1))) x (nI h)) x (nI (h + 1)), fl, upd fv (8 * x + h) (cm_v 6 (fv (8 * x + h)) (fv (8 * x + (h + 1)))), rs, nt)) : wpX_computeValues post (q, tn, sl, pc, wp, he, co, ca, cb, fs, fc, ts, tu, ux, tl, ul, tm, gc, ga, gp, ss, st, sf, tc, tr, ow, ti, fd, ft, fk, fn, fh, fl, fv, rs, nt) (nI x) (nI 6) a := by
  refine br_f (by decide) (br_f (by decide) (br_f (by decide) (br_f (by decide) (br_f (by decide) (br_f (by decide) (br_f (by decide) (br_t (by decide) (?_))))))))
  unfold wX_computeValues_130
  exact xl_cm6 hx hh h8 hp
theorem yc_6 {post : SY → Prop} {x h : Nat} {a : Int32} (hx : x < 36) (hh : fh x = nI (h + 1 + 1)) (h8 : h + 1 < 8) (hp : post (q, wp, tn, sl, yd, nd, co, ca, cb, le, he, kl, tu, uy, tl, ul, tm, gc, ga, gp, ss, st, sf, fd, tc, tr, ow, ti, ft, fn, upd (upd (upd fh x (nI (h + 1))) x (nI h)) x (nI (h + 1)), fp, fz, fl, upd fv (8 * x + h) (cm_v 6 (fv (8 * x + h)) (fv (8 * x + (h + 1)))), rs, au)) : wpY_calculate post (q, wp, tn, sl, yd, nd, co, ca, cb, le, he, kl, tu, uy, tl, ul, tm, gc, ga, gp, ss, st, sf, fd, tc, tr, ow, ti, ft, fn, fh, fp, fz, fl, fv, rs, au) (nI x) (nI 6) a := by
  unfold wpY_calculate; dsimp only
  refine yl_pops (o := 6) (by decide) ?_
  rw [po_6]
  refine br_f (by decide) (yl_pop (h := h + 1) hx hh (by omega) (br_f (by decide) (yl_pop (h := h) hx pk_us (by omega) ?_)))
  exact br_f (by decide) (br_f (by decide) (br_f (by decide) (br_f (by decide) (br_f (by decide) (br_f (by decide) (br_f (by decide) (br_f (by decide) (br_t (by decide) (yl_push (h := h) hx pk_us (by omega) hp)))))))))
theorem xc_7 {post : SX → Prop} {x h : Nat} {a : Int32} (hx : x < 36) (hh : fh x = nI (h + 1 + 1)) (h8 : h + 1 < 8) (hp : post (q, tn, sl, pc, wp, he, co, ca, cb, fs, fc, ts, tu, ux, tl, ul, tm, gc, ga, gp, ss, st, sf, tc, tr, ow, ti, fd, ft, fk, fn, upd (upd (upd fh x (nI (h + 1))) x (nI h)) x (nI (h + 1)), fl, upd fv (8 * x + h) (cm_v 7 (fv (8 * x + h)) (fv (8 * x + (h + 1)))), rs, nt)) : wpX_computeValues post (q, tn, sl, pc, wp, he, co, ca, cb, fs, fc, ts, tu, ux, tl, ul, tm, gc, ga, gp, ss, st, sf, tc, tr, ow, ti, fd, ft, fk, fn, fh, fl, fv, rs, nt) (nI x) (nI 7) a := by
  refine br_f (by decide) (br_f (by decide) (br_f (by decide) (br_f (by decide) (br_f (by decide) (br_f (by decide) (br_f (by decide) (br_f (by decide) (br_t (by decide) (?_)))))))))
  unfold wX_computeValues_130
  exact xl_cm7 hx hh h8 hp
theorem yc_7 {post : SY → Prop} {x h : Nat} {a : Int32} (hx : x < 36) (hh : fh x = nI (h + 1 + 1)) (h8 : h + 1 < 8) (hp : post (q, wp, tn, sl, yd, nd, co, ca, cb, le, he, kl, tu, uy, tl, ul, tm, gc, ga, gp, ss, st, sf, fd, tc, tr, ow, ti, ft, fn, upd (upd (upd fh x (nI (h + 1))) x (nI h)) x (nI (h + 1)), fp, fz, fl, upd fv (8 * x + h) (cm_v 7 (fv (8 * x + h)) (fv (8 * x + (h + 1)))), rs, au)) : wpY_calculate post (q, wp, tn, sl, yd, nd, co, ca, cb, le, he, kl, tu, uy, tl, ul, tm, gc, ga, gp, ss, st, sf, fd, tc, tr, ow, ti, ft, fn, fh, fp, fz, fl, fv, rs, au) (nI x) (nI 7) a := by
  unfold wpY_calculate; dsimp only
  refine yl_pops (o := 7) (by decide) ?_
  rw [po_7]
  refine br_f (by decide) (yl_pop (h := h + 1) hx hh (by omega) (br_f (by decide) (yl_pop (h := h) hx pk_us (by omega) ?_)))
  exact br_f (by decide) (br_f (by decide) (br_f (by decide) (br_f (by decide) (br_f (by decide) (br_f (by decide) (br_f (by decide) (br_f (by decide) (br_f (by decide) (br_t (by decide) (yl_push (h := h) hx pk_us (by omega) hp))))))))))
theorem xc_8 {post : SX → Prop} {x h : Nat} {a : Int32} (hx : x < 36) (hh : fh x = nI (h + 1 + 1)) (h8 : h + 1 < 8) (hp : post (q, tn, sl, pc, wp, he, co, ca, cb, fs, fc, ts, tu, ux, tl, ul, tm, gc, ga, gp, ss, st, sf, tc, tr, ow, ti, fd, ft, fk, fn, upd (upd (upd fh x (nI (h + 1))) x (nI h)) x (nI (h + 1)), fl, upd fv (8 * x + h) (cm_v 8 (fv (8 * x + h)) (fv (8 * x + (h + 1)))), rs, nt)) : wpX_computeValues post (q, tn, sl, pc, wp, he, co, ca, cb, fs, fc, ts, tu, ux, tl, ul, tm, gc, ga, gp, ss, st, sf, tc, tr, ow, ti, fd, ft, fk, fn, fh, fl, fv, rs, nt) (nI x) (nI 8) a := by
  refine br_f (by decide) (br_f (by decide) (br_f (by decide) (br_f (by decide) (br_f (by decide) (br_f (by decide) (br_f (by decide) (br_f (by decide) (br_f (by decide) (br_t (by decide) (?_))))))))))
  unfold wX_computeValues_130
  exact xl_cm8 hx hh h8 hp
theorem yc_8 {post : SY → Prop} {x h : Nat} {a : Int32} (hx : x < 36) (hh : fh x = nI (h + 1 + 1)) (h8 : h + 1 < 8) (hp : post (q, wp, tn, sl, yd, nd, co, ca, cb, le, he, kl, tu, uy, tl, ul, tm, gc, ga, gp, ss, st, sf, fd, tc, tr, ow, ti, ft, fn, upd (upd (upd fh x (nI (h + 1))) x (nI h)) x (nI (h + 1)), fp, fz, fl, upd fv (8 * x + h) (cm_v 8 (fv (8 * x + h)) (fv (8 * x + (h + 1)))), rs, au)) : wpY_calculate post (q, wp, tn, sl, yd, nd, co, ca, cb, le, he, kl, tu, uy, tl, ul, tm, gc, ga, gp, ss, st, sf, fd, tc, tr, ow, ti, ft, fn, fh, fp, fz, fl, fv, rs, au) (nI x) (nI 8) a := by
  unfold wpY_calculate; dsimp only
  refine yl_pops (o := 8) (by decide) ?_
  rw [po_8]
  refine br_f (by decide) (yl_pop (h := h + 1) hx hh (by omega) (br_f (by decide) (yl_pop (h := h) hx pk_us (by omega) ?_)))
  by_cases c : fv (8 * x + (h + 1)) ≤ fv (8 * x + h)
  · have e : cm_v 8 (fv (8 * x + h)) (fv (8 * x + (h + 1))) = 0 := by simp only [cm_v]; simp [c]
    rw [e] at hp
    refine br_f (by decide) (br_f (by decide) (br_f (by decide) (br_f (by decide) (br_f (by decide) (br_f (by decide) (br_f (by decide) (br_f (by decide) (br_f (by decide) (br_f (by decide) (br_t (by decide) (br_t c ?_)))))))))))
    unfold wY_calculate_207
    exact yl_push (h := h) hx pk_us (by omega) hp
  · have e : cm_v 8 (fv (8 * x + h)) (fv (8 * x + (h + 1))) = 1 := by simp only [cm_v]; simp [c]
    rw [e] at hp
    refine br_f (by decide) (br_f (by decide) (br_f (by decide) (br_f (by decide) (br_f (by decide) (br_f (by decide) (br_f (by decide) (br_f (by decide) (br_f (by decide) (br_f (by decide) (br_t (by decide) (br_f c ?_)))))))))))
    unfold wY_calculate_207
    exact yl_push (h := h) hx pk_us (by omega) hp
theorem xc_9 {post : SX → Prop} {x h : Nat} {a : Int32} (hx : x < 36) (hh : fh x = nI (h + 1 + 1)) (h8 : h + 1 < 8) (hp : post (q, tn, sl, pc, wp, he, co, ca, cb, fs, fc, ts, tu, ux, tl, ul, tm, gc, ga, gp, ss, st, sf, tc, tr, ow, ti, fd, ft, fk, fn, upd (upd (upd fh x (nI (h + 1))) x (nI h)) x (nI (h + 1)), fl, upd fv (8 * x + h) (cm_v 9 (fv (8 * x + h)) (fv (8 * x + (h + 1)))), rs, nt)) : wpX_computeValues post (q, tn, sl, pc, wp, he, co, ca, cb, fs, fc, ts, tu, ux, tl, ul, tm, gc, ga, gp, ss, st, sf, tc, tr, ow, ti, fd, ft, fk, fn, fh, fl, fv, rs, nt) (nI x) (nI 9) a := by
  refine br_f (by decide) (br_f (by decide) (br_f (by decide) (br_f (by decide) (br_f (by decide) (br_f (by decide) (br_f (by decide) (br_f (by decide) (br_f (by decide) (br_f (by decide) (br_t (by decide) (?_)))))))))))
  unfold wX_computeValues_130
  exact xl_cm9 hx hh h8 hp
theorem yc_9 {post : SY → Prop} {x h : Nat} {a : Int32} (hx : x < 36) (hh : fh x = nI (h + 1 + 1)) (h8 : h + 1 < 8) (hp : post (q, wp, tn, sl, yd, nd, co, ca, cb, le, he, kl, tu, uy, tl, ul, tm, gc, ga, gp, ss, st, sf, fd, tc, tr, ow, ti, ft, fn, upd (upd (upd fh x (nI (h + 1))) x (nI h)) x (nI (h + 1)), fp, fz, fl, upd fv (8 * x + h) (cm_v 9 (fv (8 * x + h)) (fv (8 * x + (h + 1)))), rs, au)) : wpY_calculate post (q, wp, tn, sl, yd, nd, co, ca, cb, le, he, kl, tu, uy, tl, ul, tm, gc, ga, gp, ss, st, sf, fd, tc, tr, ow, ti, ft, fn, fh, fp, fz, fl, fv, rs, au) (nI x) (nI 9) a := by
  unfold wpY_calculate; dsimp only
  refine yl_pops (o := 9) (by decide) ?_
  rw [po_9]
  refine br_f (by decide) (yl_pop (h := h + 1) hx hh (by omega) (br_f (by decide) (yl_pop (h := h) hx pk_us (by omega) ?_)))
  by_cases c : fv (8 * x + h) = fv (8 * x + (h + 1))
  · have e : cm_v 9 (fv (8 * x + h)) (fv (8 * x + (h + 1))) = 1 := by simp only [cm_v]; simp [c]
    rw [e] at hp
    refine br_f (by decide) (br_f (by decide) (br_f (by decide) (br_f (by decide) (br_f (by decide) (br_f (by decide) (br_f (by decide) (br_f (by decide) (br_f (by decide) (br_f (by decide) (br_f (by decide) (br_t (by decide) (br_t c ?_))))))))))))
    unfold wY_calculate_227
    exact yl_push (h := h) hx pk_us (by omega) hp
  · have e : cm_v 9 (fv (8 * x + h)) (fv (8 * x + (h + 1))) = 0 := by simp only [cm_v]; simp [c]
    rw [e] at hp
    refine br_f (by decide) (br_f (by decide) (br_f (by decide) (br_f (by decide) (br_f (by decide) (br_f (by decide) (br_f (by decide) (br_f (by decide) (br_f (by decide) (br_f (by decide) (br_f (by decide) (br_t (by decide) (br_f c ?_))))))))))))
    unfold wY_calculate_227
    exact yl_push (h := h) hx pk_us (by omega) hp
theorem xc_10 {post : SX → Prop} {x h p : Nat} (hx : x < 36) (hh : fh x = nI h) (h8 : h < 8) (ha : p < 4) (hp : post (q, tn, sl, pc, wp, he, co, ca, cb, fs, fc, ts, tu, ux, tl, ul, tm, gc, ga, gp, ss, st, sf, tc, tr, ow, ti, fd, ft, fk, fn, upd fh x (nI (h + 1)), fl, upd fv (8 * x + h) (fl (4 * x + p)), rs, nt)) : wpX_computeValues post (q, tn, sl, pc, wp, he, co, ca, cb, fs, fc, ts, tu, ux, tl, ul, tm, gc, ga, gp, ss, st, sf, tc, tr, ow, ti, fd, ft, fk, fn, fh, fl, fv, rs, nt) (nI x) (nI 10) (nI p) := by
  have e1 : nI x * 4 + nI p = nI (4 * x + p) := ix_r 4 rfl x p
  have e2 : (nI (4 * x + p)).toNatClampNeg = 4 * x + p := nI_clamp (by omega)
  have v1 : vp_in (nI x * 4 + nI p) 144 := by rw [e1]; exact vp_in_nI (by omega) (by decide)
  refine br_f (by decide) (br_f (by decide) (br_f (by decide) (br_f (by decide) (br_f (by decide) (br_f (by decide) (br_f (by decide) (br_f (by decide) (br_f (by decide) (br_f (by decide) (br_f (by decide) (br_t (by decide) (⟨v1, ?_⟩))))))))))))
  rw [e1, e2]
  exact xl_push (h := h) hx hh h8 hp
theorem yc_10 {post : SY → Prop} {x h p : Nat} (hx : x < 36) (hh : fh x = nI h) (h8 : h < 8) (ha : p < 4) (hp : post (q, wp, tn, sl, yd, nd, co, ca, cb, le, he, kl, tu, uy, tl, ul, tm, gc, ga, gp, ss, st, sf, fd, tc, tr, ow, ti, ft, fn, upd fh x (nI (h + 1)), fp, fz, fl, upd fv (8 * x + h) (fl (4 * x + p)), rs, au)) : wpY_calculate post (q, wp, tn, sl, yd, nd, co, ca, cb, le, he, kl, tu, uy, tl, ul, tm, gc, ga, gp, ss, st, sf, fd, tc, tr, ow, ti, ft, fn, fh, fp, fz, fl, fv, rs, au) (nI x) (nI 10) (nI p) := by
  unfold wpY_calculate; dsimp only
  refine yl_pops (o := 10) (by decide) ?_
  rw [po_10]
  refine br_t (by decide) (br_t (by decide) ?_)
  have e1 : 4 * nI x + nI p = nI (4 * x + p) := ix_l 4 rfl x p
  have e2 : (nI (4 * x + p)).toNatClampNeg = 4 * x + p := nI_clamp (by omega)
  have v1 : vp_in (4 * nI x + nI p) 144 := by rw [e1]; exact vp_in_nI (by omega) (by decide)
  refine br_f (by decide) (br_f (by decide) (br_f (by decide) (br_f (by decide) (br_f (by decide) (br_f (by decide) (br_f (by decide) (br_f (by decide) (br_f (by decide) (br_f (by decide) (br_f (by decide) (br_f (by decide) (br_t (by decide) (⟨v1, ?_⟩)))))))))))))
  rw [e1, e2]
  exact yl_push (h := h) hx hh h8 hp
theorem xc_11 {post : SX → Prop} {x h p : Nat} (hx : x < 36) (hh : fh x = nI (h + 1)) (h8 : h < 8) (ha : p < 4) (hp : post (q, tn, sl, pc, wp, he, co, ca, cb, fs, fc, ts, tu, ux, tl, ul, tm, gc, ga, gp, ss, st, sf, tc, tr, ow, ti, fd, ft, fk, fn, upd fh x (nI h), upd fl (4 * x + p) (fv (8 * x + h)), fv, rs, nt)) : wpX_computeValues post (q, tn, sl, pc, wp, he, co, ca, cb, fs, fc, ts, tu, ux, tl, ul, tm, gc, ga, gp, ss, st, sf, tc, tr, ow, ti, fd, ft, fk, fn, fh, fl, fv, rs, nt) (nI x) (nI 11) (nI p) := by
  have e1 : nI x * 4 + nI p = nI (4 * x + p) := ix_r 4 rfl x p
  have e2 : (nI (4 * x + p)).toNatClampNeg = 4 * x + p := nI_clamp (by omega)
  have v1 : vp_in (nI x * 4 + nI p) 144 := by rw [e1]; exact vp_in_nI (by omega) (by decide)
  refine br_f (by decide) (br_f (by decide) (br_f (by decide) (br_f (by decide) (br_f (by decide) (br_f (by decide) (br_f (by decide) (br_f (by decide) (br_f (by decide) (br_f (by decide) (br_f (by decide) (br_f (by decide) (br_t (by decide) (xl_pop (h := h) hx hh h8 ⟨v1, nm_r (by rw [e1, e2]) hp⟩)))))))))))))
theorem yc_11 {post : SY → Prop} {x h p : Nat} (hx : x < 36) (hh : fh x = nI (h + 1)) (h8 : h < 8) (ha : p < 4) (hp : post (q, wp, tn, sl, yd, nd, co, ca, cb, le, he, kl, tu, uy, tl, ul, tm, gc, ga, gp, ss, st, sf, fd, tc, tr, ow, ti, ft, fn, upd fh x (nI h), fp, fz, upd fl (4 * x + p) (fv (8 * x + h)), fv, rs, au)) : wpY_calculate post (q, wp, tn, sl, yd, nd, co, ca, cb, le, he, kl, tu, uy, tl, ul, tm, gc, ga, gp, ss, st, sf, fd, tc, tr, ow, ti, ft, fn, fh, fp, fz, fl, fv, rs, au) (nI x) (nI 11) (nI p) := by
  unfold wpY_calculate; dsimp only
  refine yl_pops (o := 11) (by decide) ?_
  rw [po_11]
  refine br_f (by decide) (yl_pop (h := h) hx hh (by omega) (br_t (by decide) ?_))
  have e1 : 4 * nI x + nI p = nI (4 * x + p) := ix_l 4 rfl x p
  have e2 : (nI (4 * x + p)).toNatClampNeg = 4 * x + p := nI_clamp (by omega)
  have v1 : vp_in (4 * nI x + nI p) 144 := by rw [e1]; exact vp_in_nI (by omega) (by decide)
  exact br_f (by decide) (br_f (by decide) (br_f (by decide) (br_f (by decide) (br_f (by decide) (br_f (by decide) (br_f (by decide) (br_f (by decide) (br_f (by decide) (br_f (by decide) (br_f (by decide) (br_f (by decide) (br_f (by decide) (br_t (by decide) (⟨v1, nm_r (by rw [e1, e2]) hp⟩))))))))))))))
theorem yc_12 {post : SY → Prop} {x : Nat} {a : Int32} (hx : x < 36) (hp : post (q, wp, tn, sl, yd, nd, co, ca, cb, le, he, kl, tu, uy, tl, ul, tm, gc, ga, gp, ss, st, sf, fd, tc, tr, ow, ti, ft, upd fn x a, fh, fp, fz, fl, fv, rs, au)) : wpY_calculate post (q, wp, tn, sl, yd, nd, co, ca, cb, le, he, kl, tu, uy, tl, ul, tm, gc, ga, gp, ss, st, sf, fd, tc, tr, ow, ti, ft, fn, fh, fp, fz, fl, fv, rs, au) (nI x) (nI 12) a := by
  have ex : (nI x).toNatClampNeg = x := nI_clamp (by omega)
  unfold wpY_calculate; dsimp only
  refine yl_pops (o := 12) (by decide) ?_
  rw [po_12]
  refine br_t (by decide) (br_t (by decide) ?_)
  exact br_f (by decide) (br_f (by decide) (br_f (by decide) (br_f (by decide) (br_f (by decide) (br_f (by decide) (br_f (by decide) (br_f (by decide) (br_f (by decide) (br_f (by decide) (br_f (by decide) (br_f (by decide) (br_f (by decide) (br_f (by decide) (br_t (by decide) (⟨vp_in_nI hx (by decide), nm_r (by rw [ex]) hp⟩)))))))))))))))
theorem yc_13 {post : SY → Prop} {x h : Nat} {a : Int32} (hx : x < 36) (hh : fh x = nI (h + 1)) (h8 : h < 8) (hp0 : fv (8 * x + h) = 0 → post (q, wp, tn, sl, yd, nd, co, ca, cb, le, he, kl, tu, uy, tl, ul, tm, gc, ga, gp, ss, st, sf, fd, tc, tr, ow, ti, ft, upd fn x a, upd fh x (nI h), fp, fz, fl, fv, rs, au)) (hp1 : ¬ fv (8 * x + h) = 0 → post (q, wp, tn, sl, yd, nd, co, ca, cb, le, he, kl, tu, uy, tl, ul, tm, gc, ga, gp, ss, st, sf, fd, tc, tr, ow, ti, ft, fn, upd fh x (nI h), fp, fz, fl, fv, rs, au)) : wpY_calculate post (q, wp, tn, sl, yd, nd, co, ca, cb, le, he, kl, tu, uy, tl, ul, tm, gc, ga, gp, ss, st, sf, fd, tc, tr, ow, ti, ft, fn, fh, fp, fz, fl, fv, rs, au) (nI x) (nI 13) a := by
  have ex : (nI x).toNatClampNeg = x := nI_clamp (by omega)
  unfold wpY_calculate; dsimp only
  refine yl_pops (o := 13) (by decide) ?_
  rw [po_13]
  refine br_f (by decide) (yl_pop (h := h) hx hh (by omega) (br_t (by decide) ?_))
  refine br_f (by decide) (br_t (by decide) (?_))
  by_cases c : fv (8 * x + h) = 0
  · exact br_t c ⟨vp_in_nI hx (by decide), nm_r (by rw [ex]) (hp0 c)⟩
  · exact br_f c (hp1 c)
end
end
section
def sr_R (M k s : Nat) (u0 : SX) (v0 : SY) : Prop := ∃ (u2 : SX) (v2 : SY), md_R (M + 1) k s u2 v2 ∧
  ((∀ post : Int32 → SX → Prop, post 0 u2 → wpX_execute post u0 (nI k)) ∨ ∃ (f : Int32) (u1 : SX), f ≠ 0 ∧ (∀ post : Int32 → SX → Prop, post f u1 → wpX_execute post u0 (nI k)) ∧ (∀ post : SX → Prop, post u2 → wpX_unwind post u1 (nI k) f)) ∧
  (∀ post : SY → Prop, post v2 → wpY_step post v0 (nI k))
theorem ix_ai (a b : Int32) : (a.toInt64 + b.toInt64).toInt32 = a + b := by simp
section
variable {q tn sl pc wp yd nd : Int32} {he co ca cb fs fc ts tu ux tl ul tm gc ga gp ss st sf tc tr ow ti fd ft fk fn fh fl fv rs nt le kl uy fp fz au : Nat → Int32}
theorem sx_0 {M : Nat} {H : Nat → Nat → Nat → Prop} {k s d t i h n c : Nat} (G : sg_R M H k s d t i h 0 n c q tn sl pc wp yd nd he co ca cb fs fc ts tu ux tl ul tm gc ga gp ss st sf tc tr ow ti fd ft fk fn fh fl fv rs nt le kl uy fp fz au) : sr_R M k s (q, tn, sl, pc, wp, he, co, ca, cb, fs, fc, ts, tu, ux, tl, ul, tm, gc, ga, gp, ss, st, sf, tc, tr, ow, ti, fd, ft, fk, fn, fh, fl, fv, rs, nt) (q, wp, tn, sl, yd, nd, co, ca, cb, le, he, kl, tu, uy, tl, ul, tm, gc, ga, gp, ss, st, sf, fd, tc, tr, ow, ti, ft, fn, fh, fp, fz, fl, fv, rs, au) := by
  have G' := G
  obtain ⟨C, htn, hsl, hyd, htc, B, hlo, hO, hK, hV, hn, hl, hh8, hle, hn64, hfc, hc4, z1, z2, z3, z4, z5, z6, z7, z8⟩ := G'
  have hk := B.1
  have hd0 := B.2.1
  have hd6 := B.2.2.1
  have ed := B.2.2.2.1
  have ht := B.2.2.2.2.1
  have eft := B.2.2.2.2.2.1
  have efh := B.2.2.2.2.2.2.2.1
  have hx : 6 * k + (d - 1) < 36 := by omega
  have ex : (nI (6 * k + (d - 1))).toNatClampNeg = 6 * k + (d - 1) := nI_clamp (by omega)
  have vx : vp_in (nI (6 * k + (d - 1))) 36 := vp_in_nI hx (by decide)
  have et : (nI t).toNatClampNeg = t := nI_clamp (by omega)
  have vt : vp_in (nI t) 4 := vp_in_nI ht (by decide)
  rw [po_0] at z5 z6
  rw [pu_0] at z6
  have hH := (z7 (by decide) (by decide) (by decide)).2
  rw [po_0, pu_0] at hH
  rw [show h - 0 + 0 = h by omega] at hH
  refine ⟨(q, tn, sl, pc, wp, he, co, ca, cb, fs, fc, ts, upd tu t (tu t + 1), ux, tl, ul, tm, gc, ga, gp, ss, st, sf, tc, tr, ow, ti, fd, ft, fk, upd fn (6 * k + (d - 1)) (nI (i + 1)), fh, fl, fv, rs, nt), (q, wp, tn, sl, yd, nd, co, ca, cb, le, he, kl, upd tu t (tu t + 1), uy, tl, ul, tm, gc, ga, gp, ss, st, sf, fd, tc, tr, ow, ti, ft, upd fn (6 * k + (d - 1)) (nI (i + 1)), fh, fp, fz, fl, fv, rs, au), pr_top (i' := i + 1) (h' := h) G (rc_up C) (fun y hy => pk_un hy) pk_us (fun _ _ => rfl) efh hH hV (Or.inl ⟨hsl, htc, hyd⟩), Or.inl (fun post hp => ?_), fun post hp => ?_⟩
  · exact xl_cv _ B (by decide) (fun post' hq => xc_0 hx hq) hp
  · exact yl_sc _ B hn hl (by decide) (fun post' hq => yc_0 hx hq) hp
theorem sx_1 {M : Nat} {H : Nat → Nat → Nat → Prop} {k s d t i h n c : Nat} (G : sg_R M H k s d t i h 1 n c q tn sl pc wp yd nd he co ca cb fs fc ts tu ux tl ul tm gc ga gp ss st sf tc tr ow ti fd ft fk fn fh fl fv rs nt le kl uy fp fz au) : sr_R M k s (q, tn, sl, pc, wp, he, co, ca, cb, fs, fc, ts, tu, ux, tl, ul, tm, gc, ga, gp, ss, st, sf, tc, tr, ow, ti, fd, ft, fk, fn, fh, fl, fv, rs, nt) (q, wp, tn, sl, yd, nd, co, ca, cb, le, he, kl, tu, uy, tl, ul, tm, gc, ga, gp, ss, st, sf, fd, tc, tr, ow, ti, ft, fn, fh, fp, fz, fl, fv, rs, au) := by
  have G' := G
  obtain ⟨C, htn, hsl, hyd, htc, B, hlo, hO, hK, hV, hn, hl, hh8, hle, hn64, hfc, hc4, z1, z2, z3, z4, z5, z6, z7, z8⟩ := G'
  have hk := B.1
  have hd0 := B.2.1
  have hd6 := B.2.2.1
  have ed := B.2.2.2.1
  have ht := B.2.2.2.2.1
  have eft := B.2.2.2.2.2.1
  have efh := B.2.2.2.2.2.2.2.1
  have hx : 6 * k + (d - 1) < 36 := by omega
  have ex : (nI (6 * k + (d - 1))).toNatClampNeg = 6 * k + (d - 1) := nI_clamp (by omega)
  have vx : vp_in (nI (6 * k + (d - 1))) 36 := vp_in_nI hx (by decide)
  have et : (nI t).toNatClampNeg = t := nI_clamp (by omega)
  have vt : vp_in (nI t) 4 := vp_in_nI ht (by decide)
  rw [po_1] at z5 z6
  rw [pu_1] at z6
  have hH := (z7 (by decide) (by decide) (by decide)).2
  rw [po_1, pu_1] at hH
  rw [show h - 0 + 1 = h + 1 by omega] at hH
  refine ⟨(q, tn, sl, pc, wp, he, co, ca, cb, fs, fc, ts, upd tu t (tu t + 1), ux, tl, ul, tm, gc, ga, gp, ss, st, sf, tc, tr, ow, ti, fd, ft, fk, upd fn (6 * k + (d - 1)) (nI (i + 1)), upd fh (6 * k + (d - 1)) (nI (h + 1)), fl, upd fv (8 * (6 * k + (d - 1)) + h) (ca (64 * t + i)), rs, nt), (q, wp, tn, sl, yd, nd, co, ca, cb, le, he, kl, upd tu t (tu t + 1), uy, tl, ul, tm, gc, ga, gp, ss, st, sf, fd, tc, tr, ow, ti, ft, upd fn (6 * k + (d - 1)) (nI (i + 1)), upd fh (6 * k + (d - 1)) (nI (h + 1)), fp, fz, fl, upd fv (8 * (6 * k + (d - 1)) + h) (ca (64 * t + i)), rs, au), pr_top (i' := i + 1) (h' := h + 1) G (rc_up C) (fun y hy => pk_un hy) pk_us (fun y hy => by rw [pk_un hy]) pk_us hH hV (Or.inl ⟨hsl, htc, hyd⟩), Or.inl (fun post hp => ?_), fun post hp => ?_⟩
  · exact xl_cv _ B (by decide) (fun post' hq => xc_1 hx efh (by omega) hq) hp
  · exact yl_sc _ B hn hl (by decide) (fun post' hq => yc_1 hx efh (by omega) hq) hp
theorem sx_2 {M : Nat} {H : Nat → Nat → Nat → Prop} {k s d t i h n c : Nat} (G : sg_R M H k s d t i h 2 n c q tn sl pc wp yd nd he co ca cb fs fc ts tu ux tl ul tm gc ga gp ss st sf tc tr ow ti fd ft fk fn fh fl fv rs nt le kl uy fp fz au) : sr_R M k s (q, tn, sl, pc, wp, he, co, ca, cb, fs, fc, ts, tu, ux, tl, ul, tm, gc, ga, gp, ss, st, sf, tc, tr, ow, ti, fd, ft, fk, fn, fh, fl, fv, rs, nt) (q, wp, tn, sl, yd, nd, co, ca, cb, le, he, kl, tu, uy, tl, ul, tm, gc, ga, gp, ss, st, sf, fd, tc, tr, ow, ti, ft, fn, fh, fp, fz, fl, fv, rs, au) := by
  have G' := G
  obtain ⟨C, htn, hsl, hyd, htc, B, hlo, hO, hK, hV, hn, hl, hh8, hle, hn64, hfc, hc4, z1, z2, z3, z4, z5, z6, z7, z8⟩ := G'
  have hk := B.1
  have hd0 := B.2.1
  have hd6 := B.2.2.1
  have ed := B.2.2.2.1
  have ht := B.2.2.2.2.1
  have eft := B.2.2.2.2.2.1
  have efh := B.2.2.2.2.2.2.2.1
  have hx : 6 * k + (d - 1) < 36 := by omega
  have ex : (nI (6 * k + (d - 1))).toNatClampNeg = 6 * k + (d - 1) := nI_clamp (by omega)
  have vx : vp_in (nI (6 * k + (d - 1))) 36 := vp_in_nI hx (by decide)
  have et : (nI t).toNatClampNeg = t := nI_clamp (by omega)
  have vt : vp_in (nI t) 4 := vp_in_nI ht (by decide)
  rw [po_2] at z5 z6
  rw [pu_2] at z6
  have hH := (z7 (by decide) (by decide) (by decide)).2
  rw [po_2, pu_2] at hH
  obtain ⟨g, rfl⟩ : ∃ g, h = g + 1 := ⟨h - 1, by omega⟩
  rw [show g + 1 - 1 + 2 = g + 1 + 1 by omega] at hH
  refine ⟨(q, tn, sl, pc, wp, he, co, ca, cb, fs, fc, ts, upd tu t (tu t + 1), ux, tl, ul, tm, gc, ga, gp, ss, st, sf, tc, tr, ow, ti, fd, ft, fk, upd fn (6 * k + (d - 1)) (nI (i + 1)), upd (upd (upd fh (6 * k + (d - 1)) (nI g)) (6 * k + (d - 1)) (nI (g + 1))) (6 * k + (d - 1)) (nI (g + 1 + 1)), fl, upd (upd fv (8 * (6 * k + (d - 1)) + g) (fv (8 * (6 * k + (d - 1)) + g))) (8 * (6 * k + (d - 1)) + (g + 1)) (fv (8 * (6 * k + (d - 1)) + g)), rs, nt), (q, wp, tn, sl, yd, nd, co, ca, cb, le, he, kl, upd tu t (tu t + 1), uy, tl, ul, tm, gc, ga, gp, ss, st, sf, fd, tc, tr, ow, ti, ft, upd fn (6 * k + (d - 1)) (nI (i + 1)), upd (upd (upd fh (6 * k + (d - 1)) (nI g)) (6 * k + (d - 1)) (nI (g + 1))) (6 * k + (d - 1)) (nI (g + 1 + 1)), fp, fz, fl, upd (upd fv (8 * (6 * k + (d - 1)) + g) (fv (8 * (6 * k + (d - 1)) + g))) (8 * (6 * k + (d - 1)) + (g + 1)) (fv (8 * (6 * k + (d - 1)) + g)), rs, au), pr_top (i' := i + 1) (h' := g + 1 + 1) G (rc_up C) (fun y hy => pk_un hy) pk_us (fun y hy => by rw [pk_un hy, pk_un hy, pk_un hy]) pk_us hH hV (Or.inl ⟨hsl, htc, hyd⟩), Or.inl (fun post hp => ?_), fun post hp => ?_⟩
  · exact xl_cv _ B (by decide) (fun post' hq => xc_2 hx efh (by omega) hq) hp
  · exact yl_sc _ B hn hl (by decide) (fun post' hq => yc_2 hx efh (by omega) hq) hp
theorem sx_3 {M : Nat} {H : Nat → Nat → Nat → Prop} {k s d t i h n c : Nat} (G : sg_R M H k s d t i h 3 n c q tn sl pc wp yd nd he co ca cb fs fc ts tu ux tl ul tm gc ga gp ss st sf tc tr ow ti fd ft fk fn fh fl fv rs nt le kl uy fp fz au) : sr_R M k s (q, tn, sl, pc, wp, he, co, ca, cb, fs, fc, ts, tu, ux, tl, ul, tm, gc, ga, gp, ss, st, sf, tc, tr, ow, ti, fd, ft, fk, fn, fh, fl, fv, rs, nt) (q, wp, tn, sl, yd, nd, co, ca, cb, le, he, kl, tu, uy, tl, ul, tm, gc, ga, gp, ss, st, sf, fd, tc, tr, ow, ti, ft, fn, fh, fp, fz, fl, fv, rs, au) := by
  have G' := G
  obtain ⟨C, htn, hsl, hyd, htc, B, hlo, hO, hK, hV, hn, hl, hh8, hle, hn64, hfc, hc4, z1, z2, z3, z4, z5, z6, z7, z8⟩ := G'
  have hk := B.1
  have hd0 := B.2.1
  have hd6 := B.2.2.1
  have ed := B.2.2.2.1
  have ht := B.2.2.2.2.1
  have eft := B.2.2.2.2.2.1
  have efh := B.2.2.2.2.2.2.2.1
  have hx : 6 * k + (d - 1) < 36 := by omega
  have ex : (nI (6 * k + (d - 1))).toNatClampNeg = 6 * k + (d - 1) := nI_clamp (by omega)
  have vx : vp_in (nI (6 * k + (d - 1))) 36 := vp_in_nI hx (by decide)
  have et : (nI t).toNatClampNeg = t := nI_clamp (by omega)
  have vt : vp_in (nI t) 4 := vp_in_nI ht (by decide)
  rw [po_3] at z5 z6
  rw [pu_3] at z6
  have hH := (z7 (by decide) (by decide) (by decide)).2
  rw [po_3, pu_3] at hH
  obtain ⟨g, rfl⟩ : ∃ g, h = g + 1 := ⟨h - 1, by omega⟩
  rw [show g + 1 - 1 + 0 = g by omega] at hH
  refine ⟨(q, tn, sl, pc, wp, he, co, ca, cb, fs, fc, ts, upd tu t (tu t + 1), ux, tl, ul, tm, gc, ga, gp, ss, st, sf, tc, tr, ow, ti, fd, ft, fk, upd fn (6 * k + (d - 1)) (nI (i + 1)), upd fh (6 * k + (d - 1)) (nI g), fl, fv, rs, nt), (q, wp, tn, sl, yd, nd, co, ca, cb, le, he, kl, upd tu t (tu t + 1), uy, tl, ul, tm, gc, ga, gp, ss, st, sf, fd, tc, tr, ow, ti, ft, upd fn (6 * k + (d - 1)) (nI (i + 1)), upd fh (6 * k + (d - 1)) (nI g), fp, fz, fl, fv, rs, au), pr_top (i' := i + 1) (h' := g) G (rc_up C) (fun y hy => pk_un hy) pk_us (fun y hy => by rw [pk_un hy]) pk_us hH hV (Or.inl ⟨hsl, htc, hyd⟩), Or.inl (fun post hp => ?_), fun post hp => ?_⟩
  · exact xl_cv _ B (by decide) (fun post' hq => xc_3 hx efh (by omega) hq) hp
  · exact yl_sc _ B hn hl (by decide) (fun post' hq => yc_3 hx efh (by omega) hq) hp
theorem sx_4 {M : Nat} {H : Nat → Nat → Nat → Prop} {k s d t i h n c : Nat} (G : sg_R M H k s d t i h 4 n c q tn sl pc wp yd nd he co ca cb fs fc ts tu ux tl ul tm gc ga gp ss st sf tc tr ow ti fd ft fk fn fh fl fv rs nt le kl uy fp fz au) : sr_R M k s (q, tn, sl, pc, wp, he, co, ca, cb, fs, fc, ts, tu, ux, tl, ul, tm, gc, ga, gp, ss, st, sf, tc, tr, ow, ti, fd, ft, fk, fn, fh, fl, fv, rs, nt) (q, wp, tn, sl, yd, nd, co, ca, cb, le, he, kl, tu, uy, tl, ul, tm, gc, ga, gp, ss, st, sf, fd, tc, tr, ow, ti, ft, fn, fh, fp, fz, fl, fv, rs, au) := by
  have G' := G
  obtain ⟨C, htn, hsl, hyd, htc, B, hlo, hO, hK, hV, hn, hl, hh8, hle, hn64, hfc, hc4, z1, z2, z3, z4, z5, z6, z7, z8⟩ := G'
  have hk := B.1
  have hd0 := B.2.1
  have hd6 := B.2.2.1
  have ed := B.2.2.2.1
  have ht := B.2.2.2.2.1
  have eft := B.2.2.2.2.2.1
  have efh := B.2.2.2.2.2.2.2.1
  have hx : 6 * k + (d - 1) < 36 := by omega
  have ex : (nI (6 * k + (d - 1))).toNatClampNeg = 6 * k + (d - 1) := nI_clamp (by omega)
  have vx : vp_in (nI (6 * k + (d - 1))) 36 := vp_in_nI hx (by decide)
  have et : (nI t).toNatClampNeg = t := nI_clamp (by omega)
  have vt : vp_in (nI t) 4 := vp_in_nI ht (by decide)
  rw [po_4] at z5 z6
  rw [pu_4] at z6
  have hH := (z7 (by decide) (by decide) (by decide)).2
  rw [po_4, pu_4] at hH
  obtain ⟨g, rfl⟩ : ∃ g, h = g + 1 + 1 := ⟨h - 2, by omega⟩
  rw [show g + 1 + 1 - 2 + 2 = g + 1 + 1 by omega] at hH
  refine ⟨(q, tn, sl, pc, wp, he, co, ca, cb, fs, fc, ts, upd tu t (tu t + 1), ux, tl, ul, tm, gc, ga, gp, ss, st, sf, tc, tr, ow, ti, fd, ft, fk, upd fn (6 * k + (d - 1)) (nI (i + 1)), upd (upd (upd (upd fh (6 * k + (d - 1)) (nI (g + 1))) (6 * k + (d - 1)) (nI g)) (6 * k + (d - 1)) (nI (g + 1))) (6 * k + (d - 1)) (nI (g + 1 + 1)), fl, upd (upd fv (8 * (6 * k + (d - 1)) + g) (fv (8 * (6 * k + (d - 1)) + (g + 1)))) (8 * (6 * k + (d - 1)) + (g + 1)) (fv (8 * (6 * k + (d - 1)) + g)), rs, nt), (q, wp, tn, sl, yd, nd, co, ca, cb, le, he, kl, upd tu t (tu t + 1), uy, tl, ul, tm, gc, ga, gp, ss, st, sf, fd, tc, tr, ow, ti, ft, upd fn (6 * k + (d - 1)) (nI (i + 1)), upd (upd (upd (upd fh (6 * k + (d - 1)) (nI (g + 1))) (6 * k + (d - 1)) (nI g)) (6 * k + (d - 1)) (nI (g + 1))) (6 * k + (d - 1)) (nI (g + 1 + 1)), fp, fz, fl, upd (upd fv (8 * (6 * k + (d - 1)) + g) (fv (8 * (6 * k + (d - 1)) + (g + 1)))) (8 * (6 * k + (d - 1)) + (g + 1)) (fv (8 * (6 * k + (d - 1)) + g)), rs, au), pr_top (i' := i + 1) (h' := g + 1 + 1) G (rc_up C) (fun y hy => pk_un hy) pk_us (fun y hy => by rw [pk_un hy, pk_un hy, pk_un hy, pk_un hy]) pk_us hH hV (Or.inl ⟨hsl, htc, hyd⟩), Or.inl (fun post hp => ?_), fun post hp => ?_⟩
  · exact xl_cv _ B (by decide) (fun post' hq => xc_4 hx efh (by omega) hq) hp
  · exact yl_sc _ B hn hl (by decide) (fun post' hq => yc_4 hx efh (by omega) hq) hp
theorem sx_5 {M : Nat} {H : Nat → Nat → Nat → Prop} {k s d t i h n c : Nat} (G : sg_R M H k s d t i h 5 n c q tn sl pc wp yd nd he co ca cb fs fc ts tu ux tl ul tm gc ga gp ss st sf tc tr ow ti fd ft fk fn fh fl fv rs nt le kl uy fp fz au) : sr_R M k s (q, tn, sl, pc, wp, he, co, ca, cb, fs, fc, ts, tu, ux, tl, ul, tm, gc, ga, gp, ss, st, sf, tc, tr, ow, ti, fd, ft, fk, fn, fh, fl, fv, rs, nt) (q, wp, tn, sl, yd, nd, co, ca, cb, le, he, kl, tu, uy, tl, ul, tm, gc, ga, gp, ss, st, sf, fd, tc, tr, ow, ti, ft, fn, fh, fp, fz, fl, fv, rs, au) := by
  have G' := G
  obtain ⟨C, htn, hsl, hyd, htc, B, hlo, hO, hK, hV, hn, hl, hh8, hle, hn64, hfc, hc4, z1, z2, z3, z4, z5, z6, z7, z8⟩ := G'
  have hk := B.1
  have hd0 := B.2.1
  have hd6 := B.2.2.1
  have ed := B.2.2.2.1
  have ht := B.2.2.2.2.1
  have eft := B.2.2.2.2.2.1
  have efh := B.2.2.2.2.2.2.2.1
  have hx : 6 * k + (d - 1) < 36 := by omega
  have ex : (nI (6 * k + (d - 1))).toNatClampNeg = 6 * k + (d - 1) := nI_clamp (by omega)
  have vx : vp_in (nI (6 * k + (d - 1))) 36 := vp_in_nI hx (by decide)
  have et : (nI t).toNatClampNeg = t := nI_clamp (by omega)
  have vt : vp_in (nI t) 4 := vp_in_nI ht (by decide)
  rw [po_5] at z5 z6
  rw [pu_5] at z6
  have hH := (z7 (by decide) (by decide) (by decide)).2
  rw [po_5, pu_5] at hH
  obtain ⟨g, rfl⟩ : ∃ g, h = g + 1 + 1 := ⟨h - 2, by omega⟩
  rw [show g + 1 + 1 - 2 + 1 = g + 1 by omega] at hH
  refine ⟨(q, tn, sl, pc, wp, he, co, ca, cb, fs, fc, ts, upd tu t (tu t + 1), ux, tl, ul, tm, gc, ga, gp, ss, st, sf, tc, tr, ow, ti, fd, ft, fk, upd fn (6 * k + (d - 1)) (nI (i + 1)), upd (upd (upd fh (6 * k + (d - 1)) (nI (g + 1))) (6 * k + (d - 1)) (nI g)) (6 * k + (d - 1)) (nI (g + 1)), fl, upd fv (8 * (6 * k + (d - 1)) + g) (cm_v 5 (fv (8 * (6 * k + (d - 1)) + g)) (fv (8 * (6 * k + (d - 1)) + (g + 1)))), rs, nt), (q, wp, tn, sl, yd, nd, co, ca, cb, le, he, kl, upd tu t (tu t + 1), uy, tl, ul, tm, gc, ga, gp, ss, st, sf, fd, tc, tr, ow, ti, ft, upd fn (6 * k + (d - 1)) (nI (i + 1)), upd (upd (upd fh (6 * k + (d - 1)) (nI (g + 1))) (6 * k + (d - 1)) (nI g)) (6 * k + (d - 1)) (nI (g + 1)), fp, fz, fl, upd fv (8 * (6 * k + (d - 1)) + g) (cm_v 5 (fv (8 * (6 * k + (d - 1)) + g)) (fv (8 * (6 * k + (d - 1)) + (g + 1)))), rs, au), pr_top (i' := i + 1) (h' := g + 1) G (rc_up C) (fun y hy => pk_un hy) pk_us (fun y hy => by rw [pk_un hy, pk_un hy, pk_un hy]) pk_us hH hV (Or.inl ⟨hsl, htc, hyd⟩), Or.inl (fun post hp => ?_), fun post hp => ?_⟩
  · exact xl_cv _ B (by decide) (fun post' hq => xc_5 hx efh (by omega) hq) hp
  · exact yl_sc _ B hn hl (by decide) (fun post' hq => yc_5 hx efh (by omega) hq) hp
theorem sx_6 {M : Nat} {H : Nat → Nat → Nat → Prop} {k s d t i h n c : Nat} (G : sg_R M H k s d t i h 6 n c q tn sl pc wp yd nd he co ca cb fs fc ts tu ux tl ul tm gc ga gp ss st sf tc tr ow ti fd ft fk fn fh fl fv rs nt le kl uy fp fz au) : sr_R M k s (q, tn, sl, pc, wp, he, co, ca, cb, fs, fc, ts, tu, ux, tl, ul, tm, gc, ga, gp, ss, st, sf, tc, tr, ow, ti, fd, ft, fk, fn, fh, fl, fv, rs, nt) (q, wp, tn, sl, yd, nd, co, ca, cb, le, he, kl, tu, uy, tl, ul, tm, gc, ga, gp, ss, st, sf, fd, tc, tr, ow, ti, ft, fn, fh, fp, fz, fl, fv, rs, au) := by
  have G' := G
  obtain ⟨C, htn, hsl, hyd, htc, B, hlo, hO, hK, hV, hn, hl, hh8, hle, hn64, hfc, hc4, z1, z2, z3, z4, z5, z6, z7, z8⟩ := G'
  have hk := B.1
  have hd0 := B.2.1
  have hd6 := B.2.2.1
  have ed := B.2.2.2.1
  have ht := B.2.2.2.2.1
  have eft := B.2.2.2.2.2.1
  have efh := B.2.2.2.2.2.2.2.1
  have hx : 6 * k + (d - 1) < 36 := by omega
  have ex : (nI (6 * k + (d - 1))).toNatClampNeg = 6 * k + (d - 1) := nI_clamp (by omega)
  have vx : vp_in (nI (6 * k + (d - 1))) 36 := vp_in_nI hx (by decide)
  have et : (nI t).toNatClampNeg = t := nI_clamp (by omega)
  have vt : vp_in (nI t) 4 := vp_in_nI ht (by decide)
  rw [po_6] at z5 z6
  rw [pu_6] at z6
  have hH := (z7 (by decide) (by decide) (by decide)).2
  rw [po_6, pu_6] at hH
  obtain ⟨g, rfl⟩ : ∃ g, h = g + 1 + 1 := ⟨h - 2, by omega⟩
  rw [show g + 1 + 1 - 2 + 1 = g + 1 by omega] at hH
  refine ⟨(q, tn, sl, pc, wp, he, co, ca, cb, fs, fc, ts, upd tu t (tu t + 1), ux, tl, ul, tm, gc, ga, gp, ss, st, sf, tc, tr, ow, ti, fd, ft, fk, upd fn (6 * k + (d - 1)) (nI (i + 1)), upd (upd (upd fh (6 * k + (d - 1)) (nI (g + 1))) (6 * k + (d - 1)) (nI g)) (6 * k + (d - 1)) (nI (g + 1)), fl, upd fv (8 * (6 * k + (d - 1)) + g) (cm_v 6 (fv (8 * (6 * k + (d - 1)) + g)) (fv (8 * (6 * k + (d - 1)) + (g + 1)))), rs, nt), (q, wp, tn, sl, yd, nd, co, ca, cb, le, he, kl, upd tu t (tu t + 1), uy, tl, ul, tm, gc, ga, gp, ss, st, sf, fd, tc, tr, ow, ti, ft, upd fn (6 * k + (d - 1)) (nI (i + 1)), upd (upd (upd fh (6 * k + (d - 1)) (nI (g + 1))) (6 * k + (d - 1)) (nI g)) (6 * k + (d - 1)) (nI (g + 1)), fp, fz, fl, upd fv (8 * (6 * k + (d - 1)) + g) (cm_v 6 (fv (8 * (6 * k + (d - 1)) + g)) (fv (8 * (6 * k + (d - 1)) + (g + 1)))), rs, au), pr_top (i' := i + 1) (h' := g + 1) G (rc_up C) (fun y hy => pk_un hy) pk_us (fun y hy => by rw [pk_un hy, pk_un hy, pk_un hy]) pk_us hH hV (Or.inl ⟨hsl, htc, hyd⟩), Or.inl (fun post hp => ?_), fun post hp => ?_⟩
  · exact xl_cv _ B (by decide) (fun post' hq => xc_6 hx efh (by omega) hq) hp
  · exact yl_sc _ B hn hl (by decide) (fun post' hq => yc_6 hx efh (by omega) hq) hp
theorem sx_7 {M : Nat} {H : Nat → Nat → Nat → Prop} {k s d t i h n c : Nat} (G : sg_R M H k s d t i h 7 n c q tn sl pc wp yd nd he co ca cb fs fc ts tu ux tl ul tm gc ga gp ss st sf tc tr ow ti fd ft fk fn fh fl fv rs nt le kl uy fp fz au) : sr_R M k s (q, tn, sl, pc, wp, he, co, ca, cb, fs, fc, ts, tu, ux, tl, ul, tm, gc, ga, gp, ss, st, sf, tc, tr, ow, ti, fd, ft, fk, fn, fh, fl, fv, rs, nt) (q, wp, tn, sl, yd, nd, co, ca, cb, le, he, kl, tu, uy, tl, ul, tm, gc, ga, gp, ss, st, sf, fd, tc, tr, ow, ti, ft, fn, fh, fp, fz, fl, fv, rs, au) := by
  have G' := G
  obtain ⟨C, htn, hsl, hyd, htc, B, hlo, hO, hK, hV, hn, hl, hh8, hle, hn64, hfc, hc4, z1, z2, z3, z4, z5, z6, z7, z8⟩ := G'
  have hk := B.1
  have hd0 := B.2.1
  have hd6 := B.2.2.1
  have ed := B.2.2.2.1
  have ht := B.2.2.2.2.1
  have eft := B.2.2.2.2.2.1
  have efh := B.2.2.2.2.2.2.2.1
  have hx : 6 * k + (d - 1) < 36 := by omega
  have ex : (nI (6 * k + (d - 1))).toNatClampNeg = 6 * k + (d - 1) := nI_clamp (by omega)
  have vx : vp_in (nI (6 * k + (d - 1))) 36 := vp_in_nI hx (by decide)
  have et : (nI t).toNatClampNeg = t := nI_clamp (by omega)
  have vt : vp_in (nI t) 4 := vp_in_nI ht (by decide)
  rw [po_7] at z5 z6
  rw [pu_7] at z6
  have hH := (z7 (by decide) (by decide) (by decide)).2
  rw [po_7, pu_7] at hH
  obtain ⟨g, rfl⟩ : ∃ g, h = g + 1 + 1 := ⟨h - 2, by omega⟩
  rw [show g + 1 + 1 - 2 + 1 = g + 1 by omega] at hH
  refine ⟨(q, tn, sl, pc, wp, he, co, ca, cb, fs, fc, ts, upd tu t (tu t + 1), ux, tl, ul, tm, gc, ga, gp, ss, st, sf, tc, tr, ow, ti, fd, ft, fk, upd fn (6 * k + (d - 1)) (nI (i + 1)), upd (upd (upd fh (6 * k + (d - 1)) (nI (g + 1))) (6 * k + (d - 1)) (nI g)) (6 * k + (d - 1)) (nI (g + 1)), fl, upd fv (8 * (6 * k + (d - 1)) + g) (cm_v 7 (fv (8 * (6 * k + (d - 1)) + g)) (fv (8 * (6 * k + (d - 1)) + (g + 1)))), rs, nt), (q, wp, tn, sl, yd, nd, co, ca, cb, le, he, kl, upd tu t (tu t + 1), uy, tl, ul, tm, gc, ga, gp, ss, st, sf, fd, tc, tr, ow, ti, ft, upd fn (6 * k + (d - 1)) (nI (i + 1)), upd (upd (upd fh (6 * k + (d - 1)) (nI (g + 1))) (6 * k + (d - 1)) (nI g)) (6 * k + (d - 1)) (nI (g + 1)), fp, fz, fl, upd fv (8 * (6 * k + (d - 1)) + g) (cm_v 7 (fv (8 * (6 * k + (d - 1)) + g)) (fv (8 * (6 * k + (d - 1)) + (g + 1)))), rs, au), pr_top (i' := i + 1) (h' := g + 1) G (rc_up C) (fun y hy => pk_un hy) pk_us (fun y hy => by rw [pk_un hy, pk_un hy, pk_un hy]) pk_us hH hV (Or.inl ⟨hsl, htc, hyd⟩), Or.inl (fun post hp => ?_), fun post hp => ?_⟩
  · exact xl_cv _ B (by decide) (fun post' hq => xc_7 hx efh (by omega) hq) hp
  · exact yl_sc _ B hn hl (by decide) (fun post' hq => yc_7 hx efh (by omega) hq) hp
theorem sx_8 {M : Nat} {H : Nat → Nat → Nat → Prop} {k s d t i h n c : Nat} (G : sg_R M H k s d t i h 8 n c q tn sl pc wp yd nd he co ca cb fs fc ts tu ux tl ul tm gc ga gp ss st sf tc tr ow ti fd ft fk fn fh fl fv rs nt le kl uy fp fz au) : sr_R M k s (q, tn, sl, pc, wp, he, co, ca, cb, fs, fc, ts, tu, ux, tl, ul, tm, gc, ga, gp, ss, st, sf, tc, tr, ow, ti, fd, ft, fk, fn, fh, fl, fv, rs, nt) (q, wp, tn, sl, yd, nd, co, ca, cb, le, he, kl, tu, uy, tl, ul, tm, gc, ga, gp, ss, st, sf, fd, tc, tr, ow, ti, ft, fn, fh, fp, fz, fl, fv, rs, au) := by
  have G' := G
  obtain ⟨C, htn, hsl, hyd, htc, B, hlo, hO, hK, hV, hn, hl, hh8, hle, hn64, hfc, hc4, z1, z2, z3, z4, z5, z6, z7, z8⟩ := G'
  have hk := B.1
  have hd0 := B.2.1
  have hd6 := B.2.2.1
  have ed := B.2.2.2.1
  have ht := B.2.2.2.2.1
  have eft := B.2.2.2.2.2.1
  have efh := B.2.2.2.2.2.2.2.1
  have hx : 6 * k + (d - 1) < 36 := by omega
  have ex : (nI (6 * k + (d - 1))).toNatClampNeg = 6 * k + (d - 1) := nI_clamp (by omega)
  have vx : vp_in (nI (6 * k + (d - 1))) 36 := vp_in_nI hx (by decide)
  have et : (nI t).toNatClampNeg = t := nI_clamp (by omega)
  have vt : vp_in (nI t) 4 := vp_in_nI ht (by decide)
  rw [po_8] at z5 z6
  rw [pu_8] at z6
  have hH := (z7 (by decide) (by decide) (by decide)).2
  rw [po_8, pu_8] at hH
  obtain ⟨g, rfl⟩ : ∃ g, h = g + 1 + 1 := ⟨h - 2, by omega⟩
  rw [show g + 1 + 1 - 2 + 1 = g + 1 by omega] at hH
  refine ⟨(q, tn, sl, pc, wp, he, co, ca, cb, fs, fc, ts, upd tu t (tu t + 1), ux, tl, ul, tm, gc, ga, gp, ss, st, sf, tc, tr, ow, ti, fd, ft, fk, upd fn (6 * k + (d - 1)) (nI (i + 1)), upd (upd (upd fh (6 * k + (d - 1)) (nI (g + 1))) (6 * k + (d - 1)) (nI g)) (6 * k + (d - 1)) (nI (g + 1)), fl, upd fv (8 * (6 * k + (d - 1)) + g) (cm_v 8 (fv (8 * (6 * k + (d - 1)) + g)) (fv (8 * (6 * k + (d - 1)) + (g + 1)))), rs, nt), (q, wp, tn, sl, yd, nd, co, ca, cb, le, he, kl, upd tu t (tu t + 1), uy, tl, ul, tm, gc, ga, gp, ss, st, sf, fd, tc, tr, ow, ti, ft, upd fn (6 * k + (d - 1)) (nI (i + 1)), upd (upd (upd fh (6 * k + (d - 1)) (nI (g + 1))) (6 * k + (d - 1)) (nI g)) (6 * k + (d - 1)) (nI (g + 1)), fp, fz, fl, upd fv (8 * (6 * k + (d - 1)) + g) (cm_v 8 (fv (8 * (6 * k + (d - 1)) + g)) (fv (8 * (6 * k + (d - 1)) + (g + 1)))), rs, au), pr_top (i' := i + 1) (h' := g + 1) G (rc_up C) (fun y hy => pk_un hy) pk_us (fun y hy => by rw [pk_un hy, pk_un hy, pk_un hy]) pk_us hH hV (Or.inl ⟨hsl, htc, hyd⟩), Or.inl (fun post hp => ?_), fun post hp => ?_⟩
  · exact xl_cv _ B (by decide) (fun post' hq => xc_8 hx efh (by omega) hq) hp
  · exact yl_sc _ B hn hl (by decide) (fun post' hq => yc_8 hx efh (by omega) hq) hp
theorem sx_9 {M : Nat} {H : Nat → Nat → Nat → Prop} {k s d t i h n c : Nat} (G : sg_R M H k s d t i h 9 n c q tn sl pc wp yd nd he co ca cb fs fc ts tu ux tl ul tm gc ga gp ss st sf tc tr ow ti fd ft fk fn fh fl fv rs nt le kl uy fp fz au) : sr_R M k s (q, tn, sl, pc, wp, he, co, ca, cb, fs, fc, ts, tu, ux, tl, ul, tm, gc, ga, gp, ss, st, sf, tc, tr, ow, ti, fd, ft, fk, fn, fh, fl, fv, rs, nt) (q, wp, tn, sl, yd, nd, co, ca, cb, le, he, kl, tu, uy, tl, ul, tm, gc, ga, gp, ss, st, sf, fd, tc, tr, ow, ti, ft, fn, fh, fp, fz, fl, fv, rs, au) := by
  have G' := G
  obtain ⟨C, htn, hsl, hyd, htc, B, hlo, hO, hK, hV, hn, hl, hh8, hle, hn64, hfc, hc4, z1, z2, z3, z4, z5, z6, z7, z8⟩ := G'
  have hk := B.1
  have hd0 := B.2.1
  have hd6 := B.2.2.1
  have ed := B.2.2.2.1
  have ht := B.2.2.2.2.1
  have eft := B.2.2.2.2.2.1
  have efh := B.2.2.2.2.2.2.2.1
  have hx : 6 * k + (d - 1) < 36 := by omega
  have ex : (nI (6 * k + (d - 1))).toNatClampNeg = 6 * k + (d - 1) := nI_clamp (by omega)
  have vx : vp_in (nI (6 * k + (d - 1))) 36 := vp_in_nI hx (by decide)
  have et : (nI t).toNatClampNeg = t := nI_clamp (by omega)
  have vt : vp_in (nI t) 4 := vp_in_nI ht (by decide)
  rw [po_9] at z5 z6
  rw [pu_9] at z6
  have hH := (z7 (by decide) (by decide) (by decide)).2
  rw [po_9, pu_9] at hH
  obtain ⟨g, rfl⟩ : ∃ g, h = g + 1 + 1 := ⟨h - 2, by omega⟩
  rw [show g + 1 + 1 - 2 + 1 = g + 1 by omega] at hH
  refine ⟨(q, tn, sl, pc, wp, he, co, ca, cb, fs, fc, ts, upd tu t (tu t + 1), ux, tl, ul, tm, gc, ga, gp, ss, st, sf, tc, tr, ow, ti, fd, ft, fk, upd fn (6 * k + (d - 1)) (nI (i + 1)), upd (upd (upd fh (6 * k + (d - 1)) (nI (g + 1))) (6 * k + (d - 1)) (nI g)) (6 * k + (d - 1)) (nI (g + 1)), fl, upd fv (8 * (6 * k + (d - 1)) + g) (cm_v 9 (fv (8 * (6 * k + (d - 1)) + g)) (fv (8 * (6 * k + (d - 1)) + (g + 1)))), rs, nt), (q, wp, tn, sl, yd, nd, co, ca, cb, le, he, kl, upd tu t (tu t + 1), uy, tl, ul, tm, gc, ga, gp, ss, st, sf, fd, tc, tr, ow, ti, ft, upd fn (6 * k + (d - 1)) (nI (i + 1)), upd (upd (upd fh (6 * k + (d - 1)) (nI (g + 1))) (6 * k + (d - 1)) (nI g)) (6 * k + (d - 1)) (nI (g + 1)), fp, fz, fl, upd fv (8 * (6 * k + (d - 1)) + g) (cm_v 9 (fv (8 * (6 * k + (d - 1)) + g)) (fv (8 * (6 * k + (d - 1)) + (g + 1)))), rs, au), pr_top (i' := i + 1) (h' := g + 1) G (rc_up C) (fun y hy => pk_un hy) pk_us (fun y hy => by rw [pk_un hy, pk_un hy, pk_un hy]) pk_us hH hV (Or.inl ⟨hsl, htc, hyd⟩), Or.inl (fun post hp => ?_), fun post hp => ?_⟩
  · exact xl_cv _ B (by decide) (fun post' hq => xc_9 hx efh (by omega) hq) hp
  · exact yl_sc _ B hn hl (by decide) (fun post' hq => yc_9 hx efh (by omega) hq) hp
theorem sx_10 {M : Nat} {H : Nat → Nat → Nat → Prop} {k s d t i h n c : Nat} (G : sg_R M H k s d t i h 10 n c q tn sl pc wp yd nd he co ca cb fs fc ts tu ux tl ul tm gc ga gp ss st sf tc tr ow ti fd ft fk fn fh fl fv rs nt le kl uy fp fz au) : sr_R M k s (q, tn, sl, pc, wp, he, co, ca, cb, fs, fc, ts, tu, ux, tl, ul, tm, gc, ga, gp, ss, st, sf, tc, tr, ow, ti, fd, ft, fk, fn, fh, fl, fv, rs, nt) (q, wp, tn, sl, yd, nd, co, ca, cb, le, he, kl, tu, uy, tl, ul, tm, gc, ga, gp, ss, st, sf, fd, tc, tr, ow, ti, ft, fn, fh, fp, fz, fl, fv, rs, au) := by
  have G' := G
  obtain ⟨C, htn, hsl, hyd, htc, B, hlo, hO, hK, hV, hn, hl, hh8, hle, hn64, hfc, hc4, z1, z2, z3, z4, z5, z6, z7, z8⟩ := G'
  have hk := B.1
  have hd0 := B.2.1
  have hd6 := B.2.2.1
  have ed := B.2.2.2.1
  have ht := B.2.2.2.2.1
  have eft := B.2.2.2.2.2.1
  have efh := B.2.2.2.2.2.2.2.1
  have hx : 6 * k + (d - 1) < 36 := by omega
  have ex : (nI (6 * k + (d - 1))).toNatClampNeg = 6 * k + (d - 1) := nI_clamp (by omega)
  have vx : vp_in (nI (6 * k + (d - 1))) 36 := vp_in_nI hx (by decide)
  have et : (nI t).toNatClampNeg = t := nI_clamp (by omega)
  have vt : vp_in (nI t) 4 := vp_in_nI ht (by decide)
  rw [po_10] at z5 z6
  rw [pu_10] at z6
  have hH := (z7 (by decide) (by decide) (by decide)).2
  rw [po_10, pu_10] at hH
  rw [show h - 0 + 1 = h + 1 by omega] at hH
  obtain ⟨p, hp4, ea⟩ := z1 (by decide)
  refine ⟨(q, tn, sl, pc, wp, he, co, ca, cb, fs, fc, ts, upd tu t (tu t + 1), ux, tl, ul, tm, gc, ga, gp, ss, st, sf, tc, tr, ow, ti, fd, ft, fk, upd fn (6 * k + (d - 1)) (nI (i + 1)), upd fh (6 * k + (d - 1)) (nI (h + 1)), fl, upd fv (8 * (6 * k + (d - 1)) + h) (fl (4 * (6 * k + (d - 1)) + p)), rs, nt), (q, wp, tn, sl, yd, nd, co, ca, cb, le, he, kl, upd tu t (tu t + 1), uy, tl, ul, tm, gc, ga, gp, ss, st, sf, fd, tc, tr, ow, ti, ft, upd fn (6 * k + (d - 1)) (nI (i + 1)), upd fh (6 * k + (d - 1)) (nI (h + 1)), fp, fz, fl, upd fv (8 * (6 * k + (d - 1)) + h) (fl (4 * (6 * k + (d - 1)) + p)), rs, au), pr_top (i' := i + 1) (h' := h + 1) G (rc_up C) (fun y hy => pk_un hy) pk_us (fun y hy => by rw [pk_un hy]) pk_us hH hV (Or.inl ⟨hsl, htc, hyd⟩), Or.inl (fun post hp => ?_), fun post hp => ?_⟩
  · exact xl_cv _ B (by decide) (fun post' hq => by rw [ea]; exact xc_10 hx efh (by omega) hp4 hq) hp
  · exact yl_sc _ B hn hl (by decide) (fun post' hq => by rw [ea]; exact yc_10 hx efh (by omega) hp4 hq) hp
theorem sx_11 {M : Nat} {H : Nat → Nat → Nat → Prop} {k s d t i h n c : Nat} (G : sg_R M H k s d t i h 11 n c q tn sl pc wp yd nd he co ca cb fs fc ts tu ux tl ul tm gc ga gp ss st sf tc tr ow ti fd ft fk fn fh fl fv rs nt le kl uy fp fz au) : sr_R M k s (q, tn, sl, pc, wp, he, co, ca, cb, fs, fc, ts, tu, ux, tl, ul, tm, gc, ga, gp, ss, st, sf, tc, tr, ow, ti, fd, ft, fk, fn, fh, fl, fv, rs, nt) (q, wp, tn, sl, yd, nd, co, ca, cb, le, he, kl, tu, uy, tl, ul, tm, gc, ga, gp, ss, st, sf, fd, tc, tr, ow, ti, ft, fn, fh, fp, fz, fl, fv, rs, au) := by
  have G' := G
  obtain ⟨C, htn, hsl, hyd, htc, B, hlo, hO, hK, hV, hn, hl, hh8, hle, hn64, hfc, hc4, z1, z2, z3, z4, z5, z6, z7, z8⟩ := G'
  have hk := B.1
  have hd0 := B.2.1
  have hd6 := B.2.2.1
  have ed := B.2.2.2.1
  have ht := B.2.2.2.2.1
  have eft := B.2.2.2.2.2.1
  have efh := B.2.2.2.2.2.2.2.1
  have hx : 6 * k + (d - 1) < 36 := by omega
  have ex : (nI (6 * k + (d - 1))).toNatClampNeg = 6 * k + (d - 1) := nI_clamp (by omega)
  have vx : vp_in (nI (6 * k + (d - 1))) 36 := vp_in_nI hx (by decide)
  have et : (nI t).toNatClampNeg = t := nI_clamp (by omega)
  have vt : vp_in (nI t) 4 := vp_in_nI ht (by decide)
  rw [po_11] at z5 z6
  rw [pu_11] at z6
  have hH := (z7 (by decide) (by decide) (by decide)).2
  rw [po_11, pu_11] at hH
  obtain ⟨g, rfl⟩ : ∃ g, h = g + 1 := ⟨h - 1, by omega⟩
  rw [show g + 1 - 1 + 0 = g by omega] at hH
  obtain ⟨p, hp4, ea⟩ := z1 (by decide)
  refine ⟨(q, tn, sl, pc, wp, he, co, ca, cb, fs, fc, ts, upd tu t (tu t + 1), ux, tl, ul, tm, gc, ga, gp, ss, st, sf, tc, tr, ow, ti, fd, ft, fk, upd fn (6 * k + (d - 1)) (nI (i + 1)), upd fh (6 * k + (d - 1)) (nI g), upd fl (4 * (6 * k + (d - 1)) + p) (fv (8 * (6 * k + (d - 1)) + g)), fv, rs, nt), (q, wp, tn, sl, yd, nd, co, ca, cb, le, he, kl, upd tu t (tu t + 1), uy, tl, ul, tm, gc, ga, gp, ss, st, sf, fd, tc, tr, ow, ti, ft, upd fn (6 * k + (d - 1)) (nI (i + 1)), upd fh (6 * k + (d - 1)) (nI g), fp, fz, upd fl (4 * (6 * k + (d - 1)) + p) (fv (8 * (6 * k + (d - 1)) + g)), fv, rs, au), pr_top (i' := i + 1) (h' := g) G (rc_up C) (fun y hy => pk_un hy) pk_us (fun y hy => by rw [pk_un hy]) pk_us hH hV (Or.inl ⟨hsl, htc, hyd⟩), Or.inl (fun post hp => ?_), fun post hp => ?_⟩
  · exact xl_cv _ B (by decide) (fun post' hq => by rw [ea]; exact xc_11 hx efh (by omega) hp4 hq) hp
  · exact yl_sc _ B hn hl (by decide) (fun post' hq => by rw [ea]; exact yc_11 hx efh (by omega) hp4 hq) hp
theorem sx_12 {M : Nat} {H : Nat → Nat → Nat → Prop} {k s d t i h n c : Nat} (G : sg_R M H k s d t i h 12 n c q tn sl pc wp yd nd he co ca cb fs fc ts tu ux tl ul tm gc ga gp ss st sf tc tr ow ti fd ft fk fn fh fl fv rs nt le kl uy fp fz au) : sr_R M k s (q, tn, sl, pc, wp, he, co, ca, cb, fs, fc, ts, tu, ux, tl, ul, tm, gc, ga, gp, ss, st, sf, tc, tr, ow, ti, fd, ft, fk, fn, fh, fl, fv, rs, nt) (q, wp, tn, sl, yd, nd, co, ca, cb, le, he, kl, tu, uy, tl, ul, tm, gc, ga, gp, ss, st, sf, fd, tc, tr, ow, ti, ft, fn, fh, fp, fz, fl, fv, rs, au) := by
  have G' := G
  obtain ⟨C, htn, hsl, hyd, htc, B, hlo, hO, hK, hV, hn, hl, hh8, hle, hn64, hfc, hc4, z1, z2, z3, z4, z5, z6, z7, z8⟩ := G'
  have hk := B.1
  have hd0 := B.2.1
  have hd6 := B.2.2.1
  have ed := B.2.2.2.1
  have ht := B.2.2.2.2.1
  have eft := B.2.2.2.2.2.1
  have efh := B.2.2.2.2.2.2.2.1
  have hx : 6 * k + (d - 1) < 36 := by omega
  have ex : (nI (6 * k + (d - 1))).toNatClampNeg = 6 * k + (d - 1) := nI_clamp (by omega)
  have vx : vp_in (nI (6 * k + (d - 1))) 36 := vp_in_nI hx (by decide)
  have et : (nI t).toNatClampNeg = t := nI_clamp (by omega)
  have vt : vp_in (nI t) 4 := vp_in_nI ht (by decide)
  rw [po_12] at z5 z6
  rw [pu_12] at z6
  obtain ⟨j, ea, hH⟩ := z8 (by decide)
  rw [po_12, pu_12, show h - 0 + 0 = h by omega] at hH
  refine ⟨(q, tn, sl, pc, wp, he, co, ca, cb, fs, fc, ts, upd tu t (tu t + 1), ux, tl, ul, tm, gc, ga, gp, ss, st, sf, tc, tr, ow, ti, fd, ft, fk, upd (upd fn (6 * k + (d - 1)) (nI (i + 1))) (6 * k + (d - 1)) (ca (64 * t + i)), fh, fl, fv, rs, nt), (q, wp, tn, sl, yd, nd, co, ca, cb, le, he, kl, upd tu t (tu t + 1), uy, tl, ul, tm, gc, ga, gp, ss, st, sf, fd, tc, tr, ow, ti, ft, upd (upd fn (6 * k + (d - 1)) (nI (i + 1))) (6 * k + (d - 1)) (ca (64 * t + i)), fh, fp, fz, fl, fv, rs, au), pr_top (i' := j) (h' := h) G (rc_up C) (fun y hy => by rw [pk_un hy, pk_un hy]) (by rw [pk_us, ea]) (fun _ _ => rfl) efh hH hV (Or.inl ⟨hsl, htc, hyd⟩), Or.inl (fun post hp => ?_), fun post hp => ?_⟩
  · exact xe_12 B hp
  · exact yl_sc _ B hn hl (by decide) (fun post' hq => yc_12 hx hq) hp
theorem sx_13 {M : Nat} {H : Nat → Nat → Nat → Prop} {k s d t i h n c : Nat} (G : sg_R M H k s d t i h 13 n c q tn sl pc wp yd nd he co ca cb fs fc ts tu ux tl ul tm gc ga gp ss st sf tc tr ow ti fd ft fk fn fh fl fv rs nt le kl uy fp fz au) : sr_R M k s (q, tn, sl, pc, wp, he, co, ca, cb, fs, fc, ts, tu, ux, tl, ul, tm, gc, ga, gp, ss, st, sf, tc, tr, ow, ti, fd, ft, fk, fn, fh, fl, fv, rs, nt) (q, wp, tn, sl, yd, nd, co, ca, cb, le, he, kl, tu, uy, tl, ul, tm, gc, ga, gp, ss, st, sf, fd, tc, tr, ow, ti, ft, fn, fh, fp, fz, fl, fv, rs, au) := by
  have G' := G
  obtain ⟨C, htn, hsl, hyd, htc, B, hlo, hO, hK, hV, hn, hl, hh8, hle, hn64, hfc, hc4, z1, z2, z3, z4, z5, z6, z7, z8⟩ := G'
  have hk := B.1
  have hd0 := B.2.1
  have hd6 := B.2.2.1
  have ed := B.2.2.2.1
  have ht := B.2.2.2.2.1
  have eft := B.2.2.2.2.2.1
  have efh := B.2.2.2.2.2.2.2.1
  have hx : 6 * k + (d - 1) < 36 := by omega
  have ex : (nI (6 * k + (d - 1))).toNatClampNeg = 6 * k + (d - 1) := nI_clamp (by omega)
  have vx : vp_in (nI (6 * k + (d - 1))) 36 := vp_in_nI hx (by decide)
  have et : (nI t).toNatClampNeg = t := nI_clamp (by omega)
  have vt : vp_in (nI t) 4 := vp_in_nI ht (by decide)
  rw [po_13] at z5 z6
  rw [pu_13] at z6
  obtain ⟨j, ea, hJ⟩ := z8 (by decide)
  have hH := (z7 (by decide) (by decide) (by decide)).2
  rw [po_13, pu_13, show h - 1 + 0 = h - 1 by omega] at hH hJ
  have efh' : fh (6 * k + (d - 1)) = nI (h - 1 + 1) := by rw [efh]; exact congrArg nI (by omega)
  by_cases c : fv (8 * (6 * k + (d - 1)) + (h - 1)) = 0
  · refine ⟨(q, tn, sl, pc, wp, he, co, ca, cb, fs, fc, ts, upd tu t (tu t + 1), ux, tl, ul, tm, gc, ga, gp, ss, st, sf, tc, tr, ow, ti, fd, ft, fk, upd (upd fn (6 * k + (d - 1)) (nI (i + 1))) (6 * k + (d - 1)) (ca (64 * t + i)), upd fh (6 * k + (d - 1)) (nI (h - 1)), fl, fv, rs, nt), (q, wp, tn, sl, yd, nd, co, ca, cb, le, he, kl, upd tu t (tu t + 1), uy, tl, ul, tm, gc, ga, gp, ss, st, sf, fd, tc, tr, ow, ti, ft, upd (upd fn (6 * k + (d - 1)) (nI (i + 1))) (6 * k + (d - 1)) (ca (64 * t + i)), upd fh (6 * k + (d - 1)) (nI (h - 1)), fp, fz, fl, fv, rs, au), pr_top (i' := j) (h' := h - 1) G (rc_up C) (fun y hy => by rw [pk_un hy, pk_un hy]) (by rw [pk_us, ea]) (fun y hy => pk_un hy) pk_us hJ hV (Or.inl ⟨hsl, htc, hyd⟩), Or.inl (fun post hp => ?_), fun post hp => ?_⟩
    · exact xe_13 B (by omega) hh8 (fun _ => hp) (fun z => absurd c z)
    · exact yl_sc _ B hn hl (by decide) (fun post' hq => yc_13 hx efh' (by omega) (fun _ => hq) (fun z => absurd c z)) hp
  · refine ⟨(q, tn, sl, pc, wp, he, co, ca, cb, fs, fc, ts, upd tu t (tu t + 1), ux, tl, ul, tm, gc, ga, gp, ss, st, sf, tc, tr, ow, ti, fd, ft, fk, upd fn (6 * k + (d - 1)) (nI (i + 1)), upd fh (6 * k + (d - 1)) (nI (h - 1)), fl, fv, rs, nt), (q, wp, tn, sl, yd, nd, co, ca, cb, le, he, kl, upd tu t (tu t + 1), uy, tl, ul, tm, gc, ga, gp, ss, st, sf, fd, tc, tr, ow, ti, ft, upd fn (6 * k + (d - 1)) (nI (i + 1)), upd fh (6 * k + (d - 1)) (nI (h - 1)), fp, fz, fl, fv, rs, au), pr_top (i' := i + 1) (h' := h - 1) G (rc_up C) (fun y hy => pk_un hy) pk_us (fun y hy => pk_un hy) pk_us hH hV (Or.inl ⟨hsl, htc, hyd⟩), Or.inl (fun post hp => ?_), fun post hp => ?_⟩
    · exact xe_13 B (by omega) hh8 (fun z => absurd z c) (fun _ => hp)
    · exact yl_sc _ B hn hl (by decide) (fun post' hq => yc_13 hx efh' (by omega) (fun z => absurd z c) (fun _ => hq)) hp
theorem yl_ac {post : SY → Prop} {k x t h o : Nat} {a : Int32} (hx : x < 36) (eft : ft x = nI t) (ho : o ≠ 23) (ho24 : o < 24) (hh : fh x = nI (h + 1)) (h8 : h < 8) (hp : wY_act_23 post (nI k) (nI x) (nI o) a (nI t) (fv (8 * x + h)) q wp tn sl yd nd co ca cb le he kl tu uy tl ul tm gc ga gp ss st sf fd tc tr ow ti ft fn (upd fh x (nI h)) fp fz fl fv rs au) : wpY_act post (q, wp, tn, sl, yd, nd, co, ca, cb, le, he, kl, tu, uy, tl, ul, tm, gc, ga, gp, ss, st, sf, fd, tc, tr, ow, ti, ft, fn, fh, fp, fz, fl, fv, rs, au) (nI k) (nI x) (nI o) a := by
  have ex : (nI x).toNatClampNeg = x := nI_clamp (by omega)
  exact ⟨vp_in_nI hx (by decide), nm_r (e' := nI t) (by rw [ex, eft]) (br_f (ix_ne 23 rfl ho (by omega) (by decide)) (yl_pop (h := h) hx hh h8 hp))⟩
theorem sg_nf {M : Nat} {H : Nat → Nat → Nat → Prop} {k s d t i h n c : Nat} {o : Nat} (G : sg_R M H k s d t i h o n c q tn sl pc wp yd nd he co ca cb fs fc ts tu ux tl ul tm gc ga gp ss st sf tc tr ow ti fd ft fk fn fh fl fv rs nt le kl uy fp fz au) : ¬ nf_t fd ft t := by
  obtain ⟨C, htn, hsl, hyd, htc, ⟨hk, hd0, hd6, ed, ht, eft, q⟩, g⟩ := G
  exact fun z => z k hk d hd6 ed (d - 1) (by omega) eft
theorem sx_23 {M : Nat} {H : Nat → Nat → Nat → Prop} {k s d t i h n c : Nat} (G : sg_R M H k s d t i h 23 n c q tn sl pc wp yd nd he co ca cb fs fc ts tu ux tl ul tm gc ga gp ss st sf tc tr ow ti fd ft fk fn fh fl fv rs nt le kl uy fp fz au) : sr_R M k s (q, tn, sl, pc, wp, he, co, ca, cb, fs, fc, ts, tu, ux, tl, ul, tm, gc, ga, gp, ss, st, sf, tc, tr, ow, ti, fd, ft, fk, fn, fh, fl, fv, rs, nt) (q, wp, tn, sl, yd, nd, co, ca, cb, le, he, kl, tu, uy, tl, ul, tm, gc, ga, gp, ss, st, sf, fd, tc, tr, ow, ti, ft, fn, fh, fp, fz, fl, fv, rs, au) := by
  have G' := G
  obtain ⟨C, htn, hsl, hyd, htc, B, hlo, hO, hK, hV, hn, hl, hh8, hle, hn64, hfc, hc4, z1, z2, z3, z4, z5, z6, z7, z8⟩ := G'
  have hk := B.1
  have hd0 := B.2.1
  have hd6 := B.2.2.1
  have ed := B.2.2.2.1
  have ht := B.2.2.2.2.1
  have eft := B.2.2.2.2.2.1
  have efh := B.2.2.2.2.2.2.2.1
  have hx : 6 * k + (d - 1) < 36 := by omega
  have ex : (nI (6 * k + (d - 1))).toNatClampNeg = 6 * k + (d - 1) := nI_clamp (by omega)
  have vx : vp_in (nI (6 * k + (d - 1))) 36 := vp_in_nI hx (by decide)
  have et : (nI t).toNatClampNeg = t := nI_clamp (by omega)
  have vt : vp_in (nI t) 4 := vp_in_nI ht (by decide)
  rw [po_23] at z5 z6
  rw [pu_23] at z6
  have hH := (z7 (by decide) (by decide) (by decide)).2
  rw [po_23, pu_23, show h - 0 + 0 = h by omega] at hH
  refine ⟨(q, tn, 0, pc, wp, he, co, ca, cb, fs, fc, ts, upd tu t (tu t + 1), ux, tl, ul, tm, gc, ga, gp, ss, st, sf, tc, tr, ow, ti, fd, ft, fk, upd fn (6 * k + (d - 1)) (nI (i + 1)), fh, fl, fv, rs, nt), (q, wp, tn, sl, 1, nd, co, ca, cb, le, he, kl, upd tu t (tu t + 1), uy, tl, ul, tm, gc, ga, gp, ss, st, sf, fd, tc, tr, ow, ti, ft, upd fn (6 * k + (d - 1)) (nI (i + 1)), fh, fp, fz, fl, fv, rs, au), pr_top (i' := i + 1) (h' := h) G (rc_up C) (fun y hy => pk_un hy) pk_us (fun _ _ => rfl) efh hH hV (Or.inr ⟨rfl, Or.inr (by decide)⟩), Or.inl (fun post hp => ?_), fun post hp => ?_⟩
  · exact xe_23 B hp
  · exact yl_sa _ B hn hl (by decide) (by decide) (fun post' hq => ⟨vx, nm_e (br_t rfl (br_f (by decide) (br_t (by decide) hq)))⟩) hp
theorem xl_al {post : SX → Prop} {x t h : Nat} (hx : x < 36) (ht : t < 4) (eft : ft x = nI t) (hh : fh x = nI (h + 1)) (h8 : h < 8)
    (hp1 : ¬ fv (8 * x + h) < 0 → ¬ (ul t).toInt64 < (ux t).toInt64 + (fv (8 * x + h)).toInt64 → post (q, tn, sl, pc, wp, he, co, ca, cb, fs, fc, ts, tu, upd ux t (ux t + fv (8 * x + h)), tl, ul, tm, gc, ga, gp, ss, st, sf, tc, tr, ow, ti, fd, ft, fk, fn, upd (upd fh x (nI h)) x (nI (h + 1)), fl, upd fv (8 * x + h) 1, rs, nt))
    (hp0 : (fv (8 * x + h) < 0 ∨ (ul t).toInt64 < (ux t).toInt64 + (fv (8 * x + h)).toInt64) → post (q, tn, sl, pc, wp, he, co, ca, cb, fs, fc, ts, tu, ux, tl, ul, tm, gc, ga, gp, ss, st, sf, tc, tr, ow, ti, fd, ft, fk, fn, upd (upd fh x (nI h)) x (nI (h + 1)), fl, upd fv (8 * x + h) 0, rs, nt)) : wpX_allocUnits post (q, tn, sl, pc, wp, he, co, ca, cb, fs, fc, ts, tu, ux, tl, ul, tm, gc, ga, gp, ss, st, sf, tc, tr, ow, ti, fd, ft, fk, fn, fh, fl, fv, rs, nt) (nI x) := by
  have ex : (nI x).toNatClampNeg = x := nI_clamp (by omega)
  have vx : vp_in (nI x) 36 := vp_in_nI hx (by decide)
  have et : (nI t).toNatClampNeg = t := nI_clamp (by omega)
  have vt : vp_in (nI t) 4 := vp_in_nI ht (by decide)
  have q0 : ∀ w : Int64, (fv (8 * x + h) < 0 ∨ (ul t).toInt64 < (ux t).toInt64 + (fv (8 * x + h)).toInt64) → wX_allocUnits_46 post (nI x) (nI t) w q tn sl pc wp he co ca cb fs fc ts tu ux tl ul tm gc ga gp ss st sf tc tr ow ti fd ft fk fn (upd fh x (nI h)) fl fv rs nt := by
    intro w z
    unfold wX_allocUnits_46
    refine br_t rfl (br_t rfl ?_)
    unfold wX_allocUnits_75
    exact xl_push (h := h) hx pk_us (by omega) (hp0 z)
  refine ⟨vx, nm_r (e' := nI t) (by rw [ex, eft]) (xl_pop (h := h) hx hh h8 ⟨vt, nm_e ?_⟩)⟩
  rw [et]
  by_cases c1 : fv (8 * x + h) < 0
  · exact br_t c1 (q0 _ (Or.inl c1))
  · by_cases c2 : (ul t).toInt64 < (ux t).toInt64 + (fv (8 * x + h)).toInt64
    · exact br_f c1 ⟨vt, br_t c2 (q0 _ (Or.inr c2))⟩
    · refine br_f c1 ⟨vt, br_f c2 (br_f (by decide) ⟨vt, nm_r (e' := upd ux t (ux t + fv (8 * x + h))) (by rw [et, ix_ai]) (br_f (by decide) ?_)⟩)⟩
      unfold wX_allocUnits_75
      exact xl_push (h := h) hx pk_us (by omega) (hp1 c1 c2)
theorem yl_al {post : SY → Prop} {k x t h : Nat} {a : Int32} (hx : x < 36) (ht : t < 4) (eft : ft x = nI t) (hh : fh x = nI (h + 1)) (h8 : h < 8)
    (hp1 : ¬ fv (8 * x + h) < 0 → ¬ (ul t).toInt64 < (uy t).toInt64 + (fv (8 * x + h)).toInt64 → post (q, wp, tn, sl, yd, nd, co, ca, cb, le, he, kl, tu, upd uy t (uy t + fv (8 * x + h)), tl, ul, tm, gc, ga, gp, ss, st, sf, fd, tc, tr, ow, ti, ft, fn, upd (upd fh x (nI h)) x (nI (h + 1)), fp, fz, fl, upd fv (8 * x + h) 1, rs, au))
    (hp0 : (fv (8 * x + h) < 0 ∨ (ul t).toInt64 < (uy t).toInt64 + (fv (8 * x + h)).toInt64) → post (q, wp, tn, sl, yd, nd, co, ca, cb, le, he, kl, tu, uy, tl, ul, tm, gc, ga, gp, ss, st, sf, fd, tc, tr, ow, ti, ft, fn, upd (upd fh x (nI h)) x (nI (h + 1)), fp, fz, fl, upd fv (8 * x + h) 0, rs, au)) : wpY_act post (q, wp, tn, sl, yd, nd, co, ca, cb, le, he, kl, tu, uy, tl, ul, tm, gc, ga, gp, ss, st, sf, fd, tc, tr, ow, ti, ft, fn, fh, fp, fz, fl, fv, rs, au) (nI k) (nI x) (nI 19) a := by
  have et : (nI t).toNatClampNeg = t := nI_clamp (by omega)
  have vt : vp_in (nI t) 4 := vp_in_nI ht (by decide)
  have q0 : (fv (8 * x + h) < 0 ∨ (ul t).toInt64 < (uy t).toInt64 + (fv (8 * x + h)).toInt64) → wY_act_210 post (nI x) (nI t) (fv (8 * x + h)) q wp tn sl yd nd co ca cb le he kl tu uy tl ul tm gc ga gp ss st sf fd tc tr ow ti ft fn (upd fh x (nI h)) fp fz fl fv rs au := by
    intro z
    unfold wY_act_210
    refine br_t rfl (br_t rfl ?_)
    unfold wY_act_242
    exact yl_push (h := h) hx pk_us (by omega) (hp0 z)
  refine yl_ac (h := h) hx eft (by decide) (by decide) hh h8 ?_
  refine br_f (by decide) (br_f (by decide) (br_f (by decide) (br_f (by decide) (br_f (by decide) (br_f (by decide) (br_f (by decide) (br_t (by decide) (?_))))))))
  by_cases c1 : fv (8 * x + h) < 0
  · exact br_t c1 (q0 (Or.inl c1))
  · by_cases c2 : (ul t).toInt64 < (uy t).toInt64 + (fv (8 * x + h)).toInt64
    · exact br_f c1 ⟨vt, vt, br_t (by rw [et]; exact c2) (q0 (Or.inr c2))⟩
    · refine br_f c1 ⟨vt, vt, br_f (by rw [et]; exact c2) (br_f (by decide) ⟨vt, vt, nm_r (e' := upd uy t (uy t + fv (8 * x + h))) (by rw [et]) (br_f (by decide) ?_)⟩)⟩
      unfold wY_act_242
      exact yl_push (h := h) hx pk_us (by omega) (hp1 c1 c2)
theorem sx_19 {M : Nat} {H : Nat → Nat → Nat → Prop} {k s d t i h n c : Nat} (G : sg_R M H k s d t i h 19 n c q tn sl pc wp yd nd he co ca cb fs fc ts tu ux tl ul tm gc ga gp ss st sf tc tr ow ti fd ft fk fn fh fl fv rs nt le kl uy fp fz au) : sr_R M k s (q, tn, sl, pc, wp, he, co, ca, cb, fs, fc, ts, tu, ux, tl, ul, tm, gc, ga, gp, ss, st, sf, tc, tr, ow, ti, fd, ft, fk, fn, fh, fl, fv, rs, nt) (q, wp, tn, sl, yd, nd, co, ca, cb, le, he, kl, tu, uy, tl, ul, tm, gc, ga, gp, ss, st, sf, fd, tc, tr, ow, ti, ft, fn, fh, fp, fz, fl, fv, rs, au) := by
  have G' := G
  obtain ⟨C, htn, hsl, hyd, htc, B, hlo, hO, hK, hV, hn, hl, hh8, hle, hn64, hfc, hc4, z1, z2, z3, z4, z5, z6, z7, z8⟩ := G'
  have hk := B.1
  have hd0 := B.2.1
  have hd6 := B.2.2.1
  have ed := B.2.2.2.1
  have ht := B.2.2.2.2.1
  have eft := B.2.2.2.2.2.1
  have efh := B.2.2.2.2.2.2.2.1
  have hx : 6 * k + (d - 1) < 36 := by omega
  have ex : (nI (6 * k + (d - 1))).toNatClampNeg = 6 * k + (d - 1) := nI_clamp (by omega)
  have vx : vp_in (nI (6 * k + (d - 1))) 36 := vp_in_nI hx (by decide)
  have et : (nI t).toNatClampNeg = t := nI_clamp (by omega)
  have vt : vp_in (nI t) 4 := vp_in_nI ht (by decide)
  rw [po_19] at z5 z6
  rw [pu_19] at z6
  have hH := (z7 (by decide) (by decide) (by decide)).2
  rw [po_19, pu_19] at hH
  obtain ⟨g, rfl⟩ : ∃ g, h = g + 1 := ⟨h - 1, by omega⟩
  rw [show g + 1 - 1 + 1 = g + 1 by omega] at hH
  have eu : ux t = uy t := hV t ht (fun z => sg_nf G z.2)
  by_cases cc : ¬ fv (8 * (6 * k + (d - 1)) + g) < 0 ∧ ¬ (ul t).toInt64 < (ux t).toInt64 + (fv (8 * (6 * k + (d - 1)) + g)).toInt64
  · refine ⟨(q, tn, sl, pc, wp, he, co, ca, cb, fs, fc, ts, upd tu t (tu t + 1), upd ux t (ux t + fv (8 * (6 * k + (d - 1)) + g)), tl, ul, tm, gc, ga, gp, ss, st, sf, tc, tr, ow, ti, fd, ft, fk, upd fn (6 * k + (d - 1)) (nI (i + 1)), upd (upd fh (6 * k + (d - 1)) (nI g)) (6 * k + (d - 1)) (nI (g + 1)), fl, upd fv (8 * (6 * k + (d - 1)) + g) 1, rs, nt), (q, wp, tn, sl, yd, nd, co, ca, cb, le, he, kl, upd tu t (tu t + 1), upd uy t (uy t + fv (8 * (6 * k + (d - 1)) + g)), tl, ul, tm, gc, ga, gp, ss, st, sf, fd, tc, tr, ow, ti, ft, upd fn (6 * k + (d - 1)) (nI (i + 1)), upd (upd fh (6 * k + (d - 1)) (nI g)) (6 * k + (d - 1)) (nI (g + 1)), fp, fz, fl, upd fv (8 * (6 * k + (d - 1)) + g) 1, rs, au), pr_top (i' := i + 1) (h' := g + 1) G (rc_up C) (fun y hy => pk_un hy) pk_us (fun y hy => by rw [pk_un hy, pk_un hy]) pk_us hH ?_ (Or.inl ⟨hsl, htc, hyd⟩), Or.inl (fun post hp => ?_), fun post hp => ?_⟩
    · intro s' hs' z
      by_cases cs : s' = t
      · subst cs; rw [pk_us, pk_us, eu]
      · rw [pk_un cs, pk_un cs]; exact hV s' hs' z
    · exact xe_19 B _ (fun post' hq => xl_al hx ht eft efh (by omega) (fun _ _ => hq) (fun z => absurd z (fun y => y.elim cc.1 cc.2))) hp
    · exact yl_sa _ B hn hl (by decide) (by decide) (fun post' hq => yl_al hx ht eft efh (by omega) (fun _ _ => hq) (fun z => absurd z (fun y => y.elim cc.1 (by rw [← eu]; exact cc.2)))) hp
  · have cor : fv (8 * (6 * k + (d - 1)) + g) < 0 ∨ (ul t).toInt64 < (ux t).toInt64 + (fv (8 * (6 * k + (d - 1)) + g)).toInt64 := by
      by_cases c1 : fv (8 * (6 * k + (d - 1)) + g) < 0
      · exact Or.inl c1
      · exact Or.inr (Classical.byContradiction (fun c2 => cc ⟨c1, c2⟩))
    refine ⟨(q, tn, sl, pc, wp, he, co, ca, cb, fs, fc, ts, upd tu t (tu t + 1), ux, tl, ul, tm, gc, ga, gp, ss, st, sf, tc, tr, ow, ti, fd, ft, fk, upd fn (6 * k + (d - 1)) (nI (i + 1)), upd (upd fh (6 * k + (d - 1)) (nI g)) (6 * k + (d - 1)) (nI (g + 1)), fl, upd fv (8 * (6 * k + (d - 1)) + g) 0, rs, nt), (q, wp, tn, sl, yd, nd, co, ca, cb, le, he, kl, upd tu t (tu t + 1), uy, tl, ul, tm, gc, ga, gp, ss, st, sf, fd, tc, tr, ow, ti, ft, upd fn (6 * k + (d - 1)) (nI (i + 1)), upd (upd fh (6 * k + (d - 1)) (nI g)) (6 * k + (d - 1)) (nI (g + 1)), fp, fz, fl, upd fv (8 * (6 * k + (d - 1)) + g) 0, rs, au), pr_top (i' := i + 1) (h' := g + 1) G (rc_up C) (fun y hy => pk_un hy) pk_us (fun y hy => by rw [pk_un hy, pk_un hy]) pk_us hH hV (Or.inl ⟨hsl, htc, hyd⟩), Or.inl (fun post hp => ?_), fun post hp => ?_⟩
    · exact xe_19 B _ (fun post' hq => xl_al hx ht eft efh (by omega) (fun z1 z2 => absurd ⟨z1, z2⟩ cc) (fun _ => hq)) hp
    · exact yl_sa _ B hn hl (by decide) (by decide) (fun post' hq => yl_al hx ht eft efh (by omega) (fun z1 z2 => absurd ⟨z1, by rw [eu]; exact z2⟩ cc) (fun _ => hq)) hp
def fe_v (u w : Int32) : Int32 := if w ≤ u then u - w else 0
theorem fe_y {u w : Int32} : fe_v u w = if u ≤ w then 0 else u - w := by
  unfold fe_v
  by_cases c1 : w ≤ u
  · rw [if_pos c1]
    by_cases c2 : u ≤ w
    · rw [if_pos c2, Int32.le_antisymm c2 c1, Int32.sub_self]
    · rw [if_neg c2]
  · rw [if_neg c1]
    by_cases c2 : u ≤ w
    · rw [if_pos c2]
    · exact absurd (Int32.le_of_lt (Int32.not_le.mp c2)) c1
theorem xl_fe {post : SX → Prop} {x t h : Nat} (hx : x < 36) (ht : t < 4) (eft : ft x = nI t) (hh : fh x = nI (h + 1)) (h8 : h < 8)
    (hp1 : ¬ fv (8 * x + h) < 0 → post (q, tn, sl, pc, wp, he, co, ca, cb, fs, fc, ts, tu, upd ux t (fe_v (ux t) (fv (8 * x + h))), tl, ul, tm, gc, ga, gp, ss, st, sf, tc, tr, ow, ti, fd, ft, fk, fn, upd fh x (nI h), fl, fv, rs, nt))
    (hp0 : fv (8 * x + h) < 0 → post (q, tn, sl, pc, wp, he, co, ca, cb, fs, fc, ts, tu, ux, tl, ul, tm, gc, ga, gp, ss, st, sf, tc, tr, ow, ti, fd, ft, fk, fn, upd fh x (nI h), fl, fv, rs, nt)) : wpX_freeUnits post (q, tn, sl, pc, wp, he, co, ca, cb, fs, fc, ts, tu, ux, tl, ul, tm, gc, ga, gp, ss, st, sf, tc, tr, ow, ti, fd, ft, fk, fn, fh, fl, fv, rs, nt) (nI x) := by
  have ex : (nI x).toNatClampNeg = x := nI_clamp (by omega)
  have vx : vp_in (nI x) 36 := vp_in_nI hx (by decide)
  have et : (nI t).toNatClampNeg = t := nI_clamp (by omega)
  have vt : vp_in (nI t) 4 := vp_in_nI ht (by decide)
  refine ⟨vx, nm_r (e' := nI t) (by rw [ex, eft]) (xl_pop (h := h) hx hh h8 ?_)⟩
  by_cases c1 : fv (8 * x + h) < 0
  · exact br_t c1 (hp0 c1)
  · have hp := hp1 c1
    unfold fe_v at hp
    refine br_f c1 ⟨vt, ?_⟩
    rw [et]
    by_cases c2 : fv (8 * x + h) ≤ ux t
    · rw [if_pos c2] at hp
      exact br_t c2 ⟨vt, vt, nm_e hp⟩
    · rw [if_neg c2] at hp
      exact br_f c2 ⟨vt, nm_e hp⟩
theorem yl_fe {post : SY → Prop} {k x t h : Nat} {a : Int32} (hx : x < 36) (ht : t < 4) (eft : ft x = nI t) (hh : fh x = nI (h + 1)) (h8 : h < 8)
    (hp1 : ¬ fv (8 * x + h) < 0 → post (q, wp, tn, sl, yd, nd, co, ca, cb, le, he, kl, tu, upd uy t (fe_v (uy t) (fv (8 * x + h))), tl, ul, tm, gc, ga, gp, ss, st, sf, fd, tc, tr, ow, ti, ft, fn, upd fh x (nI h), fp, fz, fl, fv, rs, au))
    (hp0 : fv (8 * x + h) < 0 → post (q, wp, tn, sl, yd, nd, co, ca, cb, le, he, kl, tu, uy, tl, ul, tm, gc, ga, gp, ss, st, sf, fd, tc, tr, ow, ti, ft, fn, upd fh x (nI h), fp, fz, fl, fv, rs, au)) : wpY_act post (q, wp, tn, sl, yd, nd, co, ca, cb, le, he, kl, tu, uy, tl, ul, tm, gc, ga, gp, ss, st, sf, fd, tc, tr, ow, ti, ft, fn, fh, fp, fz, fl, fv, rs, au) (nI k) (nI x) (nI 20) a := by
  have et : (nI t).toNatClampNeg = t := nI_clamp (by omega)
  have vt : vp_in (nI t) 4 := vp_in_nI ht (by decide)
  refine yl_ac (h := h) hx eft (by decide) (by decide) hh h8 ?_
  refine br_f (by decide) (br_f (by decide) (br_f (by decide) (br_f (by decide) (br_f (by decide) (br_f (by decide) (br_f (by decide) (br_f (by decide) (br_t (by decide) (?_)))))))))
  by_cases c1 : fv (8 * x + h) < 0
  · exact br_t c1 (hp0 c1)
  · have hp := hp1 c1
    rw [fe_y] at hp
    refine br_f c1 ⟨vt, ?_⟩
    rw [et]
    by_cases c2 : uy t ≤ fv (8 * x + h)
    · rw [if_pos c2] at hp
      exact br_t c2 ⟨vt, nm_e hp⟩
    · rw [if_neg c2] at hp
      exact br_f c2 ⟨vt, vt, nm_e hp⟩
theorem sx_20 {M : Nat} {H : Nat → Nat → Nat → Prop} {k s d t i h n c : Nat} (G : sg_R M H k s d t i h 20 n c q tn sl pc wp yd nd he co ca cb fs fc ts tu ux tl ul tm gc ga gp ss st sf tc tr ow ti fd ft fk fn fh fl fv rs nt le kl uy fp fz au) : sr_R M k s (q, tn, sl, pc, wp, he, co, ca, cb, fs, fc, ts, tu, ux, tl, ul, tm, gc, ga, gp, ss, st, sf, tc, tr, ow, ti, fd, ft, fk, fn, fh, fl, fv, rs, nt) (q, wp, tn, sl, yd, nd, co, ca, cb, le, he, kl, tu, uy, tl, ul, tm, gc, ga, gp, ss, st, sf, fd, tc, tr, ow, ti, ft, fn, fh, fp, fz, fl, fv, rs, au) := by
  have G' := G
  obtain ⟨C, htn, hsl, hyd, htc, B, hlo, hO, hK, hV, hn, hl, hh8, hle, hn64, hfc, hc4, z1, z2, z3, z4, z5, z6, z7, z8⟩ := G'
  have hk := B.1
  have hd0 := B.2.1
  have hd6 := B.2.2.1
  have ed := B.2.2.2.1
  have ht := B.2.2.2.2.1
  have eft := B.2.2.2.2.2.1
  have efh := B.2.2.2.2.2.2.2.1
  have hx : 6 * k + (d - 1) < 36 := by omega
  have ex : (nI (6 * k + (d - 1))).toNatClampNeg = 6 * k + (d - 1) := nI_clamp (by omega)
  have vx : vp_in (nI (6 * k + (d - 1))) 36 := vp_in_nI hx (by decide)
  have et : (nI t).toNatClampNeg = t := nI_clamp (by omega)
  have vt : vp_in (nI t) 4 := vp_in_nI ht (by decide)
  rw [po_20] at z5 z6
  rw [pu_20] at z6
  have hH := (z7 (by decide) (by decide) (by decide)).2
  rw [po_20, pu_20] at hH
  obtain ⟨g, rfl⟩ : ∃ g, h = g + 1 := ⟨h - 1, by omega⟩
  rw [show g + 1 - 1 + 0 = g by omega] at hH
  have eu : ux t = uy t := hV t ht (fun z => sg_nf G z.2)
  by_cases cc : fv (8 * (6 * k + (d - 1)) + g) < 0
  · refine ⟨(q, tn, sl, pc, wp, he, co, ca, cb, fs, fc, ts, upd tu t (tu t + 1), ux, tl, ul, tm, gc, ga, gp, ss, st, sf, tc, tr, ow, ti, fd, ft, fk, upd fn (6 * k + (d - 1)) (nI (i + 1)), upd fh (6 * k + (d - 1)) (nI g), fl, fv, rs, nt), (q, wp, tn, sl, yd, nd, co, ca, cb, le, he, kl, upd tu t (tu t + 1), uy, tl, ul, tm, gc, ga, gp, ss, st, sf, fd, tc, tr, ow, ti, ft, upd fn (6 * k + (d - 1)) (nI (i + 1)), upd fh (6 * k + (d - 1)) (nI g), fp, fz, fl, fv, rs, au), pr_top (i' := i + 1) (h' := g) G (rc_up C) (fun y hy => pk_un hy) pk_us (fun y hy => pk_un hy) pk_us hH hV (Or.inl ⟨hsl, htc, hyd⟩), Or.inl (fun post hp => ?_), fun post hp => ?_⟩
    · exact xe_20 B _ (fun post' hq => xl_fe hx ht eft efh (by omega) (fun z => absurd cc z) (fun _ => hq)) hp
    · exact yl_sa _ B hn hl (by decide) (by decide) (fun post' hq => yl_fe hx ht eft efh (by omega) (fun z => absurd cc z) (fun _ => hq)) hp
  · refine ⟨(q, tn, sl, pc, wp, he, co, ca, cb, fs, fc, ts, upd tu t (tu t + 1), upd ux t (fe_v (ux t) (fv (8 * (6 * k + (d - 1)) + g))), tl, ul, tm, gc, ga, gp, ss, st, sf, tc, tr, ow, ti, fd, ft, fk, upd fn (6 * k + (d - 1)) (nI (i + 1)), upd fh (6 * k + (d - 1)) (nI g), fl, fv, rs, nt), (q, wp, tn, sl, yd, nd, co, ca, cb, le, he, kl, upd tu t (tu t + 1), upd uy t (fe_v (uy t) (fv (8 * (6 * k + (d - 1)) + g))), tl, ul, tm, gc, ga, gp, ss, st, sf, fd, tc, tr, ow, ti, ft, upd fn (6 * k + (d - 1)) (nI (i + 1)), upd fh (6 * k + (d - 1)) (nI g), fp, fz, fl, fv, rs, au), pr_top (i' := i + 1) (h' := g) G (rc_up C) (fun y hy => pk_un hy) pk_us (fun y hy => pk_un hy) pk_us hH ?_ (Or.inl ⟨hsl, htc, hyd⟩), Or.inl (fun post hp => ?_), fun post hp => ?_⟩
    · intro s' hs' z
      by_cases cs : s' = t
      · subst cs; rw [pk_us, pk_us, eu]
      · rw [pk_un cs, pk_un cs]; exact hV s' hs' z
    · exact xe_20 B _ (fun post' hq => xl_fe hx ht eft efh (by omega) (fun _ => hq) (fun z => absurd z cc)) hp
    · exact yl_sa _ B hn hl (by decide) (by decide) (fun post' hq => yl_fe hx ht eft efh (by omega) (fun _ => hq) (fun z => absurd z cc)) hp
theorem ix_or (a : Int32) : ∃ j : Nat, 10 ≤ j ∧ j < 26 ∧ 10 + (a &&& 15) = nI j := by
  obtain ⟨j, hj, e⟩ := pk_andE a (m := 15) 4 (by decide)
  exact ⟨10 + j, by omega, by omega, by rw [e]; exact ix_a 10 rfl j⟩
theorem sx_22 {M : Nat} {H : Nat → Nat → Nat → Prop} {k s d t i h n c : Nat} (G : sg_R M H k s d t i h 22 n c q tn sl pc wp yd nd he co ca cb fs fc ts tu ux tl ul tm gc ga gp ss st sf tc tr ow ti fd ft fk fn fh fl fv rs nt le kl uy fp fz au) : sr_R M k s (q, tn, sl, pc, wp, he, co, ca, cb, fs, fc, ts, tu, ux, tl, ul, tm, gc, ga, gp, ss, st, sf, tc, tr, ow, ti, fd, ft, fk, fn, fh, fl, fv, rs, nt) (q, wp, tn, sl, yd, nd, co, ca, cb, le, he, kl, tu, uy, tl, ul, tm, gc, ga, gp, ss, st, sf, fd, tc, tr, ow, ti, ft, fn, fh, fp, fz, fl, fv, rs, au) := by
  have G' := G
  obtain ⟨C, htn, hsl, hyd, htc, B, hlo, hO, hK, hV, hn, hl, hh8, hle, hn64, hfc, hc4, z1, z2, z3, z4, z5, z6, z7, z8⟩ := G'
  have hk := B.1
  have hd0 := B.2.1
  have hd6 := B.2.2.1
  have ed := B.2.2.2.1
  have ht := B.2.2.2.2.1
  have eft := B.2.2.2.2.2.1
  have efh := B.2.2.2.2.2.2.2.1
  have hx : 6 * k + (d - 1) < 36 := by omega
  have ex : (nI (6 * k + (d - 1))).toNatClampNeg = 6 * k + (d - 1) := nI_clamp (by omega)
  have vx : vp_in (nI (6 * k + (d - 1))) 36 := vp_in_nI hx (by decide)
  have et : (nI t).toNatClampNeg = t := nI_clamp (by omega)
  have vt : vp_in (nI t) 4 := vp_in_nI ht (by decide)
  rw [po_22] at z5 z6
  rw [pu_22] at z6
  have efh' : fh (6 * k + (d - 1)) = nI (h - 1 + 1) := by rw [efh]; exact congrArg nI (by omega)
  obtain ⟨j, j1, j2, ej⟩ := ix_or (fv (8 * (6 * k + (d - 1)) + (h - 1)))
  obtain ⟨u2, v2, r1, r2, r3⟩ := rs_all (q := q) (tn := tn) (sl := sl) (pc := pc) (wp := wp) (yd := yd) (nd := nd) (he := he) (co := co) (ca := ca) (cb := cb) (fs := fs) (fc := fc) (ts := ts) (ux := ux) (tl := tl) (ul := ul) (tm := tm) (gc := gc) (ga := ga) (gp := gp) (ss := ss) (st := st) (sf := sf) (tc := tc) (tr := tr) (ow := ow) (ti := ti) (fd := fd) (ft := ft) (fk := fk) (fl := fl) (fv := fv) (rs := rs) (nt := nt) (le := le) (kl := kl) (uy := uy) (fp := fp) (fz := fz) (au := au) (tu := upd tu t (tu t + 1)) (fn := upd fn (6 * k + (d - 1)) (nI (i + 1))) (fh := upd fh (6 * k + (d - 1)) (nI (h - 1))) (f := 10 + (fv (8 * (6 * k + (d - 1)) + (h - 1)) &&& 15)) (rc_up C) htn hsl hyd (by rw [ej]; exact ix_neg j (by omega)) hk htc hK hd0 hd6 ed
    (tl_cg hd0 hlo (fun _ _ => rfl) (fun y hy => pk_un (by omega)) (fun y hy => pk_un (by omega)) (fun _ _ => rfl))
    (fun k' hk' ck => th_cg (hO k' hk' ck) (fun _ _ => rfl) (fun y hy => pk_un (by omega)) (fun y hy => pk_un (by omega)) (fun _ _ => rfl) rfl rfl) hV
  refine ⟨u2, v2, r1, Or.inr ⟨_, _, by rw [ej]; exact nI_ne0 (by omega) (by omega), fun post hp => xe_22 B (by omega) hh8 hp, r2⟩, fun post hp => ?_⟩
  refine yl_sa _ B hn hl (by decide) (by decide) (fun post' hq => ?_) hp
  refine yl_ac (h := h - 1) hx eft (by decide) (by decide) efh' (by omega) ?_
  refine br_f (by decide) (br_f (by decide) (br_f (by decide) (br_f (by decide) (br_f (by decide) (br_f (by decide) (br_f (by decide) (br_f (by decide) (br_f (by decide) (br_f (by decide) (br_t (by decide) (?_)))))))))))
  refine r3 _ ?_
  obtain ⟨y0, y1, y2, y3, y4, y5, y6, y7, y8, y9, y10, y11, y12, y13, y14, y15, y16, y17, y18, y19, y20, y21, y22, y23, y24, y25, y26, y27, y28, y29, y30, y31, y32, y33, y34, y35, y36⟩ := v2
  exact hq
end
end
section
theorem rv_up {ux uy kl fd ft fd' ft' : Nat → Int32} {k d t : Nat} (h : rl_v ux uy kl fd ft) (ht : t < 4) (hk0 : kl t = 0) (hd : d < 6) (ed : fd k = nI d) (ed' : fd' k = nI (d + 1)) (eo : ∀ j, j ≠ k → fd' j = fd j) (et : ft' (6 * k + d) = nI t) (ex : ∀ x, x ≠ 6 * k + d → ft' x = ft x) : rl_v ux uy kl fd' ft' := by
  intro s hs z
  obtain ⟨n1, n2⟩ := nf_up (s := s) hd ed ed' eo et ex
  refine h s hs (fun y => z ⟨y.1, n2 ht hs (fun c => ?_) y.2⟩)
  subst c
  exact y.1 hk0
section
variable {q tn sl pc wp yd nd : Int32} {he co ca cb fs fc ts tu ux tl ul tm gc ga gp ss st sf tc tr ow ti fd ft fk fn fh fl fv rs nt le kl uy fp fz au : Nat → Int32}
theorem pr_call {M : Nat} {H : Nat → Nat → Nat → Prop} {k s d t i h o n c w j g e : Nat} {fk' fp' fz' fl' : Nat → Int32} (G : sg_R M H k s d t i h o n c q tn sl pc wp yd nd he co ca cb fs fc ts tu ux tl ul tm gc ga gp ss st sf tc tr ow ti fd ft fk fn fh fl fv rs nt le kl uy fp fz au) (hd : d < 6) (hw : w < 4) (hkw : kl w = 0) (hHw : H w j 0)
    (eK : ∀ y, y ≠ 6 * k + d → fk' y = fk y ∧ fp' y = fp y ∧ fz' y = fz y) (eN : rl_kx fk' fp' fz' (6 * k + d)) (eE : e = if fz' (6 * k + d) = 0 then 1 else 2) (hH : H t (i + 1) (g + e)) :
    md_R (M + 1) k s (q, tn, sl, pc, wp, he, co, ca, cb, fs, fc, ts, upd tu t (tu t + 1), ux, tl, ul, tm, gc, ga, gp, ss, st, sf, tc, tr, ow, ti, upd fd k (nI (d + 1)), upd ft (6 * k + d) (nI w), fk', upd (upd fn (6 * k + (d - 1)) (nI (i + 1))) (6 * k + d) (nI j), upd (upd fh (6 * k + (d - 1)) (nI g)) (6 * k + d) 0, fl', fv, rs, nt) (q, wp, tn, sl, yd, nd, co, ca, cb, le, he, kl, upd tu t (tu t + 1), uy, tl, ul, tm, gc, ga, gp, ss, st, sf, upd fd k (nI (d + 1)), tc, tr, ow, ti, upd ft (6 * k + d) (nI w), upd (upd fn (6 * k + (d - 1)) (nI (i + 1))) (6 * k + d) (nI j), upd (upd fh (6 * k + (d - 1)) (nI g)) (6 * k + d) 0, fp', fz', fl', fv, rs, au) := by
  obtain ⟨C, htn, hsl, hyd, htc, ⟨hk, hd0, hd6, ed, ht, eft, efn, efh, hi, ho, eo⟩, hlo, hO, hK, hV, gg⟩ := G
  refine mk_md (rc_up C) htn hsl (Or.inl ⟨hsl, htc, hyd⟩) ?_ ?_ ?_
  · intro k' hk'
    by_cases ck : k' = k
    · subst ck
      refine ⟨d + 1, by omega, pk_us, ⟨fun _ => by omega, fun _ => htc⟩, fun _ => ⟨⟨?_, fun y hy => ?_⟩, w, j, 0, hw, ?_, ?_, ?_, hHw⟩⟩
      · rw [(eK (6 * k') (by omega)).2.2]; exact hlo.1
      · by_cases cy : y = d - 1
        · subst cy
          rw [show 6 * k' + (d - 1) + 1 = 6 * k' + d by omega, ← eE]
          exact ⟨t, i + 1, g, ht, by rw [pk_un (by omega)]; exact eft, by rw [pk_un (by omega), pk_us], by rw [pk_un (by omega), pk_us], hH⟩
        · rw [(eK (6 * k' + y + 1) (by omega)).2.2]
          exact fr_cg (hlo.2 y (by omega)) (pk_un (by omega)) (by rw [pk_un (by omega), pk_un (by omega)]) (by rw [pk_un (by omega), pk_un (by omega)])
      · rw [show d + 1 - 1 = d by omega, pk_us]
      · rw [show d + 1 - 1 = d by omega, pk_us]
      · rw [show d + 1 - 1 = d by omega, pk_us]; rfl
    · exact th_cg (hO k' hk' ck) (fun y hy => pk_un (by omega)) (fun y hy => by rw [pk_un (by omega), pk_un (by omega)]) (fun y hy => by rw [pk_un (by omega), pk_un (by omega)]) (fun y hy => (eK _ (by omega)).2.2) rfl (pk_un ck)
  · intro x hx
    by_cases cx : x = 6 * k + d
    · subst cx; exact eN
    · obtain ⟨q1, q2, q3⟩ := eK x cx
      unfold rl_kx
      rw [q1, q2, q3]
      exact hK x hx
  · exact rv_up hV hw hkw hd ed pk_us (fun y hy => pk_un hy) pk_us (fun y hy => pk_un hy)
theorem xl_call {post : Int32 → SX → Prop} {k d w f j g : Nat} {kd : Int32} (hk : k < 6) (hd0 : 0 < d) (hd6 : d ≤ 6) (ed : fd k = nI d) (hw : w < 4) (eft : ft (6 * k + (d - 1)) = nI w) (efh : fh (6 * k + (d - 1)) = nI (g + 1)) (hg : g < 8) (hf : f < 4) (hs : fs (4 * w + f) = nI j)
    (h6 : d = 6 → post 6 (q, tn, sl, pc, wp, he, co, ca, cb, fs, fc, ts, tu, ux, tl, ul, tm, gc, ga, gp, ss, st, sf, tc, tr, ow, ti, fd, ft, fk, fn, upd fh (6 * k + (d - 1)) (nI g), fl, fv, rs, nt)) (h0 : d < 6 → post 0 (q, tn, sl, pc, wp, he, co, ca, cb, fs, fc, ts, tu, ux, tl, ul, tm, gc, ga, gp, ss, st, sf, tc, tr, ow, ti, upd fd k (nI (d + 1)), upd ft (6 * k + d) (nI w), upd fk (6 * k + d) kd, upd fn (6 * k + d) (nI j), upd (upd fh (6 * k + (d - 1)) (nI g)) (6 * k + d) 0, lo_4 fl (6 * k + d) (fv (8 * (6 * k + (d - 1)) + g)), fv, rs, nt)) : wpX_callFunction post (q, tn, sl, pc, wp, he, co, ca, cb, fs, fc, ts, tu, ux, tl, ul, tm, gc, ga, gp, ss, st, sf, tc, tr, ow, ti, fd, ft, fk, fn, fh, fl, fv, rs, nt) (nI k) (nI f) kd := by
  have ex : (nI (6 * k + (d - 1))).toNatClampNeg = 6 * k + (d - 1) := nI_clamp (by omega)
  have vx : vp_in (nI (6 * k + (d - 1))) 36 := vp_in_nI (by omega) (by decide)
  unfold wpX_callFunction; dsimp only
  refine xl_top hk hd0 ed ?_
  refine xl_pop (h := g) (by omega) efh hg ⟨vx, ?_⟩
  dsimp only
  rw [ex, eft]
  by_cases c : d = 6
  · exact xl_b6 hk (by rw [ed, c]) (h6 c)
  · exact xl_bf hk (by omega) ed hw hf hs (h0 (by omega))
theorem yl_call {post : SY → Prop} {k d w f j g n o : Nat} {a : Int32} (hk : k < 6) (hd0 : 0 < d) (hd : d < 6) (ed : fd k = nI d) (hw : w < 4) (eft : ft (6 * k + (d - 1)) = nI w) (efh : fh (6 * k + (d - 1)) = nI (g + 1)) (hg : g < 8) (hl : le w = nI n) (hn : n ≤ 64) (hj : j < n) (h0 : co (64 * w + j) = 0) (hf : cf_n co (64 * w) j = f) (ea : a = nI f) (ho : o = 14 ∨ o = 15)
    (hp : post (q, wp, tn, sl, yd, nd, co, ca, cb, le, he, kl, tu, uy, tl, ul, tm, gc, ga, gp, ss, st, sf, upd fd k (nI (d + 1)), tc, tr, ow, ti, upd ft (6 * k + d) (nI w), upd fn (6 * k + d) (nI j), upd (upd fh (6 * k + (d - 1)) (nI g)) (6 * k + d) 0, upd (upd fp (6 * k + d) 0) (6 * k + d) (if o = 15 then 1 else 0), upd fz (6 * k + d) 0, lo_4 fl (6 * k + d) (fv (8 * (6 * k + (d - 1)) + g)), fv, rs, au)) : wpY_act post (q, wp, tn, sl, yd, nd, co, ca, cb, le, he, kl, tu, uy, tl, ul, tm, gc, ga, gp, ss, st, sf, fd, tc, tr, ow, ti, ft, fn, fh, fp, fz, fl, fv, rs, au) (nI k) (nI (6 * k + (d - 1))) (nI o) a := by
  have ek : (nI k).toNatClampNeg = k := nI_clamp (by omega)
  have vk : vp_in (nI k) 6 := vp_in_nI hk (by decide)
  have e1 : nI (6 * k + (d - 1)) + 1 = nI (6 * k + d) := by rw [nI_1]; exact congrArg nI (by omega)
  have e2 : (nI (6 * k + d)).toNatClampNeg = 6 * k + d := nI_clamp (by omega)
  have vy : vp_in (nI (6 * k + (d - 1)) + 1) 36 := by rw [e1]; exact vp_in_nI (by omega) (by decide)
  refine yl_ac (h := g) (by omega) eft (by omega) (by omega) efh hg ?_
  rw [ea]
  have key : wY_act_76 post (nI k) (nI (6 * k + (d - 1))) (nI o) (nI f) (nI w) (fv (8 * (6 * k + (d - 1)) + g)) q wp tn sl yd nd co ca cb le he kl tu uy tl ul tm gc ga gp ss st sf fd tc tr ow ti ft fn (upd fh (6 * k + (d - 1)) (nI g)) fp fz fl fv rs au := by
    refine ⟨vk, br_f (by rw [ek, ed]; exact ix_ne 6 rfl (by omega) (by omega) (by decide)) ?_⟩
    refine yl_bf hk hd ed hw hl hn hj h0 hf ?_
    rcases ho with rfl | rfl
    · exact br_f (by decide) ⟨vy, nm_r (by rw [e1, e2, ix_bn0]; rfl) hp⟩
    · exact br_t rfl ⟨vy, nm_r (by rw [e1, e2, ix_bn1]; rfl) hp⟩
  rcases ho with rfl | rfl
  · exact br_f (by decide) (br_f (by decide) (br_t (by decide) (key)))
  · exact br_f (by decide) (br_f (by decide) (br_f (by decide) (br_t (by decide) (key))))
theorem yl_c6 {post : SY → Prop} {k d w g o : Nat} {a : Int32} (v1 : SY) (hk : k < 6) (hd : d = 6) (ed : fd k = nI d) (eft : ft (6 * k + (d - 1)) = nI w) (efh : fh (6 * k + (d - 1)) = nI (g + 1)) (hg : g < 8) (ho : o = 14 ∨ o = 15)
    (hr : ∀ post' : SY → Prop, post' v1 → wpY_raise post' (q, wp, tn, sl, yd, nd, co, ca, cb, le, he, kl, tu, uy, tl, ul, tm, gc, ga, gp, ss, st, sf, fd, tc, tr, ow, ti, ft, fn, upd fh (6 * k + (d - 1)) (nI g), fp, fz, fl, fv, rs, au) (nI k) 6) (hp : post v1) : wpY_act post (q, wp, tn, sl, yd, nd, co, ca, cb, le, he, kl, tu, uy, tl, ul, tm, gc, ga, gp, ss, st, sf, fd, tc, tr, ow, ti, ft, fn, fh, fp, fz, fl, fv, rs, au) (nI k) (nI (6 * k + (d - 1))) (nI o) a := by
  have ek : (nI k).toNatClampNeg = k := nI_clamp (by omega)
  have vk : vp_in (nI k) 6 := vp_in_nI hk (by decide)
  refine yl_ac (h := g) (by omega) eft (by omega) (by omega) efh hg ?_
  have key : wY_act_76 post (nI k) (nI (6 * k + (d - 1))) (nI o) a (nI w) (fv (8 * (6 * k + (d - 1)) + g)) q wp tn sl yd nd co ca cb le he kl tu uy tl ul tm gc ga gp ss st sf fd tc tr ow ti ft fn (upd fh (6 * k + (d - 1)) (nI g)) fp fz fl fv rs au := by
    refine ⟨vk, br_t (by rw [ek, ed, hd]; rfl) (hr _ ?_)⟩
    obtain ⟨y0, y1, y2, y3, y4, y5, y6, y7, y8, y9, y10, y11, y12, y13, y14, y15, y16, y17, y18, y19, y20, y21, y22, y23, y24, y25, y26, y27, y28, y29, y30, y31, y32, y33, y34, y35, y36⟩ := v1
    exact hp
  rcases ho with rfl | rfl
  · exact br_f (by decide) (br_f (by decide) (br_t (by decide) (key)))
  · exact br_f (by decide) (br_f (by decide) (br_f (by decide) (br_t (by decide) (key))))
theorem sx_14 {M : Nat} {H : Nat → Nat → Nat → Prop} {k s d t i h n c : Nat} (G : sg_R M H k s d t i h 14 n c q tn sl pc wp yd nd he co ca cb fs fc ts tu ux tl ul tm gc ga gp ss st sf tc tr ow ti fd ft fk fn fh fl fv rs nt le kl uy fp fz au) : sr_R M k s (q, tn, sl, pc, wp, he, co, ca, cb, fs, fc, ts, tu, ux, tl, ul, tm, gc, ga, gp, ss, st, sf, tc, tr, ow, ti, fd, ft, fk, fn, fh, fl, fv, rs, nt) (q, wp, tn, sl, yd, nd, co, ca, cb, le, he, kl, tu, uy, tl, ul, tm, gc, ga, gp, ss, st, sf, fd, tc, tr, ow, ti, ft, fn, fh, fp, fz, fl, fv, rs, au) := by
  have G' := G
  obtain ⟨C, htn, hsl, hyd, htc, B, hlo, hO, hK, hV, hn, hl, hh8, hle, hn64, hfc, hc4, z1, z2, z3, z4, z5, z6, z7, z8⟩ := G'
  have hk := B.1
  have hd0 := B.2.1
  have hd6 := B.2.2.1
  have ed := B.2.2.2.1
  have ht := B.2.2.2.2.1
  have eft := B.2.2.2.2.2.1
  have efh := B.2.2.2.2.2.2.2.1
  have hx : 6 * k + (d - 1) < 36 := by omega
  have ex : (nI (6 * k + (d - 1))).toNatClampNeg = 6 * k + (d - 1) := nI_clamp (by omega)
  have vx : vp_in (nI (6 * k + (d - 1))) 36 := vp_in_nI hx (by decide)
  have et : (nI t).toNatClampNeg = t := nI_clamp (by omega)
  have vt : vp_in (nI t) 4 := vp_in_nI ht (by decide)
  rw [po_14] at z5 z6
  rw [pu_14] at z6
  have hH := (z7 (by decide) (by decide) (by decide)).2
  rw [po_14, pu_14] at hH
  obtain ⟨g, rfl⟩ : ∃ g, h = g + 1 := ⟨h - 1, by omega⟩
  rw [show g + 1 - 1 + 1 = g + 1 by omega] at hH
  obtain ⟨f, hf, ea⟩ := z2 (by decide)
  have kt : kl t = 0 := hn.resolve_right (fun z => z (by unfold pl_P; omega))
  obtain ⟨n', c', b1, b2, b3, b4, b5, b6, b7, b8, b9, b10, b11⟩ := C.2.2.1 t ht
  have ec : c = c' := by
    rw [b4, nI_eq (by omega) (by omega)] at hfc
    exact hfc.symm
  subst ec
  obtain ⟨j, j1, j2, j3, j4⟩ := b9 f hf
  by_cases c6 : d = 6
  · obtain ⟨u2, v2, r1, r2, r3⟩ := rs_all (q := q) (tn := tn) (sl := sl) (pc := pc) (wp := wp) (yd := yd) (nd := nd) (he := he) (co := co) (ca := ca) (cb := cb) (fs := fs) (fc := fc) (ts := ts) (ux := ux) (tl := tl) (ul := ul) (tm := tm) (gc := gc) (ga := ga) (gp := gp) (ss := ss) (st := st) (sf := sf) (tc := tc) (tr := tr) (ow := ow) (ti := ti) (fd := fd) (ft := ft) (fk := fk) (fl := fl) (fv := fv) (rs := rs) (nt := nt) (le := le) (kl := kl) (uy := uy) (fp := fp) (fz := fz) (au := au) (tu := upd tu t (tu t + 1)) (fn := upd fn (6 * k + (d - 1)) (nI (i + 1))) (fh := upd fh (6 * k + (d - 1)) (nI g)) (f := 6) (rc_up C) htn hsl hyd (by decide) hk htc hK hd0 hd6 ed
      (tl_cg hd0 hlo (fun _ _ => rfl) (fun y hy => pk_un (by omega)) (fun y hy => pk_un (by omega)) (fun _ _ => rfl))
      (fun k' hk' ck => th_cg (hO k' hk' ck) (fun _ _ => rfl) (fun y hy => pk_un (by omega)) (fun y hy => pk_un (by omega)) (fun _ _ => rfl) rfl rfl) hV
    refine ⟨u2, v2, r1, Or.inr ⟨6, (q, tn, sl, pc, wp, he, co, ca, cb, fs, fc, ts, upd tu t (tu t + 1), ux, tl, ul, tm, gc, ga, gp, ss, st, sf, tc, tr, ow, ti, fd, ft, fk, upd fn (6 * k + (d - 1)) (nI (i + 1)), upd fh (6 * k + (d - 1)) (nI g), fl, fv, rs, nt), by decide, fun post hp => ?_, r2⟩, fun post hp => ?_⟩
    · exact xe_14 B _ 6 (fun post' hq => by rw [ea]; exact xl_call hk hd0 hd6 ed ht eft efh (by omega) (by omega) j2 (fun _ => hq) (fun z => absurd c6 (by omega))) hp
    · exact yl_sa _ B hn hl (by decide) (by decide) (fun post' hq => yl_c6 _ hk c6 ed eft efh (by omega) (by decide) r3 hq) hp
  · refine ⟨(q, tn, sl, pc, wp, he, co, ca, cb, fs, fc, ts, upd tu t (tu t + 1), ux, tl, ul, tm, gc, ga, gp, ss, st, sf, tc, tr, ow, ti, upd fd k (nI (d + 1)), upd ft (6 * k + d) (nI t), upd fk (6 * k + d) 0, upd (upd fn (6 * k + (d - 1)) (nI (i + 1))) (6 * k + d) (nI j), upd (upd fh (6 * k + (d - 1)) (nI g)) (6 * k + d) 0, lo_4 fl (6 * k + d) (fv (8 * (6 * k + (d - 1)) + g)), fv, rs, nt), (q, wp, tn, sl, yd, nd, co, ca, cb, le, he, kl, upd tu t (tu t + 1), uy, tl, ul, tm, gc, ga, gp, ss, st, sf, upd fd k (nI (d + 1)), tc, tr, ow, ti, upd ft (6 * k + d) (nI t), upd (upd fn (6 * k + (d - 1)) (nI (i + 1))) (6 * k + d) (nI j), upd (upd fh (6 * k + (d - 1)) (nI g)) (6 * k + d) 0, upd (upd fp (6 * k + d) 0) (6 * k + d) (if 14 = 15 then 1 else 0), upd fz (6 * k + d) 0, lo_4 fl (6 * k + d) (fv (8 * (6 * k + (d - 1)) + g)), fv, rs, au), pr_call (e := 1) G (by omega) ht kt (b10 j j1 j3) (fun y hy => ⟨pk_un hy, by rw [pk_un hy, pk_un hy], pk_un hy⟩) ?_ (by rw [pk_us]; rfl) hH, Or.inl (fun post hp => ?_), fun post hp => ?_⟩
    · exact Or.inl ⟨by rw [pk_us]; rfl, pk_us, pk_us⟩
    · exact xe_14 B _ 0 (fun post' hq => by rw [ea]; exact xl_call hk hd0 hd6 ed ht eft efh (by omega) (by omega) j2 (fun z => absurd z c6) (fun _ => hq)) hp
    · exact yl_sa _ B hn hl (by decide) (by decide) (fun post' hq => yl_call hk hd0 (by omega) ed ht eft efh (by omega) b2 b1 j1 j3 j4 ea (by decide) hq) hp
theorem sx_15 {M : Nat} {H : Nat → Nat → Nat → Prop} {k s d t i h n c : Nat} (G : sg_R M H k s d t i h 15 n c q tn sl pc wp yd nd he co ca cb fs fc ts tu ux tl ul tm gc ga gp ss st sf tc tr ow ti fd ft fk fn fh fl fv rs nt le kl uy fp fz au) : sr_R M k s (q, tn, sl, pc, wp, he, co, ca, cb, fs, fc, ts, tu, ux, tl, ul, tm, gc, ga, gp, ss, st, sf, tc, tr, ow, ti, fd, ft, fk, fn, fh, fl, fv, rs, nt) (q, wp, tn, sl, yd, nd, co, ca, cb, le, he, kl, tu, uy, tl, ul, tm, gc, ga, gp, ss, st, sf, fd, tc, tr, ow, ti, ft, fn, fh, fp, fz, fl, fv, rs, au) := by
  have G' := G
  obtain ⟨C, htn, hsl, hyd, htc, B, hlo, hO, hK, hV, hn, hl, hh8, hle, hn64, hfc, hc4, z1, z2, z3, z4, z5, z6, z7, z8⟩ := G'
  have hk := B.1
  have hd0 := B.2.1
  have hd6 := B.2.2.1
  have ed := B.2.2.2.1
  have ht := B.2.2.2.2.1
  have eft := B.2.2.2.2.2.1
  have efh := B.2.2.2.2.2.2.2.1
  have hx : 6 * k + (d - 1) < 36 := by omega
  have ex : (nI (6 * k + (d - 1))).toNatClampNeg = 6 * k + (d - 1) := nI_clamp (by omega)
  have vx : vp_in (nI (6 * k + (d - 1))) 36 := vp_in_nI hx (by decide)
  have et : (nI t).toNatClampNeg = t := nI_clamp (by omega)
  have vt : vp_in (nI t) 4 := vp_in_nI ht (by decide)
  rw [po_15] at z5 z6
  rw [pu_15] at z6
  have hH := (z7 (by decide) (by decide) (by decide)).2
  rw [po_15, pu_15] at hH
  obtain ⟨g, rfl⟩ : ∃ g, h = g + 1 := ⟨h - 1, by omega⟩
  rw [show g + 1 - 1 + 1 = g + 1 by omega] at hH
  obtain ⟨f, hf, ea⟩ := z2 (by decide)
  have kt : kl t = 0 := hn.resolve_right (fun z => z (by unfold pl_P; omega))
  obtain ⟨n', c', b1, b2, b3, b4, b5, b6, b7, b8, b9, b10, b11⟩ := C.2.2.1 t ht
  have ec : c = c' := by
    rw [b4, nI_eq (by omega) (by omega)] at hfc
    exact hfc.symm
  subst ec
  obtain ⟨j, j1, j2, j3, j4⟩ := b9 f hf
  by_cases c6 : d = 6
  · obtain ⟨u2, v2, r1, r2, r3⟩ := rs_all (q := q) (tn := tn) (sl := sl) (pc := pc) (wp := wp) (yd := yd) (nd := nd) (he := he) (co := co) (ca := ca) (cb := cb) (fs := fs) (fc := fc) (ts := ts) (ux := ux) (tl := tl) (ul := ul) (tm := tm) (gc := gc) (ga := ga) (gp := gp) (ss := ss) (st := st) (sf := sf) (tc := tc) (tr := tr) (ow := ow) (ti := ti) (fd := fd) (ft := ft) (fk := fk) (fl := fl) (fv := fv) (rs := rs) (nt := nt) (le := le) (kl := kl) (uy := uy) (fp := fp) (fz := fz) (au := au) (tu := upd tu t (tu t + 1)) (fn := upd fn (6 * k + (d - 1)) (nI (i + 1))) (fh := upd fh (6 * k + (d - 1)) (nI g)) (f := 6) (rc_up C) htn hsl hyd (by decide) hk htc hK hd0 hd6 ed
      (tl_cg hd0 hlo (fun _ _ => rfl) (fun y hy => pk_un (by omega)) (fun y hy => pk_un (by omega)) (fun _ _ => rfl))
      (fun k' hk' ck => th_cg (hO k' hk' ck) (fun _ _ => rfl) (fun y hy => pk_un (by omega)) (fun y hy => pk_un (by omega)) (fun _ _ => rfl) rfl rfl) hV
    refine ⟨u2, v2, r1, Or.inr ⟨6, (q, tn, sl, pc, wp, he, co, ca, cb, fs, fc, ts, upd tu t (tu t + 1), ux, tl, ul, tm, gc, ga, gp, ss, st, sf, tc, tr, ow, ti, fd, ft, fk, upd fn (6 * k + (d - 1)) (nI (i + 1)), upd fh (6 * k + (d - 1)) (nI g), fl, fv, rs, nt), by decide, fun post hp => ?_, r2⟩, fun post hp => ?_⟩
    · exact xe_15 B _ 6 (fun post' hq => by rw [ea]; exact xl_call hk hd0 hd6 ed ht eft efh (by omega) (by omega) j2 (fun _ => hq) (fun z => absurd c6 (by omega))) hp
    · exact yl_sa _ B hn hl (by decide) (by decide) (fun post' hq => yl_c6 _ hk c6 ed eft efh (by omega) (by decide) r3 hq) hp
  · refine ⟨(q, tn, sl, pc, wp, he, co, ca, cb, fs, fc, ts, upd tu t (tu t + 1), ux, tl, ul, tm, gc, ga, gp, ss, st, sf, tc, tr, ow, ti, upd fd k (nI (d + 1)), upd ft (6 * k + d) (nI t), upd fk (6 * k + d) 1, upd (upd fn (6 * k + (d - 1)) (nI (i + 1))) (6 * k + d) (nI j), upd (upd fh (6 * k + (d - 1)) (nI g)) (6 * k + d) 0, lo_4 fl (6 * k + d) (fv (8 * (6 * k + (d - 1)) + g)), fv, rs, nt), (q, wp, tn, sl, yd, nd, co, ca, cb, le, he, kl, upd tu t (tu t + 1), uy, tl, ul, tm, gc, ga, gp, ss, st, sf, upd fd k (nI (d + 1)), tc, tr, ow, ti, upd ft (6 * k + d) (nI t), upd (upd fn (6 * k + (d - 1)) (nI (i + 1))) (6 * k + d) (nI j), upd (upd fh (6 * k + (d - 1)) (nI g)) (6 * k + d) 0, upd (upd fp (6 * k + d) 0) (6 * k + d) (if 15 = 15 then 1 else 0), upd fz (6 * k + d) 0, lo_4 fl (6 * k + d) (fv (8 * (6 * k + (d - 1)) + g)), fv, rs, au), pr_call (e := 1) G (by omega) ht kt (b10 j j1 j3) (fun y hy => ⟨pk_un hy, by rw [pk_un hy, pk_un hy], pk_un hy⟩) ?_ (by rw [pk_us]; rfl) hH, Or.inl (fun post hp => ?_), fun post hp => ?_⟩
    · exact Or.inr (Or.inl ⟨by rw [pk_us]; rfl, pk_us, pk_us⟩)
    · exact xe_15 B _ 0 (fun post' hq => by rw [ea]; exact xl_call hk hd0 hd6 ed ht eft efh (by omega) (by omega) j2 (fun z => absurd z c6) (fun _ => hq)) hp
    · exact yl_sa _ B hn hl (by decide) (by decide) (fun post' hq => yl_call hk hd0 (by omega) ed ht eft efh (by omega) b2 b1 j1 j3 j4 ea (by decide) hq) hp
theorem xl_ret {post : SX → Prop} {k d g : Nat} (hk : k < 6) (hd0 : 0 < d) (hd6 : d ≤ 6) (ed : fd k = nI d) (efh : fh (6 * k + (d - 1)) = nI (g + 1)) (hg : g < 8)
    (h1 : d = 1 → post (q, tn, 0, pc, wp, he, co, ca, cb, fs, fc, ts, tu, ux, tl, ul, tm, gc, ga, gp, ss, st, sf, upd tc k 0, upd tr k (fv (8 * (6 * k + (d - 1)) + g)), ow, ti, upd fd k 0, ft, fk, fn, upd fh (6 * k + (d - 1)) (nI g), fl, fv, rs, nt))
    (h2 : 1 < d → ∃ y : Nat, fh (6 * k + (d - 2)) = nI y ∧ y < 8 ∧ (fk (6 * k + (d - 1)) = 2 → y + 1 < 8 ∧ post (q, tn, sl, pc, wp, he, co, ca, cb, fs, fc, ts, tu, ux, tl, ul, tm, gc, ga, gp, ss, st, sf, tc, tr, ow, ti, upd fd k (nI (d - 1)), ft, fk, fn, upd (upd (upd fh (6 * k + (d - 1)) (nI g)) (6 * k + (d - 2)) (nI (y + 1))) (6 * k + (d - 2)) (nI (y + 1 + 1)), fl, upd (upd fv (8 * (6 * k + (d - 2)) + y) (fv (8 * (6 * k + (d - 1)) + g))) (8 * (6 * k + (d - 2)) + (y + 1)) 0, rs, nt)) ∧ (fk (6 * k + (d - 1)) ≠ 2 → post (q, tn, sl, pc, wp, he, co, ca, cb, fs, fc, ts, tu, ux, tl, ul, tm, gc, ga, gp, ss, st, sf, tc, tr, ow, ti, upd fd k (nI (d - 1)), ft, fk, fn, upd (upd fh (6 * k + (d - 1)) (nI g)) (6 * k + (d - 2)) (nI (y + 1)), fl, upd fv (8 * (6 * k + (d - 2)) + y) (fv (8 * (6 * k + (d - 1)) + g)), rs, nt))) : wpX_returnValue post (q, tn, sl, pc, wp, he, co, ca, cb, fs, fc, ts, tu, ux, tl, ul, tm, gc, ga, gp, ss, st, sf, tc, tr, ow, ti, fd, ft, fk, fn, fh, fl, fv, rs, nt) (nI k) := by
  have ek : (nI k).toNatClampNeg = k := nI_clamp (by omega)
  have vk : vp_in (nI k) 6 := vp_in_nI hk (by decide)
  have ex : (nI (6 * k + (d - 1))).toNatClampNeg = 6 * k + (d - 1) := nI_clamp (by omega)
  have vx : vp_in (nI (6 * k + (d - 1))) 36 := vp_in_nI (by omega) (by decide)
  unfold wpX_returnValue; dsimp only
  refine xl_top hk hd0 ed ?_
  refine xl_pop (h := g) (by omega) efh hg ⟨vk, ?_⟩
  dsimp only
  rw [ek, ed]
  by_cases c : d = 1
  · exact br_f (by rw [c]; decide) (xl_end hk (h1 c))
  · obtain ⟨y, y1, y2, y3, y4⟩ := h2 (by omega)
    have ep : nI (6 * k + (d - 1)) - 1 = nI (6 * k + (d - 2)) := by rw [ix_p (by omega)]; exact congrArg nI (by omega)
    refine br_t (nI_lt (a := 1) (by omega) (by omega)) ⟨vk, vk, nm_r (e' := upd fd k (nI (d - 1))) (by rw [ix_p hd0]) ?_⟩
    rw [ep]
    refine xl_push (h := y) (by omega) (by rw [pk_un (by omega)]; exact y1) y2 ⟨vx, ?_⟩
    dsimp only
    rw [ex]
    by_cases ck : fk (6 * k + (d - 1)) = 2
    · exact br_t ck (xl_push (h := y + 1) (by omega) pk_us (y3 ck).1 (y3 ck).2)
    · exact br_f ck (y4 ck)
theorem yl_ret {post : SY → Prop} {k d g w : Nat} {a : Int32} (hk : k < 6) (hd0 : 0 < d) (hd6 : d ≤ 6) (ed : fd k = nI d) (eft : ft (6 * k + (d - 1)) = nI w) (efh : fh (6 * k + (d - 1)) = nI (g + 1)) (hg : g < 8)
    (h1 : d = 1 → post (q, wp, tn, sl, yd, nd, co, ca, cb, le, he, kl, tu, uy, tl, ul, tm, gc, ga, gp, ss, st, sf, upd fd k 0, upd tc k 0, upd tr k (fv (8 * (6 * k + (d - 1)) + g)), ow, ti, ft, fn, upd fh (6 * k + (d - 1)) (nI g), fp, fz, fl, fv, rs, au))
    (h2 : 1 < d → ∃ y : Nat, fh (6 * k + (d - 2)) = nI y ∧ y < 8 ∧ (fz (6 * k + (d - 1)) ≠ 0 → y + 1 < 8 ∧ post (q, wp, tn, sl, yd, nd, co, ca, cb, le, he, kl, tu, uy, tl, ul, tm, gc, ga, gp, ss, st, sf, upd fd k (nI (d - 1)), tc, tr, ow, ti, ft, fn, upd (upd (upd fh (6 * k + (d - 1)) (nI g)) (6 * k + (d - 2)) (nI (y + 1))) (6 * k + (d - 2)) (nI (y + 1 + 1)), fp, fz, fl, upd (upd fv (8 * (6 * k + (d - 2)) + y) (fv (8 * (6 * k + (d - 1)) + g))) (8 * (6 * k + (d - 2)) + (y + 1)) 0, rs, au)) ∧ (fz (6 * k + (d - 1)) = 0 → post (q, wp, tn, sl, yd, nd, co, ca, cb, le, he, kl, tu, uy, tl, ul, tm, gc, ga, gp, ss, st, sf, upd fd k (nI (d - 1)), tc, tr, ow, ti, ft, fn, upd (upd fh (6 * k + (d - 1)) (nI g)) (6 * k + (d - 2)) (nI (y + 1)), fp, fz, fl, upd fv (8 * (6 * k + (d - 2)) + y) (fv (8 * (6 * k + (d - 1)) + g)), rs, au))) : wpY_act post (q, wp, tn, sl, yd, nd, co, ca, cb, le, he, kl, tu, uy, tl, ul, tm, gc, ga, gp, ss, st, sf, fd, tc, tr, ow, ti, ft, fn, fh, fp, fz, fl, fv, rs, au) (nI k) (nI (6 * k + (d - 1))) (nI 21) a := by
  have ek : (nI k).toNatClampNeg = k := nI_clamp (by omega)
  have vk : vp_in (nI k) 6 := vp_in_nI hk (by decide)
  have ex : (nI (6 * k + (d - 1))).toNatClampNeg = 6 * k + (d - 1) := nI_clamp (by omega)
  have vx : vp_in (nI (6 * k + (d - 1))) 36 := vp_in_nI (by omega) (by decide)
  refine yl_ac (h := g) (by omega) eft (by decide) (by decide) efh hg ?_
  refine br_f (by decide) (br_f (by decide) (br_f (by decide) (br_f (by decide) (br_f (by decide) (br_f (by decide) (br_f (by decide) (br_f (by decide) (br_f (by decide) (br_t (by decide) (?_))))))))))
  refine ⟨vk, vk, nm_r (e' := upd fd k (nI (d - 1))) (by rw [ek, ed, ix_p hd0]) ⟨vk, ?_⟩⟩
  rw [ek, pk_us]
  by_cases c : d = 1
  · refine br_t (by rw [c]; rfl) (yl_end hk ?_)
    rw [ix_uu]
    exact h1 c
  · obtain ⟨y, y1, y2, y3, y4⟩ := h2 (by omega)
    have ep : nI (6 * k + (d - 1)) - 1 = nI (6 * k + (d - 2)) := by rw [ix_p (by omega)]; exact congrArg nI (by omega)
    refine br_f (nI_ne0 (by omega) (by omega)) ?_
    rw [ep]
    refine yl_push (h := y) (by omega) (by rw [pk_un (by omega)]; exact y1) y2 ⟨vx, ?_⟩
    rw [ex]
    by_cases ck : fz (6 * k + (d - 1)) = 0
    · exact br_t ck (y4 ck)
    · exact br_f ck (yl_push (h := y + 1) (by omega) pk_us (y3 ck).1 (y3 ck).2)
theorem sx_21 {M : Nat} {H : Nat → Nat → Nat → Prop} {k s d t i h n c : Nat} (G : sg_R M H k s d t i h 21 n c q tn sl pc wp yd nd he co ca cb fs fc ts tu ux tl ul tm gc ga gp ss st sf tc tr ow ti fd ft fk fn fh fl fv rs nt le kl uy fp fz au) : sr_R M k s (q, tn, sl, pc, wp, he, co, ca, cb, fs, fc, ts, tu, ux, tl, ul, tm, gc, ga, gp, ss, st, sf, tc, tr, ow, ti, fd, ft, fk, fn, fh, fl, fv, rs, nt) (q, wp, tn, sl, yd, nd, co, ca, cb, le, he, kl, tu, uy, tl, ul, tm, gc, ga, gp, ss, st, sf, fd, tc, tr, ow, ti, ft, fn, fh, fp, fz, fl, fv, rs, au) := by
  have G' := G
  obtain ⟨C, htn, hsl, hyd, htc, B, hlo, hO, hK, hV, hn, hl, hh8, hle, hn64, hfc, hc4, z1, z2, z3, z4, z5, z6, z7, z8⟩ := G'
  have hk := B.1
  have hd0 := B.2.1
  have hd6 := B.2.2.1
  have ed := B.2.2.2.1
  have ht := B.2.2.2.2.1
  have eft := B.2.2.2.2.2.1
  have efh := B.2.2.2.2.2.2.2.1
  have hx : 6 * k + (d - 1) < 36 := by omega
  have ex : (nI (6 * k + (d - 1))).toNatClampNeg = 6 * k + (d - 1) := nI_clamp (by omega)
  have vx : vp_in (nI (6 * k + (d - 1))) 36 := vp_in_nI hx (by decide)
  have et : (nI t).toNatClampNeg = t := nI_clamp (by omega)
  have vt : vp_in (nI t) 4 := vp_in_nI ht (by decide)
  rw [po_21] at z5 z6
  rw [pu_21] at z6
  obtain ⟨g, rfl⟩ : ∃ g, h = g + 1 := ⟨h - 1, by omega⟩
  by_cases c1 : d = 1
  · refine ⟨(q, tn, 0, pc, wp, he, co, ca, cb, fs, fc, ts, upd tu t (tu t + 1), ux, tl, ul, tm, gc, ga, gp, ss, st, sf, upd tc k 0, upd tr k (fv (8 * (6 * k + (d - 1)) + g)), ow, ti, upd fd k 0, ft, fk, upd fn (6 * k + (d - 1)) (nI (i + 1)), upd fh (6 * k + (d - 1)) (nI g), fl, fv, rs, nt), (q, wp, tn, sl, yd, nd, co, ca, cb, le, he, kl, upd tu t (tu t + 1), uy, tl, ul, tm, gc, ga, gp, ss, st, sf, upd fd k 0, upd tc k 0, upd tr k (fv (8 * (6 * k + (d - 1)) + g)), ow, ti, ft, upd fn (6 * k + (d - 1)) (nI (i + 1)), upd fh (6 * k + (d - 1)) (nI g), fp, fz, fl, fv, rs, au), mk_md (rc_up C) htn hsl (Or.inr ⟨rfl, Or.inl (by rw [pk_us]; decide)⟩) ?_ hK ?_, Or.inl (fun post hp => ?_), fun post hp => ?_⟩
    · intro k' hk'
      by_cases ck : k' = k
      · subst ck
        exact ⟨0, by decide, pk_us, ⟨fun z => absurd z (by rw [pk_us]; decide), fun z => absurd z (by decide)⟩, fun z => absurd z (by decide)⟩
      · exact th_cg (hO k' hk' ck) (fun _ _ => rfl) (fun y hy => pk_un (by omega)) (fun y hy => pk_un (by omega)) (fun _ _ => rfl) (pk_un ck) (pk_un ck)
    · exact rv_dn (d' := 0) hV hd6 (by omega) ed
    · exact xe_21 B _ (fun post' hq => xl_ret hk hd0 hd6 ed efh (by omega) (fun _ => hq) (fun z => absurd c1 (by omega))) hp
    · exact yl_sa _ B hn hl (by decide) (by decide) (fun post' hq => yl_ret hk hd0 hd6 ed eft efh (by omega) (fun _ => hq) (fun z => absurd c1 (by omega))) hp
  · have fo := hlo.2 (d - 2) (by omega)
    rw [show 6 * k + (d - 2) + 1 = 6 * k + (d - 1) by omega] at fo
    obtain ⟨t2, i2, y, t1, q2, q3, q4, q5⟩ := fo
    have h8 := bu_h8 C.2.2.1 t1 q5
    have hV' : rl_v ux uy kl (upd fd k (nI (d - 1))) ft := rv_dn hV hd6 (by omega) ed
    by_cases cz : fz (6 * k + (d - 1)) = 0
    · rw [if_pos cz] at q5 h8
      have ck2 : fk (6 * k + (d - 1)) ≠ 2 := by
        rcases hK (6 * k + (d - 1)) hx with z | z | z
        · rw [z.2.2]; decide
        · rw [z.2.2]; decide
        · rw [z.2.1] at cz; exact absurd cz (by decide)
      refine ⟨(q, tn, sl, pc, wp, he, co, ca, cb, fs, fc, ts, upd tu t (tu t + 1), ux, tl, ul, tm, gc, ga, gp, ss, st, sf, tc, tr, ow, ti, upd fd k (nI (d - 1)), ft, fk, upd fn (6 * k + (d - 1)) (nI (i + 1)), upd (upd fh (6 * k + (d - 1)) (nI g)) (6 * k + (d - 2)) (nI (y + 1)), fl, upd fv (8 * (6 * k + (d - 2)) + y) (fv (8 * (6 * k + (d - 1)) + g)), rs, nt), (q, wp, tn, sl, yd, nd, co, ca, cb, le, he, kl, upd tu t (tu t + 1), uy, tl, ul, tm, gc, ga, gp, ss, st, sf, upd fd k (nI (d - 1)), tc, tr, ow, ti, ft, upd fn (6 * k + (d - 1)) (nI (i + 1)), upd (upd fh (6 * k + (d - 1)) (nI g)) (6 * k + (d - 2)) (nI (y + 1)), fp, fz, fl, upd fv (8 * (6 * k + (d - 2)) + y) (fv (8 * (6 * k + (d - 1)) + g)), rs, au), mk_md (rc_up C) htn hsl (Or.inl ⟨hsl, htc, hyd⟩) ?_ hK hV', Or.inl (fun post hp => ?_), fun post hp => ?_⟩
      · intro k' hk'
        by_cases ck : k' = k
        · subst ck
          refine ⟨d - 1, by omega, pk_us, ⟨fun _ => by omega, fun _ => htc⟩, fun _ => ⟨⟨hlo.1, fun y hy => ?_⟩, t2, i2, y + 1, t1, ?_, ?_, ?_, q5⟩⟩
          · exact fr_cg (hlo.2 y (by omega)) rfl (pk_un (by omega)) (by rw [pk_un (by omega), pk_un (by omega)])
          · rw [show d - 1 - 1 = d - 2 by omega]; exact q2
          · rw [show d - 1 - 1 = d - 2 by omega, pk_un (by omega)]; exact q3
          · rw [show d - 1 - 1 = d - 2 by omega, pk_us]
        · exact th_cg (hO k' hk' ck) (fun _ _ => rfl) (fun y hy => pk_un (by omega)) (fun y hy => by rw [pk_un (by omega), pk_un (by omega)]) (fun _ _ => rfl) rfl (pk_un ck)
      · exact xe_21 B _ (fun post' hq => xl_ret hk hd0 hd6 ed efh (by omega) (fun z => absurd z c1) (fun _ => ⟨y, q4, by omega, fun z => absurd z ck2, fun _ => hq⟩)) hp
      · exact yl_sa _ B hn hl (by decide) (by decide) (fun post' hq => yl_ret hk hd0 hd6 ed eft efh (by omega) (fun z => absurd z c1) (fun _ => ⟨y, q4, by omega, fun z => absurd cz z, fun _ => hq⟩)) hp
    · rw [if_neg cz] at q5 h8
      have ck2 : fk (6 * k + (d - 1)) = 2 := by
        rcases hK (6 * k + (d - 1)) hx with z | z | z
        · exact absurd z.2.1 cz
        · exact absurd z.2.1 cz
        · exact z.2.2
      refine ⟨(q, tn, sl, pc, wp, he, co, ca, cb, fs, fc, ts, upd tu t (tu t + 1), ux, tl, ul, tm, gc, ga, gp, ss, st, sf, tc, tr, ow, ti, upd fd k (nI (d - 1)), ft, fk, upd fn (6 * k + (d - 1)) (nI (i + 1)), upd (upd (upd fh (6 * k + (d - 1)) (nI g)) (6 * k + (d - 2)) (nI (y + 1))) (6 * k + (d - 2)) (nI (y + 1 + 1)), fl, upd (upd fv (8 * (6 * k + (d - 2)) + y) (fv (8 * (6 * k + (d - 1)) + g))) (8 * (6 * k + (d - 2)) + (y + 1)) 0, rs, nt), (q, wp, tn, sl, yd, nd, co, ca, cb, le, he, kl, upd tu t (tu t + 1), uy, tl, ul, tm, gc, ga, gp, ss, st, sf, upd fd k (nI (d - 1)), tc, tr, ow, ti, ft, upd fn (6 * k + (d - 1)) (nI (i + 1)), upd (upd (upd fh (6 * k + (d - 1)) (nI g)) (6 * k + (d - 2)) (nI (y + 1))) (6 * k + (d - 2)) (nI (y + 1 + 1)), fp, fz, fl, upd (upd fv (8 * (6 * k + (d - 2)) + y) (fv (8 * (6 * k + (d - 1)) + g))) (8 * (6 * k + (d - 2)) + (y + 1)) 0, rs, au), mk_md (rc_up C) htn hsl (Or.inl ⟨hsl, htc, hyd⟩) ?_ hK hV', Or.inl (fun post hp => ?_), fun post hp => ?_⟩
      · intro k' hk'
        by_cases ck : k' = k
        · subst ck
          refine ⟨d - 1, by omega, pk_us, ⟨fun _ => by omega, fun _ => htc⟩, fun _ => ⟨⟨hlo.1, fun y hy => ?_⟩, t2, i2, y + 1 + 1, t1, ?_, ?_, ?_, q5⟩⟩
          · exact fr_cg (hlo.2 y (by omega)) rfl (pk_un (by omega)) (by rw [pk_un (by omega), pk_un (by omega), pk_un (by omega)])
          · rw [show d - 1 - 1 = d - 2 by omega]; exact q2
          · rw [show d - 1 - 1 = d - 2 by omega, pk_un (by omega)]; exact q3
          · rw [show d - 1 - 1 = d - 2 by omega, pk_us]
        · exact th_cg (hO k' hk' ck) (fun _ _ => rfl) (fun y hy => pk_un (by omega)) (fun y hy => by rw [pk_un (by omega), pk_un (by omega), pk_un (by omega)]) (fun _ _ => rfl) rfl (pk_un ck)
      · exact xe_21 B _ (fun post' hq => xl_ret hk hd0 hd6 ed efh (by omega) (fun z => absurd z c1) (fun _ => ⟨y, q4, by omega, fun _ => ⟨by omega, hq⟩, fun z => absurd ck2 z⟩)) hp
      · exact yl_sa _ B hn hl (by decide) (by decide) (fun post' hq => yl_ret hk hd0 hd6 ed eft efh (by omega) (fun z => absurd z c1) (fun _ => ⟨y, q4, by omega, fun _ => ⟨by omega, hq⟩, fun z => absurd z cz⟩)) hp
end
end
section
section
variable {q tn sl pc wp yd nd : Int32} {he co ca cb fs fc ts tu ux tl ul tm gc ga gp ss st sf tc tr ow ti fd ft fk fn fh fl fv rs nt le kl uy fp fz au : Nat → Int32}
theorem xl_sdw {post : Int32 → SX → Prop} {k d t a w f g m : Nat} (hk : k < 6) (hd0 : 0 < d) (hd6 : d ≤ 6) (ed : fd k = nI d) (ht : t < 4) (eft : ft (6 * k + (d - 1)) = nI t) (efh : fh (6 * k + (d - 1)) = nI (g + 1)) (ha : a < 4) (ew : st (4 * t + a) = nI w) (ef : sf (4 * t + a) = nI f) (hw : w < 4) (hf : f < 4) (hg : g + 1 < 8)
    (hc : (ss (4 * t + a) = 0 ∧ m = 5) ∨ (ss (4 * t + a) ≠ 0 ∧ ss (4 * t + a) = 2 ∧ m = 4) ∨ (ss (4 * t + a) ≠ 0 ∧ ss (4 * t + a) ≠ 2 ∧ (fc w ≤ nI f ∨ ts w ≠ 1) ∧ m = 3)) (hp : post 0 (q, tn, sl, pc, wp, he, co, ca, cb, fs, fc, ts, tu, ux, tl, ul, tm, gc, ga, gp, ss, st, sf, tc, tr, ow, ti, fd, ft, fk, fn, upd (upd (upd fh (6 * k + (d - 1)) (nI g)) (6 * k + (d - 1)) (nI (g + 1))) (6 * k + (d - 1)) (nI (g + 1 + 1)), fl, upd (upd fv (8 * (6 * k + (d - 1)) + g) 0) (8 * (6 * k + (d - 1)) + (g + 1)) (nI m), rs, nt)) : wpX_sendToSlot post (q, tn, sl, pc, wp, he, co, ca, cb, fs, fc, ts, tu, ux, tl, ul, tm, gc, ga, gp, ss, st, sf, tc, tr, ow, ti, fd, ft, fk, fn, fh, fl, fv, rs, nt) (nI k) (nI a) := by
  have ex : (nI (6 * k + (d - 1))).toNatClampNeg = 6 * k + (d - 1) := nI_clamp (by omega)
  have vx : vp_in (nI (6 * k + (d - 1))) 36 := vp_in_nI (by omega) (by decide)
  have e1 : nI t * 4 + nI a = nI (4 * t + a) := ix_r 4 rfl t a
  have e2 : (nI (4 * t + a)).toNatClampNeg = 4 * t + a := nI_clamp (by omega)
  have v16 : vp_in (nI (4 * t + a)) 16 := vp_in_nI (by omega) (by decide)
  unfold wpX_sendToSlot; dsimp only
  refine xl_top hk hd0 ed ⟨vx, nm_r (e' := nI (4 * t + a)) (by rw [ex, eft, e1]) ⟨v16, nm_r (e' := nI w) (by rw [e2, ew]) ⟨v16, nm_r (e' := nI f) (by rw [e2, ef]) ?_⟩⟩⟩
  refine xl_pop (h := g) (by omega) efh (by omega) ⟨v16, ?_⟩
  dsimp only
  rw [e2]
  rcases hc with ⟨c1, rfl⟩ | ⟨c1, c2, rfl⟩ | ⟨c1, c2, c3, rfl⟩
  · refine br_t c1 (br_f (by decide) ?_)
    refine xl_push (h := g) (by omega) pk_us (by omega) ?_
    exact xl_push (h := g + 1) (by omega) pk_us (by omega) hp
  · refine br_f c1 ⟨v16, br_t c2 (br_f (by decide) ?_)⟩
    refine xl_push (h := g) (by omega) pk_us (by omega) ?_
    exact xl_push (h := g + 1) (by omega) pk_us (by omega) hp
  · refine br_f c1 ⟨v16, br_f c2 (xl_ce0 hw (Or.inr c3) (br_t rfl (br_f (by decide) ?_)))⟩
    refine xl_push (h := g) (by omega) pk_us (by omega) ?_
    exact xl_push (h := g + 1) (by omega) pk_us (by omega) hp
theorem xl_sde {post : Int32 → SX → Prop} {k d t a w f g j : Nat} (hk : k < 6) (hd0 : 0 < d) (hd6 : d ≤ 6) (ed : fd k = nI d) (ht : t < 4) (eft : ft (6 * k + (d - 1)) = nI t) (efh : fh (6 * k + (d - 1)) = nI (g + 1)) (ha : a < 4) (ew : st (4 * t + a) = nI w) (ef : sf (4 * t + a) = nI f) (hw : w < 4) (hf : f < 4) (hg : g < 8) (hs : fs (4 * w + f) = nI j)
    (c1 : ss (4 * t + a) ≠ 0) (c2 : ss (4 * t + a) ≠ 2) (c3 : ¬ fc w ≤ nI f) (c4 : ts w = 1) (h6 : d = 6 → post 6 (q, tn, sl, pc, wp, he, co, ca, cb, fs, fc, ts, tu, ux, tl, ul, tm, gc, ga, gp, ss, st, sf, tc, tr, ow, ti, fd, ft, fk, fn, upd fh (6 * k + (d - 1)) (nI g), fl, fv, rs, nt)) (h0 : d < 6 → post 0 (q, tn, sl, pc, wp, he, co, ca, cb, fs, fc, ts, tu, ux, tl, ul, tm, gc, ga, gp, ss, st, sf, tc, tr, ow, ti, upd fd k (nI (d + 1)), upd ft (6 * k + d) (nI w), upd fk (6 * k + d) 2, upd fn (6 * k + d) (nI j), upd (upd fh (6 * k + (d - 1)) (nI g)) (6 * k + d) 0, lo_4 fl (6 * k + d) (fv (8 * (6 * k + (d - 1)) + g)), fv, rs, nt)) : wpX_sendToSlot post (q, tn, sl, pc, wp, he, co, ca, cb, fs, fc, ts, tu, ux, tl, ul, tm, gc, ga, gp, ss, st, sf, tc, tr, ow, ti, fd, ft, fk, fn, fh, fl, fv, rs, nt) (nI k) (nI a) := by
  have ex : (nI (6 * k + (d - 1))).toNatClampNeg = 6 * k + (d - 1) := nI_clamp (by omega)
  have vx : vp_in (nI (6 * k + (d - 1))) 36 := vp_in_nI (by omega) (by decide)
  have e1 : nI t * 4 + nI a = nI (4 * t + a) := ix_r 4 rfl t a
  have e2 : (nI (4 * t + a)).toNatClampNeg = 4 * t + a := nI_clamp (by omega)
  have v16 : vp_in (nI (4 * t + a)) 16 := vp_in_nI (by omega) (by decide)
  unfold wpX_sendToSlot; dsimp only
  refine xl_top hk hd0 ed ⟨vx, nm_r (e' := nI (4 * t + a)) (by rw [ex, eft, e1]) ⟨v16, nm_r (e' := nI w) (by rw [e2, ew]) ⟨v16, nm_r (e' := nI f) (by rw [e2, ef]) ?_⟩⟩⟩
  refine xl_pop (h := g) (by omega) efh (by omega) ⟨v16, ?_⟩
  dsimp only
  rw [e2]
  refine br_f c1 ⟨v16, br_f c2 (xl_ce1 hw (nI_pos (by omega)) c3 c4 (br_f (by decide) (br_t rfl ?_)))⟩
  by_cases c : d = 6
  · exact xl_b6 hk (by rw [ed, c]) (h6 c)
  · exact xl_bf hk (by omega) ed hw hf hs (h0 (by omega))
theorem yl_sdw {post : SY → Prop} {k d t a w f g m n : Nat} (hk : k < 6) (hd0 : 0 < d) (hd6 : d ≤ 6) (ed : fd k = nI d) (ht : t < 4) (eft : ft (6 * k + (d - 1)) = nI t) (efh : fh (6 * k + (d - 1)) = nI (g + 1)) (ha : a < 4) (ew : st (4 * t + a) = nI w) (ef : sf (4 * t + a) = nI f) (hw : w < 4) (hf : f < 4) (hg : g + 1 < 8) (hl : le w = nI n) (hn : n ≤ 64)
    (hc : (ss (4 * t + a) = 0 ∧ m = 5) ∨ (ss (4 * t + a) ≠ 0 ∧ ss (4 * t + a) = 2 ∧ m = 4) ∨ (ss (4 * t + a) ≠ 0 ∧ ss (4 * t + a) ≠ 2 ∧ (kl w ≠ 0 ∨ ¬ f < cf_n co (64 * w) n) ∧ m = 3)) (hp : post (q, wp, tn, sl, yd, nd, co, ca, cb, le, he, kl, tu, uy, tl, ul, tm, gc, ga, gp, ss, st, sf, fd, tc, tr, ow, ti, ft, fn, upd (upd (upd fh (6 * k + (d - 1)) (nI g)) (6 * k + (d - 1)) (nI (g + 1))) (6 * k + (d - 1)) (nI (g + 1 + 1)), fp, fz, fl, upd (upd fv (8 * (6 * k + (d - 1)) + g) 0) (8 * (6 * k + (d - 1)) + (g + 1)) (nI m), rs, au)) : wpY_act post (q, wp, tn, sl, yd, nd, co, ca, cb, le, he, kl, tu, uy, tl, ul, tm, gc, ga, gp, ss, st, sf, fd, tc, tr, ow, ti, ft, fn, fh, fp, fz, fl, fv, rs, au) (nI k) (nI (6 * k + (d - 1))) (nI 16) (nI a) := by
  have ek : (nI k).toNatClampNeg = k := nI_clamp (by omega)
  have vk : vp_in (nI k) 6 := vp_in_nI hk (by decide)
  have ewc : (nI w).toNatClampNeg = w := nI_clamp (by omega)
  have vw : vp_in (nI w) 4 := vp_in_nI hw (by decide)
  have e1 : 4 * nI t + nI a = nI (4 * t + a) := ix_l 4 rfl t a
  have e2 : (nI (4 * t + a)).toNatClampNeg = 4 * t + a := nI_clamp (by omega)
  have v16 : vp_in (nI (4 * t + a)) 16 := vp_in_nI (by omega) (by decide)
  refine yl_ac (h := g) (by omega) eft (by decide) (by decide) efh (by omega) ?_
  refine br_f (by decide) (br_f (by decide) (br_f (by decide) (br_f (by decide) (br_t (by decide) (?_)))))
  rw [e1]
  refine ⟨v16, nm_r (e' := nI w) (by rw [e2, ew]) ⟨v16, ?_⟩⟩
  rw [e2]
  have q : ∀ z : Int32, ¬ z ≤ 0 → z = nI m → wY_send_65 post (nI k) (nI (6 * k + (d - 1))) (nI (4 * t + a)) (fv (8 * (6 * k + (d - 1)) + g)) (nI w) z q wp tn sl yd nd co ca cb le he kl tu uy tl ul tm gc ga gp ss st sf fd tc tr ow ti ft fn (upd fh (6 * k + (d - 1)) (nI g)) fp fz fl fv rs au := by
    intro z hz ez
    subst ez
    refine br_f hz ?_
    refine yl_push (h := g) (by omega) pk_us (by omega) ?_
    exact yl_push (h := g + 1) (by omega) pk_us (by omega) hp
  rcases hc with ⟨c1, rfl⟩ | ⟨c1, c2, rfl⟩ | ⟨c1, c2, c3, rfl⟩
  · exact br_t c1 (q 5 (by decide) rfl)
  · exact br_f c1 ⟨v16, br_t c2 (q 4 (by decide) rfl)⟩
  · refine br_f c1 ⟨v16, br_f c2 ⟨vw, ?_⟩⟩
    rw [ewc]
    by_cases ck : kl w = 0
    · refine br_t ck ⟨v16, yl_fns (by omega) hl hn (br_f ?_ (q 3 (by decide) rfl))⟩
      rw [ef]
      have := cf_le co (64 * w) n
      have c4 : ¬ f < cf_n co (64 * w) n := c3.resolve_left (fun z => z ck)
      exact nI_nlt (by omega) (by omega)
    · exact br_f ck (q 3 (by decide) rfl)
theorem yl_sde {post : SY → Prop} {k d t a w f g j n : Nat} (hk : k < 6) (hd0 : 0 < d) (hd6 : d ≤ 6) (ed : fd k = nI d) (ht : t < 4) (eft : ft (6 * k + (d - 1)) = nI t) (efh : fh (6 * k + (d - 1)) = nI (g + 1)) (ha : a < 4) (ew : st (4 * t + a) = nI w) (ef : sf (4 * t + a) = nI f) (hw : w < 4) (hf : f < 4) (hg : g < 8) (hd : d < 6) (hl : le w = nI n) (hn : n ≤ 64) (hj : j < n) (h0 : co (64 * w + j) = 0) (hcf : cf_n co (64 * w) j = f)
    (c1 : ss (4 * t + a) ≠ 0) (c2 : ss (4 * t + a) ≠ 2) (ck : kl w = 0) (c3 : f < cf_n co (64 * w) n) (hp : post (q, wp, tn, sl, yd, nd, co, ca, cb, le, he, kl, tu, uy, tl, ul, tm, gc, ga, gp, ss, st, sf, upd fd k (nI (d + 1)), tc, tr, ow, ti, upd ft (6 * k + d) (nI w), upd fn (6 * k + d) (nI j), upd (upd fh (6 * k + (d - 1)) (nI g)) (6 * k + d) 0, upd fp (6 * k + d) 0, upd (upd fz (6 * k + d) 0) (6 * k + d) 1, lo_4 fl (6 * k + d) (fv (8 * (6 * k + (d - 1)) + g)), fv, rs, au)) : wpY_act post (q, wp, tn, sl, yd, nd, co, ca, cb, le, he, kl, tu, uy, tl, ul, tm, gc, ga, gp, ss, st, sf, fd, tc, tr, ow, ti, ft, fn, fh, fp, fz, fl, fv, rs, au) (nI k) (nI (6 * k + (d - 1))) (nI 16) (nI a) := by
  have ek : (nI k).toNatClampNeg = k := nI_clamp (by omega)
  have vk : vp_in (nI k) 6 := vp_in_nI hk (by decide)
  have ewc : (nI w).toNatClampNeg = w := nI_clamp (by omega)
  have vw : vp_in (nI w) 4 := vp_in_nI hw (by decide)
  have e1 : 4 * nI t + nI a = nI (4 * t + a) := ix_l 4 rfl t a
  have e2 : (nI (4 * t + a)).toNatClampNeg = 4 * t + a := nI_clamp (by omega)
  have v16 : vp_in (nI (4 * t + a)) 16 := vp_in_nI (by omega) (by decide)
  refine yl_ac (h := g) (by omega) eft (by decide) (by decide) efh (by omega) ?_
  refine br_f (by decide) (br_f (by decide) (br_f (by decide) (br_f (by decide) (br_t (by decide) (?_)))))
  rw [e1]
  refine ⟨v16, nm_r (e' := nI w) (by rw [e2, ew]) ⟨v16, ?_⟩⟩
  rw [e2]
  have cl := cf_le co (64 * w) n
  have e3 : nI (6 * k + (d - 1)) + 1 = nI (6 * k + d) := by rw [nI_1]; exact congrArg nI (by omega)
  have e4 : (nI (6 * k + d)).toNatClampNeg = 6 * k + d := nI_clamp (by omega)
  have vy : vp_in (nI (6 * k + (d - 1)) + 1) 36 := by rw [e3]; exact vp_in_nI (by omega) (by decide)
  refine br_f c1 ⟨v16, br_f c2 ⟨vw, ?_⟩⟩
  rw [ewc]
  refine br_t ck ⟨v16, yl_fns (by omega) hl hn (br_t ?_ (br_t (by decide) ⟨vk, br_f (by rw [ek, ed]; exact ix_ne 6 rfl (by omega) (by omega) (by decide)) ⟨v16, ?_⟩⟩))⟩
  · rw [ef]
    exact nI_lt c3 (by omega)
  · rw [e2, ef]
    refine yl_bf hk hd ed hw hl hn hj h0 hcf ⟨vy, nm_r (by rw [e3, e4, ix_bn1]) hp⟩
theorem yl_sd6 {post : SY → Prop} {k d t a w f g n : Nat} (hk : k < 6) (hd0 : 0 < d) (hd6 : d ≤ 6) (ed : fd k = nI d) (ht : t < 4) (eft : ft (6 * k + (d - 1)) = nI t) (efh : fh (6 * k + (d - 1)) = nI (g + 1)) (ha : a < 4) (ew : st (4 * t + a) = nI w) (ef : sf (4 * t + a) = nI f) (hw : w < 4) (hf : f < 4) (v1 : SY) (hg : g < 8) (hd : d = 6) (hl : le w = nI n) (hn : n ≤ 64)
    (c1 : ss (4 * t + a) ≠ 0) (c2 : ss (4 * t + a) ≠ 2) (ck : kl w = 0) (c3 : f < cf_n co (64 * w) n) (hr : ∀ post' : SY → Prop, post' v1 → wpY_raise post' (q, wp, tn, sl, yd, nd, co, ca, cb, le, he, kl, tu, uy, tl, ul, tm, gc, ga, gp, ss, st, sf, fd, tc, tr, ow, ti, ft, fn, upd fh (6 * k + (d - 1)) (nI g), fp, fz, fl, fv, rs, au) (nI k) 6) (hp : post v1) : wpY_act post (q, wp, tn, sl, yd, nd, co, ca, cb, le, he, kl, tu, uy, tl, ul, tm, gc, ga, gp, ss, st, sf, fd, tc, tr, ow, ti, ft, fn, fh, fp, fz, fl, fv, rs, au) (nI k) (nI (6 * k + (d - 1))) (nI 16) (nI a) := by
  have ek : (nI k).toNatClampNeg = k := nI_clamp (by omega)
  have vk : vp_in (nI k) 6 := vp_in_nI hk (by decide)
  have ewc : (nI w).toNatClampNeg = w := nI_clamp (by omega)
  have vw : vp_in (nI w) 4 := vp_in_nI hw (by decide)
  have e1 : 4 * nI t + nI a = nI (4 * t + a) := ix_l 4 rfl t a
  have e2 : (nI (4 * t + a)).toNatClampNeg = 4 * t + a := nI_clamp (by omega)
  have v16 : vp_in (nI (4 * t + a)) 16 := vp_in_nI (by omega) (by decide)
  refine yl_ac (h := g) (by omega) eft (by decide) (by decide) efh (by omega) ?_
  refine br_f (by decide) (br_f (by decide) (br_f (by decide) (br_f (by decide) (br_t (by decide) (?_)))))
  rw [e1]
  refine ⟨v16, nm_r (e' := nI w) (by rw [e2, ew]) ⟨v16, ?_⟩⟩
  rw [e2]
  have cl := cf_le co (64 * w) n
  refine br_f c1 ⟨v16, br_f c2 ⟨vw, ?_⟩⟩
  rw [ewc]
  refine br_t ck ⟨v16, yl_fns (by omega) hl hn (br_t ?_ (br_t (by decide) ⟨vk, br_t (by rw [ek, ed, hd]; rfl) (hr _ ?_)⟩))⟩
  · rw [ef]
    exact nI_lt c3 (by omega)
  · obtain ⟨y0, y1, y2, y3, y4, y5, y6, y7, y8, y9, y10, y11, y12, y13, y14, y15, y16, y17, y18, y19, y20, y21, y22, y23, y24, y25, y26, y27, y28, y29, y30, y31, y32, y33, y34, y35, y36⟩ := v1
    exact hp
theorem sx_16 {M : Nat} {H : Nat → Nat → Nat → Prop} {k s d t i h n c : Nat} (G : sg_R M H k s d t i h 16 n c q tn sl pc wp yd nd he co ca cb fs fc ts tu ux tl ul tm gc ga gp ss st sf tc tr ow ti fd ft fk fn fh fl fv rs nt le kl uy fp fz au) : sr_R M k s (q, tn, sl, pc, wp, he, co, ca, cb, fs, fc, ts, tu, ux, tl, ul, tm, gc, ga, gp, ss, st, sf, tc, tr, ow, ti, fd, ft, fk, fn, fh, fl, fv, rs, nt) (q, wp, tn, sl, yd, nd, co, ca, cb, le, he, kl, tu, uy, tl, ul, tm, gc, ga, gp, ss, st, sf, fd, tc, tr, ow, ti, ft, fn, fh, fp, fz, fl, fv, rs, au) := by
  have G' := G
  obtain ⟨C, htn, hsl, hyd, htc, B, hlo, hO, hK, hV, hn, hl, hh8, hle, hn64, hfc, hc4, z1, z2, z3, z4, z5, z6, z7, z8⟩ := G'
  have hk := B.1
  have hd0 := B.2.1
  have hd6 := B.2.2.1
  have ed := B.2.2.2.1
  have ht := B.2.2.2.2.1
  have eft := B.2.2.2.2.2.1
  have efh := B.2.2.2.2.2.2.2.1
  have hx : 6 * k + (d - 1) < 36 := by omega
  have ex : (nI (6 * k + (d - 1))).toNatClampNeg = 6 * k + (d - 1) := nI_clamp (by omega)
  have vx : vp_in (nI (6 * k + (d - 1))) 36 := vp_in_nI hx (by decide)
  have et : (nI t).toNatClampNeg = t := nI_clamp (by omega)
  have vt : vp_in (nI t) 4 := vp_in_nI ht (by decide)
  rw [po_16] at z5 z6
  rw [pu_16] at z6
  have hH := (z7 (by decide) (by decide) (by decide)).2
  rw [po_16, pu_16] at hH
  obtain ⟨g, rfl⟩ : ∃ g, h = g + 1 := ⟨h - 1, by omega⟩
  rw [show g + 1 - 1 + 2 = g + 1 + 1 by omega] at hH
  obtain ⟨a, ha, ea⟩ := z3 rfl
  obtain ⟨⟨w, hw, ew⟩, ⟨f, hf, ef⟩⟩ := C.2.2.2.2.1 (4 * t + a) (by omega)
  obtain ⟨n', c', b1, b2, b3, b4, b5, b6, b7, b8, b9, b10, b11⟩ := C.2.2.1 w hw
  have how : ∀ m : Nat, ((ss (4 * t + a) = 0 ∧ m = 5) ∨ (ss (4 * t + a) ≠ 0 ∧ ss (4 * t + a) = 2 ∧ m = 4) ∨ (ss (4 * t + a) ≠ 0 ∧ ss (4 * t + a) ≠ 2 ∧ (fc w ≤ nI f ∨ ts w ≠ 1) ∧ m = 3)) →
      ((ss (4 * t + a) = 0 ∧ m = 5) ∨ (ss (4 * t + a) ≠ 0 ∧ ss (4 * t + a) = 2 ∧ m = 4) ∨ (ss (4 * t + a) ≠ 0 ∧ ss (4 * t + a) ≠ 2 ∧ (kl w ≠ 0 ∨ ¬ f < cf_n co (64 * w) n') ∧ m = 3)) → sr_R M k s (q, tn, sl, pc, wp, he, co, ca, cb, fs, fc, ts, tu, ux, tl, ul, tm, gc, ga, gp, ss, st, sf, tc, tr, ow, ti, fd, ft, fk, fn, fh, fl, fv, rs, nt) (q, wp, tn, sl, yd, nd, co, ca, cb, le, he, kl, tu, uy, tl, ul, tm, gc, ga, gp, ss, st, sf, fd, tc, tr, ow, ti, ft, fn, fh, fp, fz, fl, fv, rs, au) := by
    intro m hX hY
    refine ⟨(q, tn, sl, pc, wp, he, co, ca, cb, fs, fc, ts, upd tu t (tu t + 1), ux, tl, ul, tm, gc, ga, gp, ss, st, sf, tc, tr, ow, ti, fd, ft, fk, upd fn (6 * k + (d - 1)) (nI (i + 1)), upd (upd (upd fh (6 * k + (d - 1)) (nI g)) (6 * k + (d - 1)) (nI (g + 1))) (6 * k + (d - 1)) (nI (g + 1 + 1)), fl, upd (upd fv (8 * (6 * k + (d - 1)) + g) 0) (8 * (6 * k + (d - 1)) + (g + 1)) (nI m), rs, nt), (q, wp, tn, sl, yd, nd, co, ca, cb, le, he, kl, upd tu t (tu t + 1), uy, tl, ul, tm, gc, ga, gp, ss, st, sf, fd, tc, tr, ow, ti, ft, upd fn (6 * k + (d - 1)) (nI (i + 1)), upd (upd (upd fh (6 * k + (d - 1)) (nI g)) (6 * k + (d - 1)) (nI (g + 1))) (6 * k + (d - 1)) (nI (g + 1 + 1)), fp, fz, fl, upd (upd fv (8 * (6 * k + (d - 1)) + g) 0) (8 * (6 * k + (d - 1)) + (g + 1)) (nI m), rs, au), pr_top (i' := i + 1) (h' := g + 1 + 1) G (rc_up C) (fun y hy => pk_un hy) pk_us (fun y hy => by rw [pk_un hy, pk_un hy, pk_un hy]) pk_us hH hV (Or.inl ⟨hsl, htc, hyd⟩), Or.inl (fun post hp => ?_), fun post hp => ?_⟩
    · exact xe_16 B _ 0 (fun post' hq => by rw [ea]; exact xl_sdw hk hd0 hd6 ed ht eft efh ha ew ef hw hf (by omega) hX hq) hp
    · exact yl_sa _ B hn hl (by decide) (by decide) (fun post' hq => by rw [ea]; exact yl_sdw hk hd0 hd6 ed ht eft efh ha ew ef hw hf (by omega) b2 b1 hY hq) hp
  by_cases s0 : ss (4 * t + a) = 0
  · exact how 5 (Or.inl ⟨s0, rfl⟩) (Or.inl ⟨s0, rfl⟩)
  by_cases s2 : ss (4 * t + a) = 2
  · exact how 4 (Or.inr (Or.inl ⟨s0, s2, rfl⟩)) (Or.inr (Or.inl ⟨s0, s2, rfl⟩))
  by_cases cE : kl w = 0 ∧ f < c'
  · obtain ⟨kw, fw⟩ := cE
    have fw' : f < cf_n co (64 * w) n' := by rw [← b5]; exact fw
    have hn' : n' ≠ 0 := by
      intro z
      rw [z] at fw'
      exact absurd fw' (Nat.not_lt_zero f)
    have hts : ts w = 1 := by rw [b8, if_neg hn', if_pos kw]
    have hfc' : ¬ fc w ≤ nI f := by rw [b4]; exact nI_ge fw (by omega)
    obtain ⟨j, j1, j2, j3, j4⟩ := b9 f fw
    by_cases c6 : d = 6
    · obtain ⟨u2, v2, r1, r2, r3⟩ := rs_all (q := q) (tn := tn) (sl := sl) (pc := pc) (wp := wp) (yd := yd) (nd := nd) (he := he) (co := co) (ca := ca) (cb := cb) (fs := fs) (fc := fc) (ts := ts) (ux := ux) (tl := tl) (ul := ul) (tm := tm) (gc := gc) (ga := ga) (gp := gp) (ss := ss) (st := st) (sf := sf) (tc := tc) (tr := tr) (ow := ow) (ti := ti) (fd := fd) (ft := ft) (fk := fk) (fl := fl) (fv := fv) (rs := rs) (nt := nt) (le := le) (kl := kl) (uy := uy) (fp := fp) (fz := fz) (au := au) (tu := upd tu t (tu t + 1)) (fn := upd fn (6 * k + (d - 1)) (nI (i + 1))) (fh := upd fh (6 * k + (d - 1)) (nI g)) (f := 6) (rc_up C) htn hsl hyd (by decide) hk htc hK hd0 hd6 ed (tl_cg hd0 hlo (fun _ _ => rfl) (fun y hy => pk_un (by omega)) (fun y hy => pk_un (by omega)) (fun _ _ => rfl)) (fun k' hk' ck => th_cg (hO k' hk' ck) (fun _ _ => rfl) (fun y hy => pk_un (by omega)) (fun y hy => pk_un (by omega)) (fun _ _ => rfl) rfl rfl) hV
      refine ⟨u2, v2, r1, Or.inr ⟨6, (q, tn, sl, pc, wp, he, co, ca, cb, fs, fc, ts, upd tu t (tu t + 1), ux, tl, ul, tm, gc, ga, gp, ss, st, sf, tc, tr, ow, ti, fd, ft, fk, upd fn (6 * k + (d - 1)) (nI (i + 1)), upd fh (6 * k + (d - 1)) (nI g), fl, fv, rs, nt), by decide, fun post hp => ?_, r2⟩, fun post hp => ?_⟩
      · exact xe_16 B _ 6 (fun post' hq => by rw [ea]; exact xl_sde hk hd0 hd6 ed ht eft efh ha ew ef hw hf (by omega) j2 s0 s2 hfc' hts (fun _ => hq) (fun z => absurd c6 (by omega))) hp
      · exact yl_sa _ B hn hl (by decide) (by decide) (fun post' hq => by rw [ea]; exact yl_sd6 hk hd0 hd6 ed ht eft efh ha ew ef hw hf _ (by omega) c6 b2 b1 s0 s2 kw fw' r3 hq) hp
    · refine ⟨(q, tn, sl, pc, wp, he, co, ca, cb, fs, fc, ts, upd tu t (tu t + 1), ux, tl, ul, tm, gc, ga, gp, ss, st, sf, tc, tr, ow, ti, upd fd k (nI (d + 1)), upd ft (6 * k + d) (nI w), upd fk (6 * k + d) 2, upd (upd fn (6 * k + (d - 1)) (nI (i + 1))) (6 * k + d) (nI j), upd (upd fh (6 * k + (d - 1)) (nI g)) (6 * k + d) 0, lo_4 fl (6 * k + d) (fv (8 * (6 * k + (d - 1)) + g)), fv, rs, nt), (q, wp, tn, sl, yd, nd, co, ca, cb, le, he, kl, upd tu t (tu t + 1), uy, tl, ul, tm, gc, ga, gp, ss, st, sf, upd fd k (nI (d + 1)), tc, tr, ow, ti, upd ft (6 * k + d) (nI w), upd (upd fn (6 * k + (d - 1)) (nI (i + 1))) (6 * k + d) (nI j), upd (upd fh (6 * k + (d - 1)) (nI g)) (6 * k + d) 0, upd fp (6 * k + d) 0, upd (upd fz (6 * k + d) 0) (6 * k + d) 1, lo_4 fl (6 * k + d) (fv (8 * (6 * k + (d - 1)) + g)), fv, rs, au), pr_call (e := 2) G (by omega) hw kw (b10 j j1 j3) (fun y hy => ⟨pk_un hy, pk_un hy, by rw [pk_un hy, pk_un hy]⟩) ?_ (by rw [pk_us]; rfl) hH, Or.inl (fun post hp => ?_), fun post hp => ?_⟩
      · exact Or.inr (Or.inr ⟨pk_us, pk_us, pk_us⟩)
      · exact xe_16 B _ 0 (fun post' hq => by rw [ea]; exact xl_sde hk hd0 hd6 ed ht eft efh ha ew ef hw hf (by omega) j2 s0 s2 hfc' hts (fun z => absurd z c6) (fun _ => hq)) hp
      · exact yl_sa _ B hn hl (by decide) (by decide) (fun post' hq => by rw [ea]; exact yl_sde hk hd0 hd6 ed ht eft efh ha ew ef hw hf (by omega) (by omega) b2 b1 j1 j3 j4 s0 s2 kw fw' hq) hp
  · refine how 3 (Or.inr (Or.inr ⟨s0, s2, ?_, rfl⟩)) (Or.inr (Or.inr ⟨s0, s2, ?_, rfl⟩))
    · by_cases kw : kl w = 0
      · refine Or.inl ?_
        rw [b4]
        exact nI_le (Nat.le_of_not_lt (fun z => cE ⟨kw, z⟩)) (by omega)
      · refine Or.inr ?_
        rw [b8]
        by_cases cn : n' = 0
        · rw [if_pos cn]; decide
        · rw [if_neg cn, if_neg kw]; decide
    · by_cases kw : kl w = 0
      · exact Or.inr (fun z => cE ⟨kw, by rw [b5]; exact z⟩)
      · exact Or.inl kw
theorem sx_17 {M : Nat} {H : Nat → Nat → Nat → Prop} {k s d t i h n c : Nat} (G : sg_R M H k s d t i h 17 n c q tn sl pc wp yd nd he co ca cb fs fc ts tu ux tl ul tm gc ga gp ss st sf tc tr ow ti fd ft fk fn fh fl fv rs nt le kl uy fp fz au) : sr_R M k s (q, tn, sl, pc, wp, he, co, ca, cb, fs, fc, ts, tu, ux, tl, ul, tm, gc, ga, gp, ss, st, sf, tc, tr, ow, ti, fd, ft, fk, fn, fh, fl, fv, rs, nt) (q, wp, tn, sl, yd, nd, co, ca, cb, le, he, kl, tu, uy, tl, ul, tm, gc, ga, gp, ss, st, sf, fd, tc, tr, ow, ti, ft, fn, fh, fp, fz, fl, fv, rs, au) := by
  have G' := G
  obtain ⟨C, htn, hsl, hyd, htc, B, hlo, hO, hK, hV, hn, hl, hh8, hle, hn64, hfc, hc4, z1, z2, z3, z4, z5, z6, z7, z8⟩ := G'
  have hk := B.1
  have hd0 := B.2.1
  have hd6 := B.2.2.1
  have ed := B.2.2.2.1
  have ht := B.2.2.2.2.1
  have eft := B.2.2.2.2.2.1
  have efh := B.2.2.2.2.2.2.2.1
  have hx : 6 * k + (d - 1) < 36 := by omega
  have ex : (nI (6 * k + (d - 1))).toNatClampNeg = 6 * k + (d - 1) := nI_clamp (by omega)
  have vx : vp_in (nI (6 * k + (d - 1))) 36 := vp_in_nI hx (by decide)
  have et : (nI t).toNatClampNeg = t := nI_clamp (by omega)
  have vt : vp_in (nI t) 4 := vp_in_nI ht (by decide)
  rw [po_17] at z5 z6
  rw [pu_17] at z6
  have hH := (z7 (by decide) (by decide) (by decide)).2
  rw [po_17, pu_17] at hH
  obtain ⟨g, rfl⟩ : ∃ g, h = g + 1 := ⟨h - 1, by omega⟩
  rw [show g + 1 - 1 + 1 = g + 1 by omega] at hH
  obtain ⟨f, hf, ea⟩ := z2 (by decide)
  have kt : kl t = 0 := hn.resolve_right (fun z => z (by unfold pl_P; omega))
  obtain ⟨n', c', b1, b2, b3, b4, b5, b6, b7, b8, b9, b10, b11⟩ := C.2.2.1 t ht
  have ec : c = c' := by
    rw [b4, nI_eq (by omega) (by omega)] at hfc
    exact hfc.symm
  subst ec
  obtain ⟨j, j1, j2, j3, j4⟩ := b9 f hf
  have X0 : ∀ (r r2 : Int32) (u1 : SX) (post : SX → Prop), (∀ post' : Int32 → Prop, post' r → wpX_domainsOf post' (q, tn, sl, pc, wp, he, co, ca, cb, fs, fc, ts, upd tu t (tu t + 1), ux, tl, ul, tm, gc, ga, gp, ss, st, sf, tc, tr, ow, ti, fd, ft, fk, upd fn (6 * k + (d - 1)) (nI (i + 1)), upd fh (6 * k + (d - 1)) (nI g), fl, fv, rs, nt) (nI k)) → (∀ post' : Int32 → SX → Prop, post' r2 u1 → wpX_beginThread post' (q, tn, sl, pc, wp, he, co, ca, cb, fs, fc, ts, upd tu t (tu t + 1), ux, tl, ul, tm, gc, ga, gp, ss, st, sf, tc, tr, ow, ti, fd, ft, fk, upd fn (6 * k + (d - 1)) (nI (i + 1)), upd fh (6 * k + (d - 1)) (nI g), fl, fv, rs, nt) (nI t) (nI f) (fv (8 * (6 * k + (d - 1)) + g)) r) →
      wpX_push post u1 (nI (6 * k + (d - 1))) r2 → wpX_spawnThread post (q, tn, sl, pc, wp, he, co, ca, cb, fs, fc, ts, upd tu t (tu t + 1), ux, tl, ul, tm, gc, ga, gp, ss, st, sf, tc, tr, ow, ti, fd, ft, fk, upd fn (6 * k + (d - 1)) (nI (i + 1)), fh, fl, fv, rs, nt) (nI k) (nI f) := by
    intro r r2 u1 post h1 h2 h3
    unfold wpX_spawnThread; dsimp only
    refine xl_top hk hd0 ed ?_
    refine xl_pop (h := g) (by omega) efh (by omega) ?_
    refine h1 _ ⟨vx, ?_⟩
    dsimp only
    rw [ex, eft]
    refine h2 _ ?_
    exact h3
  have Y0 : ∀ (r r2 : Int32) (v1 : SY) (post : SY → Prop), (∀ post' : Int32 → Prop, post' r → wpY_domains post' (q, wp, tn, sl, yd, nd, co, ca, cb, le, he, kl, upd tu t (tu t + 1), uy, tl, ul, tm, gc, ga, gp, ss, st, sf, fd, tc, tr, ow, ti, ft, upd fn (6 * k + (d - 1)) (nI (i + 1)), upd fh (6 * k + (d - 1)) (nI g), fp, fz, fl, fv, rs, au) (nI k)) → (∀ post' : Int32 → SY → Prop, post' r2 v1 → wpY_begin post' (q, wp, tn, sl, yd, nd, co, ca, cb, le, he, kl, upd tu t (tu t + 1), uy, tl, ul, tm, gc, ga, gp, ss, st, sf, fd, tc, tr, ow, ti, ft, upd fn (6 * k + (d - 1)) (nI (i + 1)), upd fh (6 * k + (d - 1)) (nI g), fp, fz, fl, fv, rs, au) (nI t) (nI f) (fv (8 * (6 * k + (d - 1)) + g)) r) →
      wpY_push post v1 (nI (6 * k + (d - 1))) r2 → wpY_act post (q, wp, tn, sl, yd, nd, co, ca, cb, le, he, kl, upd tu t (tu t + 1), uy, tl, ul, tm, gc, ga, gp, ss, st, sf, fd, tc, tr, ow, ti, ft, upd fn (6 * k + (d - 1)) (nI (i + 1)), fh, fp, fz, fl, fv, rs, au) (nI k) (nI (6 * k + (d - 1))) (nI 17) (nI f) := by
    intro r r2 v1 post h1 h2 h3
    refine yl_ac (h := g) (by omega) eft (by decide) (by decide) efh (by omega) ?_
    refine br_f (by decide) (br_f (by decide) (br_f (by decide) (br_f (by decide) (br_f (by decide) (br_t (by decide) (?_))))))
    refine h1 _ (h2 _ ?_)
    obtain ⟨y0, y1, y2, y3, y4, y5, y6, y7, y8, y9, y10, y11, y12, y13, y14, y15, y16, y17, y18, y19, y20, y21, y22, y23, y24, y25, y26, y27, y28, y29, y30, y31, y32, y33, y34, y35, y36⟩ := v1
    exact h3
  obtain ⟨r, x1, y1⟩ := dl_all (q := q) (tn := tn) (sl := sl) (pc := pc) (wp := wp) (yd := yd) (nd := nd) (he := he) (co := co) (ca := ca) (cb := cb) (fs := fs) (fc := fc) (ts := ts) (ux := ux) (tl := tl) (ul := ul) (tm := tm) (gc := gc) (ga := ga) (gp := gp) (ss := ss) (st := st) (sf := sf) (tc := tc) (tr := tr) (ow := ow) (ti := ti) (fd := fd) (ft := ft) (fk := fk) (fl := fl) (fv := fv) (rs := rs) (nt := nt) (le := le) (kl := kl) (uy := uy) (fp := fp) (fz := fz) (au := au) (tu := upd tu t (tu t + 1)) (fn := upd fn (6 * k + (d - 1)) (nI (i + 1))) (fh := upd fh (6 * k + (d - 1)) (nI g)) hk hd6 ed hK
  rcases bl_all (q := q) (tn := tn) (sl := sl) (pc := pc) (wp := wp) (yd := yd) (nd := nd) (he := he) (co := co) (ca := ca) (cb := cb) (fs := fs) (fc := fc) (ts := ts) (ux := ux) (tl := tl) (ul := ul) (tm := tm) (gc := gc) (ga := ga) (gp := gp) (ss := ss) (st := st) (sf := sf) (tc := tc) (tr := tr) (ow := ow) (ti := ti) (fd := fd) (ft := ft) (fk := fk) (fl := fl) (fv := fv) (rs := rs) (nt := nt) (le := le) (kl := kl) (uy := uy) (fp := fp) (fz := fz) (au := au) (tu := upd tu t (tu t + 1)) (fn := upd fn (6 * k + (d - 1)) (nI (i + 1))) (fh := upd fh (6 * k + (d - 1)) (nI g)) (w := fv (8 * (6 * k + (d - 1)) + g)) (s := r) (Or.inr ⟨k, hk, htn⟩) ht (by omega) j2 b2 b1 j1 j3 j4 with ⟨x2, y2⟩ | ⟨k2, tn', sl', h1, h2, h3, x2, y2⟩
  · refine ⟨(q, tn, sl, pc, wp, he, co, ca, cb, fs, fc, ts, upd tu t (tu t + 1), ux, tl, ul, tm, gc, ga, gp, ss, st, sf, tc, tr, ow, ti, fd, ft, fk, upd fn (6 * k + (d - 1)) (nI (i + 1)), upd (upd fh (6 * k + (d - 1)) (nI g)) (6 * k + (d - 1)) (nI (g + 1)), fl, upd fv (8 * (6 * k + (d - 1)) + g) (-1), rs, nt), (q, wp, tn, sl, yd, nd, co, ca, cb, le, he, kl, upd tu t (tu t + 1), uy, tl, ul, tm, gc, ga, gp, ss, st, sf, fd, tc, tr, ow, ti, ft, upd fn (6 * k + (d - 1)) (nI (i + 1)), upd (upd fh (6 * k + (d - 1)) (nI g)) (6 * k + (d - 1)) (nI (g + 1)), fp, fz, fl, upd fv (8 * (6 * k + (d - 1)) + g) (-1), rs, au), pr_top (i' := i + 1) (h' := g + 1) G (rc_up C) (fun y hy => pk_un hy) pk_us (fun y hy => by rw [pk_un hy, pk_un hy]) pk_us hH hV (Or.inl ⟨hsl, htc, hyd⟩), Or.inl (fun post hp => ?_), fun post hp => ?_⟩
    · exact xe_17 B _ (fun post' hq => by rw [ea]; exact X0 r (-1) _ _ x1 x2 (xl_push (h := g) (by omega) pk_us (by omega) hq)) hp
    · exact yl_sa _ B hn hl (by decide) (by decide) (fun post' hq => by rw [ea]; exact Y0 r (-1) _ _ y1 y2 (yl_push (h := g) (by omega) pk_us (by omega) hq)) hp
  · have ntn : tn ≠ -1 := by rw [htn]; exact ix_neg k (by omega)
    rcases h3 with ⟨z, _, _⟩ | ⟨_, e1, e2⟩
    · exact absurd z ntn
    rw [e1, e2] at x2 y2
    have ck : k2 ≠ k := fun z => h2 (by rw [z]; exact htc)
    obtain ⟨d2, q1, q2, q3, q4⟩ := hO k2 h1 ck
    have d20 : d2 = 0 := by
      rcases Nat.eq_zero_or_pos d2 with z | z
      · exact z
      · exact absurd (q3.mpr z) h2
    subst d20
    have pe : (upd (upd fh (6 * k + (d - 1)) (nI g)) (6 * k2 + 0) 0) (6 * k + (d - 1)) = nI g := by rw [pk_un (by omega), pk_us]
    refine ⟨(q, tn, sl, pc, wp, he, co, ca, cb, fs, fc, ts, upd tu t (tu t + 1), ux, tl, ul, tm, gc, ga, gp, ss, st, sf, upd tc k2 (-1), upd tr k2 0, upd ow k2 (nI t), upd ti k2 r, upd (upd fd k2 0) k2 (nI (0 + 1)), upd ft (6 * k2 + 0) (nI t), upd fk (6 * k2 + 0) 0, upd (upd fn (6 * k + (d - 1)) (nI (i + 1))) (6 * k2 + 0) (nI j), upd (upd (upd fh (6 * k + (d - 1)) (nI g)) (6 * k2 + 0) 0) (6 * k + (d - 1)) (nI (g + 1)), lo_4 fl (6 * k2 + 0) (fv (8 * (6 * k + (d - 1)) + g)), upd fv (8 * (6 * k + (d - 1)) + g) (nI k2), rs, nt), (q, wp, tn, sl, yd, nd, co, ca, cb, le, he, kl, upd tu t (tu t + 1), uy, tl, ul, tm, gc, ga, gp, ss, st, sf, upd (upd fd k2 0) k2 (nI (0 + 1)), upd tc k2 (-1), upd tr k2 0, upd ow k2 (nI t), upd ti k2 r, upd ft (6 * k2 + 0) (nI t), upd (upd fn (6 * k + (d - 1)) (nI (i + 1))) (6 * k2 + 0) (nI j), upd (upd (upd fh (6 * k + (d - 1)) (nI g)) (6 * k2 + 0) 0) (6 * k + (d - 1)) (nI (g + 1)), upd fp (6 * k2 + 0) 0, upd fz (6 * k2 + 0) 0, lo_4 fl (6 * k2 + 0) (fv (8 * (6 * k + (d - 1)) + g)), upd fv (8 * (6 * k + (d - 1)) + g) (nI k2), rs, au), mk_md (rc_up C) htn hsl (Or.inl ⟨hsl, by rw [pk_un (Ne.symm ck)]; exact htc, hyd⟩) ?_ ?_ ?_, Or.inl (fun post hp => ?_), fun post hp => ?_⟩
    · intro k' hk'
      by_cases c2 : k' = k2
      · subst c2
        exact ⟨1, by decide, pk_us, ⟨fun _ => by decide, fun _ => pk_us⟩, fun _ => ⟨⟨pk_us, fun y hy => absurd hy (by omega)⟩, t, j, 0, ht, pk_us, pk_us, by rw [pk_un (by omega)]; exact pk_us, b10 j j1 j3⟩⟩
      · by_cases c3 : k' = k
        · subst c3
          refine ⟨d, hd6, by rw [pk_un c2, pk_un c2]; exact ed, ⟨fun _ => hd0, fun _ => by rw [pk_un c2]; exact htc⟩, fun _ => ⟨tl_cg hd0 hlo (fun y hy => pk_un (by omega)) (fun y hy => by rw [pk_un (by omega), pk_un (by omega)]) (fun y hy => by rw [pk_un (by omega), pk_un (by omega), pk_un (by omega)]) (fun y hy => pk_un (by omega)), t, i + 1, g + 1, ht, by rw [pk_un (by omega)]; exact eft, by rw [pk_un (by omega), pk_us], pk_us, hH⟩⟩
        · exact th_cg (hO k' hk' c3) (fun y hy => pk_un (by omega)) (fun y hy => by rw [pk_un (by omega), pk_un (by omega)]) (fun y hy => by rw [pk_un (by omega), pk_un (by omega), pk_un (by omega)]) (fun y hy => pk_un (by omega)) (pk_un c2) (by rw [pk_un c2, pk_un c2])
    · intro x hx
      by_cases cx : x = 6 * k2 + 0
      · subst cx
        exact Or.inl ⟨pk_us, pk_us, pk_us⟩
      · unfold rl_kx
        rw [pk_un cx, pk_un cx, pk_un cx]
        exact hK x hx
    · exact rv_up (d := 0) (k := k2) hV ht kt (by decide) q2 pk_us (fun y hy => by rw [pk_un hy, pk_un hy]) pk_us (fun y hy => pk_un hy)
    · exact xe_17 B _ (fun post' hq => by rw [ea]; exact X0 r (nI k2) _ _ x1 x2 (xl_push (h := g) (by omega) pe (by omega) hq)) hp
    · exact yl_sa _ B hn hl (by decide) (by decide) (fun post' hq => by rw [ea]; exact Y0 r (nI k2) _ _ y1 y2 (yl_push (h := g) (by omega) pe (by omega) hq)) hp
end
end
section
def pa_n (p : Nat) : Nat := if p < 4 then 1 else if p < 20 then 2 else 3
def pa_b (p : Nat) : Nat := if p < 4 then p else if p < 20 then p - 4 else p - 20
def pa_d (p k : Nat) : Nat := if k < pa_n p then pa_b p / 4 ^ (pa_n p - 1 - k) % 4 else 7
def pa_g (p : Nat) : Nat := pa_d p 0 + 8 * pa_d p 1 + 64 * pa_d p 2
theorem pa_gd : ∀ p, p < 84 → pa_g p < 512 ∧ pt_d (pa_g p) 0 = pa_d p 0 ∧ pt_d (pa_g p) 1 = pa_d p 1 ∧ pt_d (pa_g p) 2 = pa_d p 2 := by decide +kernel
theorem pa_7 : ∀ p, p < 84 → ∀ k, k < 3 → (pa_d p k = 7 ↔ ¬ k < pa_n p) := by decide +kernel
theorem pa_4 : ∀ p, p < 84 → ∀ k, k < 3 → pa_d p k ≠ 7 → pa_d p k < 4 := by decide +kernel
theorem pa_x1 : ∀ p, p < 4 → (nI p + 56) + 448 = nI (pa_g p) := by decide +kernel
theorem pa_x2 : ∀ p, p < 20 → 4 ≤ p → (((nI p - 4) / 4) + (8 * ((nI p - 4) - (nI p - 4) / 4 * 4))) + 448 = nI (pa_g p) := by decide +kernel
theorem pa_x3 : ∀ p, p < 84 → 20 ≤ p → ((((nI p - 20) / 16) + (8 * (((nI p - 20) / 4) - ((nI p - 20) / 4) / 4 * 4))) + (64 * ((nI p - 20) - (nI p - 20) / 4 * 4))) = nI (pa_g p) := by decide +kernel
theorem pa_nl (p : Nat) : 1 ≤ pa_n p ∧ pa_n p ≤ 3 := by
  unfold pa_n
  split
  · omega
  · split <;> omega
def sd_f (w e : Nat) : Prop := (w = 4 ∧ e ≠ 7) ∨ (w ≠ 4 ∧ e = w)
def sd_P (a b c x y z : Nat) : Prop := (a = 5 ∧ x ≠ 7) ∨ (a ≠ 5 ∧ sd_f a x ∧ ((b = 5 ∧ y ≠ 7) ∨ (b ≠ 5 ∧ sd_f b y ∧ ((c = 5 ∧ z ≠ 7) ∨ (c ≠ 5 ∧ sd_f c z)))))
section
variable {q tn sl pc wp yd nd : Int32} {he co ca cb fs fc ts tu ux tl ul tm gc ga gp ss st sf tc tr ow ti fd ft fk fn fh fl fv rs nt le kl uy fp fz au : Nat → Int32}
theorem xl_dg {post : Int32 → Prop} {p : Nat} (hp : p < 84) (h : post (nI (pa_g p))) : wpX_digitsOf post (nI p) := by
  have n4 : ¬ (4 : Int32) = 0 := by decide
  have n16 : ¬ (16 : Int32) = 0 := by decide
  by_cases c1 : p < 4
  · exact br_f (ix_ge 4 rfl c1 (by decide)) (by rw [pa_x1 p c1]; exact h)
  · by_cases c2 : p < 20
    · refine br_t (ix_le 4 rfl (by omega) (by omega)) (br_f (ix_ge 20 rfl c2 (by decide)) (nm_e ⟨n4, n4, ?_⟩))
      rw [pa_x2 p c2 (by omega)]
      exact h
    · refine br_t (ix_le 4 rfl (by omega) (by omega)) (br_t (ix_le 20 rfl (by omega) (by omega)) (nm_e ⟨n16, n4, n4, n4, ?_⟩))
      rw [pa_x3 p hp (by omega)]
      exact h
theorem xs_it {post : Int32 → Prop} {m D k n : Nat} (hm : m < 512) (hD : D < 512) (hk : k < 3)
    (h51 : pt_d m k = 5 → pt_d D k ≠ 7 → post 1) (h50 : pt_d m k = 5 → pt_d D k = 7 → post 0) (h0 : pt_d m k ≠ 5 → ¬ sd_f (pt_d m k) (pt_d D k) → post 0)
    (h1 : pt_d m k ≠ 5 → sd_f (pt_d m k) (pt_d D k) → wX_standsFor_2 post (nI m) (nI D) n (nI (k + 1))) : wX_standsFor_2 post (nI m) (nI D) (n + 1) (nI k) := by
  have q5 := pt_c (m := m) (k := k) 5 5 rfl (by decide)
  have q4 := pt_c (m := m) (k := k) 4 4 rfl (by decide)
  have q7 := pt_c (m := D) (k := k) 7 7 rfl (by decide)
  have qe : nI (pt_d D k) = nI (pt_d m k) ↔ pt_d D k = pt_d m k := nI_eq (by have := pt_lt D k; omega) (by have := pt_lt m k; omega)
  refine br_f (ix_ge 3 rfl hk (by decide)) (nm_r (pt_sh k hk m hm) (nm_r (pt_sh k hk D hD) ?_))
  by_cases c5 : pt_d m k = 5
  · refine br_t (q5.mpr c5) ?_
    by_cases c7 : pt_d D k = 7
    · exact br_t (q7.mpr c7) (h50 c5 c7)
    · exact br_f (fun z => c7 (q7.mp z)) (h51 c5 c7)
  · refine br_f (fun z => c5 (q5.mp z)) ?_
    by_cases c4 : pt_d m k = 4
    · refine br_t (q4.mpr c4) ?_
      by_cases c7 : pt_d D k = 7
      · exact br_t (q7.mpr c7) (br_t rfl (h0 c5 (by unfold sd_f; omega)))
      · exact br_f (fun z => c7 (q7.mp z)) (br_f (by decide) (nm_r (nI_1 k) (h1 c5 (Or.inl ⟨c4, c7⟩))))
    · refine br_f (fun z => c4 (q4.mp z)) ?_
      by_cases ce : pt_d D k = pt_d m k
      · exact br_t (qe.mpr ce) (br_f (by decide) (nm_r (nI_1 k) (h1 c5 (Or.inr ⟨c4, ce⟩))))
      · exact br_f (fun z => ce (qe.mp z)) (br_t rfl (h0 c5 (by unfold sd_f; omega)))
theorem xs_ok {post : Int32 → Prop} {m p : Nat} (hm : m < 512) (hp : p < 84) (h1 : sd_P (pt_d m 0) (pt_d m 1) (pt_d m 2) (pa_d p 0) (pa_d p 1) (pa_d p 2) → post 1) (h0 : ¬ sd_P (pt_d m 0) (pt_d m 1) (pt_d m 2) (pa_d p 0) (pa_d p 1) (pa_d p 2) → post 0) : wpX_standsFor post (nI m) (nI (pa_g p)) := by
  obtain ⟨g0, g1, g2, g3⟩ := pa_gd p hp
  rw [← g1, ← g2, ← g3] at h1 h0
  unfold sd_P at h1 h0
  refine ⟨4, ?_⟩
  refine xs_it (k := 0) hm g0 (by decide) (fun a b => h1 (Or.inl ⟨a, b⟩)) (fun a b => h0 ?_) (fun a b => h0 ?_) (fun a0 b0 => ?_)
  · rintro (z | z)
    · exact z.2 b
    · exact z.1 a
  · rintro (z | z)
    · exact a z.1
    · exact b z.2.1
  refine xs_it (k := 1) hm g0 (by decide) (fun a b => h1 (Or.inr ⟨a0, b0, Or.inl ⟨a, b⟩⟩)) (fun a b => h0 ?_) (fun a b => h0 ?_) (fun a1 b1 => ?_)
  · rintro (z | ⟨_, _, z | z⟩)
    · exact a0 z.1
    · exact z.2 b
    · exact z.1 a
  · rintro (z | ⟨_, _, z | z⟩)
    · exact a0 z.1
    · exact a z.1
    · exact b z.2.1
  refine xs_it (k := 2) hm g0 (by decide) (fun a b => h1 (Or.inr ⟨a0, b0, Or.inr ⟨a1, b1, Or.inl ⟨a, b⟩⟩⟩)) (fun a b => h0 ?_) (fun a b => h0 ?_) (fun a2 b2 => ?_)
  · rintro (z | ⟨_, _, z | ⟨_, _, z | z⟩⟩)
    · exact a0 z.1
    · exact a1 z.1
    · exact z.2 b
    · exact z.1 a
  · rintro (z | ⟨_, _, z | ⟨_, _, z | z⟩⟩)
    · exact a0 z.1
    · exact a1 z.1
    · exact a z.1
    · exact b z.2
  exact br_t (by decide) (h1 (Or.inr ⟨a0, b0, Or.inr ⟨a1, b1, Or.inr ⟨a2, b2⟩⟩⟩))
theorem yl_sgs {post : Int32 → Prop} {p : Nat} (hp : p < 84) (h : post (nI (pa_n p))) : wpY_segments post (q, wp, tn, sl, yd, nd, co, ca, cb, le, he, kl, tu, uy, tl, ul, tm, gc, ga, gp, ss, st, sf, fd, tc, tr, ow, ti, ft, fn, fh, fp, fz, fl, fv, rs, au) (nI p) := by
  unfold pa_n at h
  by_cases c1 : p < 4
  · rw [if_pos c1] at h
    exact br_f (ix_ge 4 rfl c1 (by decide)) h
  · rw [if_neg c1] at h
    by_cases c2 : p < 20
    · rw [if_pos c2] at h
      exact br_t (ix_le 4 rfl (by omega) (by omega)) (br_f (ix_ge 20 rfl c2 (by decide)) h)
    · rw [if_neg c2] at h
      exact br_t (ix_le 4 rfl (by omega) (by omega)) (br_t (ix_le 20 rfl (by omega) (by omega)) h)
theorem yl_sg35 {post : Int32 → Prop} {k : Nat} (hk : k < 100) : ∀ m s : Nat, s < 1000 → m < 100 → post (nI (s / 4 ^ m % 4)) → wY_segment_35 post (nI k) q wp tn sl yd nd co ca cb le he kl tu uy tl ul tm gc ga gp ss st sf fd tc tr ow ti ft fn fh fp fz fl fv rs au (m + 1) (nI s) (nI (k + m)) := by
  have n4 : ¬ (4 : Int32) = 0 := by decide
  intro m
  induction m with
  | zero =>
    intro s hs _ h
    refine br_t (nI_le (by omega) (by omega)) ⟨n4, ?_⟩
    have e : nI s - nI s / 4 * 4 = nI (s % 4) := pk_rem (d := 4) (by omega) (by decide) (by decide)
    rw [e]
    rw [Nat.pow_zero, Nat.div_one] at h
    exact h
  | succ m ih =>
    intro s hs hm h
    have e : nI s / 4 = nI (s / 4) := pk_div (d := 4) (by omega) (by decide) (by decide)
    refine br_f (nI_ge (by omega) (by omega)) ⟨n4, nm_r e (nm_r (e' := nI (k + m)) (pk_m1 (k + m)) (ih (s / 4) (by omega) (by omega) ?_))⟩
    rw [Nat.div_div_eq_div_mul, ← Nat.pow_succ']
    exact h
theorem yl_seg {post : Int32 → Prop} {p k : Nat} (hp : p < 84) (hk : k < pa_n p) (h : post (nI (pa_d p k))) : wpY_segment post (q, wp, tn, sl, yd, nd, co, ca, cb, le, he, kl, tu, uy, tl, ul, tm, gc, ga, gp, ss, st, sf, fd, tc, tr, ow, ti, ft, fn, fh, fp, fz, fl, fv, rs, au) (nI p) (nI k) := by
  have nl := pa_nl p
  have key : ∀ s : Nat, s < 1000 → s = pa_b p → wY_segment_25 post (nI p) (nI k) (nI s) q wp tn sl yd nd co ca cb le he kl tu uy tl ul tm gc ga gp ss st sf fd tc tr ow ti ft fn fh fp fz fl fv rs au := by
    intro s hs es
    subst es
    unfold wY_segment_25
    refine yl_sgs hp (nm_r (e' := nI (k + (pa_n p - 1 - k))) ?_ ⟨pa_n p - 1 - k + 1, yl_sg35 (by omega) _ _ hs (by omega) ?_⟩)
    · rw [ix_p (by omega)]
      exact congrArg nI (by omega)
    · unfold pa_d at h
      rw [if_pos hk] at h
      exact h
  have hb : pa_b p = (if p < 4 then p else if p < 20 then p - 4 else p - 20) := rfl
  by_cases c1 : p < 4
  · rw [if_pos c1] at hb
    exact br_f (ix_ge 4 rfl c1 (by decide)) (key p (by omega) hb.symm)
  · rw [if_neg c1] at hb
    by_cases c2 : p < 20
    · rw [if_pos c2] at hb
      refine br_t (ix_le 4 rfl (by omega) (by omega)) (br_f (ix_ge 20 rfl c2 (by decide)) ?_)
      have e : nI p - 4 = nI (p - 4) := pk_sub (b := 4) (by omega)
      rw [e]
      exact key (p - 4) (by omega) hb.symm
    · rw [if_neg c2] at hb
      refine br_t (ix_le 4 rfl (by omega) (by omega)) (br_t (ix_le 20 rfl (by omega) (by omega)) ?_)
      have e : nI p - 20 = nI (p - 20) := pk_sub (b := 20) (by omega)
      rw [e]
      exact key (p - 20) (by omega) hb.symm
theorem ys_it {post : Int32 → Prop} {m p k n : Nat} (hm : m < 512) (hp : p < 84) (hk : k < 3)
    (h71 : pt_d m k = 7 → pa_n p = k → post 1) (h70 : pt_d m k = 7 → pa_n p ≠ k → post 0) (hn : pt_d m k ≠ 7 → pa_n p ≤ k → post 0)
    (h5 : pt_d m k = 5 → k < pa_n p → post 1) (hq : pt_d m k < 4 → k < pa_n p → pt_d m k ≠ pa_d p k → post 0)
    (h1 : pt_d m k ≠ 7 → pt_d m k ≠ 5 → k < pa_n p → (4 ≤ pt_d m k ∨ pt_d m k = pa_d p k) → wY_stands_9 post (nI m) (nI p) (nI (pa_n p)) q wp tn sl yd nd co ca cb le he kl tu uy tl ul tm gc ga gp ss st sf fd tc tr ow ti ft fn fh fp fz fl fv rs au n (nI (k + 1))) :
    wY_stands_9 post (nI m) (nI p) (nI (pa_n p)) q wp tn sl yd nd co ca cb le he kl tu uy tl ul tm gc ga gp ss st sf fd tc tr ow ti ft fn fh fp fz fl fv rs au (n + 1) (nI k) := by
  have nl := pa_nl p
  have l8 := pt_lt m k
  have q5 := pt_c (m := m) (k := k) 5 5 rfl (by decide)
  have q7 := pt_c (m := m) (k := k) 7 7 rfl (by decide)
  refine br_f (ix_ge 3 rfl hk (by decide)) ?_
  unfold wpY_digit
  rw [pt_sh k hk m hm]
  by_cases c7 : pt_d m k = 7
  · refine br_t (q7.mpr c7) ?_
    by_cases c : pa_n p = k
    · exact br_t (by rw [c]) (h71 c7 c)
    · exact br_f (fun z => c ((nI_eq (by omega) (by omega)).mp z)) (h70 c7 c)
  · refine br_f (fun z => c7 (q7.mp z)) ?_
    by_cases c : k < pa_n p
    · refine br_t (nI_lt c (by omega)) ?_
      by_cases c5 : pt_d m k = 5
      · exact br_t (q5.mpr c5) (h5 c5 c)
      · refine br_f (fun z => c5 (q5.mp z)) ?_
        by_cases c4 : 4 ≤ pt_d m k
        · exact br_t (ix_le 4 rfl c4 (by omega)) (nm_r (nI_1 k) (h1 c7 c5 c (Or.inl c4)))
        · refine br_f (ix_ge 4 rfl (by omega) (by decide)) (yl_seg hp c ?_)
          have pd4 : pa_d p k < 4 := pa_4 p hp k hk (fun z => (pa_7 p hp k hk).mp z c)
          by_cases ce : pt_d m k = pa_d p k
          · exact br_t (by rw [ce]) (nm_r (nI_1 k) (h1 c7 c5 c (Or.inr ce)))
          · exact br_f (fun z => ce ((nI_eq (by omega) (by omega)).mp z)) (hq (by omega) c ce)
    · exact br_f (nI_nlt (by omega) (by omega)) (hn c7 (by omega))
theorem ys_ok {post : Int32 → Prop} {m p : Nat} (hm : m < 512) (hp : p < 84) (hv : pt_v (pt_d m 0) (pt_d m 1) (pt_d m 2)) (h1 : sd_P (pt_d m 0) (pt_d m 1) (pt_d m 2) (pa_d p 0) (pa_d p 1) (pa_d p 2) → post 1) (h0 : ¬ sd_P (pt_d m 0) (pt_d m 1) (pt_d m 2) (pa_d p 0) (pa_d p 1) (pa_d p 2) → post 0) : wpY_stands post (q, wp, tn, sl, yd, nd, co, ca, cb, le, he, kl, tu, uy, tl, ul, tm, gc, ga, gp, ss, st, sf, fd, tc, tr, ow, ti, ft, fn, fh, fp, fz, fl, fv, rs, au) (nI m) (nI p) := by
  have nl := pa_nl p
  have l0 := pt_lt m 0
  have l1 := pt_lt m 1
  have l2 := pt_lt m 2
  have s0 := pa_7 p hp 0 (by decide)
  have s1 := pa_7 p hp 1 (by decide)
  have s2 := pa_7 p hp 2 (by decide)
  have f0 := pa_4 p hp 0 (by decide)
  have f1 := pa_4 p hp 1 (by decide)
  have f2 := pa_4 p hp 2 (by decide)
  unfold pt_v at hv
  unfold sd_P sd_f at h1 h0
  unfold wpY_stands; dsimp only
  refine yl_sgs hp ⟨4, ?_⟩
  refine ys_it (k := 0) hm hp (by decide) (fun a b => h1 (by omega)) (fun a b => h0 (by omega)) (fun a b => h0 (by omega)) (fun a b => h1 (by omega)) (fun a b c => h0 (by omega)) (fun a0 b0 c0 d0 => ?_)
  refine ys_it (k := 1) hm hp (by decide) (fun a b => h1 (by omega)) (fun a b => h0 (by omega)) (fun a b => h0 (by omega)) (fun a b => h1 (by omega)) (fun a b c => h0 (by omega)) (fun a1 b1 c1 d1 => ?_)
  refine ys_it (k := 2) hm hp (by decide) (fun a b => h1 (by omega)) (fun a b => h0 (by omega)) (fun a b => h0 (by omega)) (fun a b => h1 (by omega)) (fun a b c => h0 (by omega)) (fun a2 b2 c2 d2 => ?_)
  refine br_t (by decide) ?_
  exact br_t (by rw [show pa_n p = 3 by omega]; rfl) (h1 (by omega))
theorem ml_loop {t g a p : Nat} (ht : t < 4) (hg : g ≤ 6) (eg : gc t = nI g) (hp : p < 84) (hv : ∀ j, j < g → pt_ok (gp (6 * t + j))) : ∀ d i : Nat, i + d = 6 * t + g → 6 * t ≤ i → ∃ r : Int32,
    (∀ post : Int32 → Prop, post r → wX_may_10 post (nI t) (nI a) (nI (pa_g p)) (nI (6 * t)) q tn sl pc wp he co ca cb fs fc ts tu ux tl ul tm gc ga gp ss st sf tc tr ow ti fd ft fk fn fh fl fv rs nt (d + 1) (nI i)) ∧ (∀ post : Int32 → Prop, post r → wY_may_6 post (nI t) (nI a) (nI p) q wp tn sl yd nd co ca cb le he kl tu uy tl ul tm gc ga gp ss st sf fd tc tr ow ti ft fn fh fp fz fl fv rs au (d + 1) (nI i)) := by
  have et : (nI t).toNatClampNeg = t := nI_clamp (by omega)
  have vt : vp_in (nI t) 4 := vp_in_nI ht (by decide)
  have eX : nI (6 * t) + gc (nI t).toNatClampNeg = nI (6 * t + g) := by rw [et, eg, nI_add]
  have eY : 6 * nI t + gc (nI t).toNatClampNeg = nI (6 * t + g) := by rw [et, eg]; exact ix_l 6 rfl t g
  intro d
  induction d with
  | zero =>
    intro i hi h6
    have l : nI (6 * t + g) ≤ nI i := nI_le (by omega) (by omega)
    exact ⟨0, fun _ h => ⟨vt, br_t (by rw [eX]; exact l) h⟩, fun _ h => ⟨vt, br_t (by rw [eY]; exact l) h⟩⟩
  | succ d ih =>
    intro i hi h6
    obtain ⟨r, hx, hy⟩ := ih (i + 1) (by omega) (by omega)
    have l : ¬ nI (6 * t + g) ≤ nI i := nI_ge (by omega) (by omega)
    have ei : (nI i).toNatClampNeg = i := nI_clamp (by omega)
    have vi : vp_in (nI i) 24 := vp_in_nI (by omega) (by decide)
    by_cases ca : ((ga (nI i).toNatClampNeg) >>> (nI a &&& 31)) &&& 1 = 1
    · obtain ⟨m, hm, em, hpv⟩ := hv (i - 6 * t) (by omega)
      rw [show 6 * t + (i - 6 * t) = i by omega] at em
      by_cases cs : sd_P (pt_d m 0) (pt_d m 1) (pt_d m 2) (pa_d p 0) (pa_d p 1) (pa_d p 2)
      · refine ⟨1, fun post h => ⟨vt, br_f (by rw [eX]; exact l) ⟨vi, br_t ca (br_f (by decide) ⟨vi, ?_⟩)⟩⟩, fun post h => ⟨vt, br_f (by rw [eY]; exact l) ⟨vi, br_t ca ⟨vi, ?_⟩⟩⟩⟩
        · rw [ei, em]
          exact xs_ok hm hp (fun _ => br_f (by decide) h) (fun z => absurd cs z)
        · rw [ei, em]
          exact ys_ok hm hp hpv (fun _ => br_f (by decide) h) (fun z => absurd cs z)
      · refine ⟨r, fun post h => ⟨vt, br_f (by rw [eX]; exact l) ⟨vi, br_t ca (br_f (by decide) ⟨vi, ?_⟩)⟩⟩, fun post h => ⟨vt, br_f (by rw [eY]; exact l) ⟨vi, br_t ca ⟨vi, ?_⟩⟩⟩⟩
        · rw [ei, em]
          exact xs_ok hm hp (fun z => absurd z cs) (fun _ => br_t rfl (nm_r (nI_1 i) (hx post h)))
        · rw [ei, em]
          exact ys_ok hm hp hpv (fun z => absurd z cs) (fun _ => br_t rfl (nm_r (nI_1 i) (hy post h)))
    · exact ⟨r, fun post h => ⟨vt, br_f (by rw [eX]; exact l) ⟨vi, br_f ca (br_t rfl (nm_r (nI_1 i) (hx post h)))⟩⟩, fun post h => ⟨vt, br_f (by rw [eY]; exact l) ⟨vi, br_f ca (nm_r (nI_1 i) (hy post h))⟩⟩⟩
theorem ml_all {t a p : Nat} (ht : t < 4) (hG : rl_g gc gp) (hp : p < 84) : ∃ r : Int32,
    (∀ post : Int32 → Prop, post r → wpX_may post (q, tn, sl, pc, wp, he, co, ca, cb, fs, fc, ts, tu, ux, tl, ul, tm, gc, ga, gp, ss, st, sf, tc, tr, ow, ti, fd, ft, fk, fn, fh, fl, fv, rs, nt) (nI t) (nI a) (nI (pa_g p))) ∧ (∀ post : Int32 → Prop, post r → wpY_may post (q, wp, tn, sl, yd, nd, co, ca, cb, le, he, kl, tu, uy, tl, ul, tm, gc, ga, gp, ss, st, sf, fd, tc, tr, ow, ti, ft, fn, fh, fp, fz, fl, fv, rs, au) (nI t) (nI a) (nI p)) := by
  obtain ⟨g, hg, eg, hv⟩ := hG t ht
  obtain ⟨r, hx, hy⟩ := ml_loop (q := q) (tn := tn) (sl := sl) (pc := pc) (wp := wp) (yd := yd) (nd := nd) (he := he) (co := co) (ca := ca) (cb := cb) (fs := fs) (fc := fc) (ts := ts) (tu := tu) (ux := ux) (tl := tl) (ul := ul) (tm := tm) (gc := gc) (ga := ga) (gp := gp) (ss := ss) (st := st) (sf := sf) (tc := tc) (tr := tr) (ow := ow) (ti := ti) (fd := fd) (ft := ft) (fk := fk) (fn := fn) (fh := fh) (fl := fl) (fv := fv) (rs := rs) (nt := nt) (le := le) (kl := kl) (uy := uy) (fp := fp) (fz := fz) (au := au) (a := a) ht hg eg hp hv g (6 * t) rfl (Nat.le_refl _)
  exact ⟨r, fun post h => nm_r (ix_m 6 rfl t) ⟨_, hx post h⟩, fun post h => nm_r (ix_n 6 rfl t) ⟨_, hy post h⟩⟩
end
end
section
/-- path q lies behind path p: by X's two steps up, by Y's segments -/
def bh_X (p q : Nat) : Bool := decide (4 ≤ q ∧ q < 20 ∧ (q - 4) / 4 = p) || decide (20 ≤ q ∧ (4 + (q - 20) / 4 = p ∨ (q - 20) / 4 / 4 = p))
def bh_Y (p q : Nat) : Bool := decide (pa_n p < pa_n q) && decide (pa_d q 0 = pa_d p 0) && (decide (pa_n p ≤ 1) || decide (pa_d q 1 = pa_d p 1)) && (decide (pa_n p ≤ 2) || decide (pa_d q 2 = pa_d p 2))
theorem pa_t1 : ∀ p, p < 4 → pa_n p = 1 ∧ pa_d p 0 = p ∧ pa_d p 1 = 7 ∧ pa_d p 2 = 7 := by decide +kernel
theorem pa_t2 : ∀ p, p < 20 → 4 ≤ p → pa_n p = 2 ∧ pa_d p 0 = (p - 4) / 4 ∧ pa_d p 1 = (p - 4) % 4 ∧ pa_d p 2 = 7 := by decide +kernel
theorem pa_t3 : ∀ p, p < 84 → 20 ≤ p → pa_n p = 3 ∧ pa_d p 0 = (p - 20) / 4 / 4 ∧ pa_d p 1 = (p - 20) / 4 % 4 ∧ pa_d p 2 = (p - 20) % 4 := by decide +kernel
theorem bh_e (p : Nat) (hp : p < 84) (q : Nat) (hq : q < 84) : bh_X p q = bh_Y p q := by
  rw [Bool.eq_iff_iff]
  simp only [bh_X, bh_Y, Bool.or_eq_true, Bool.and_eq_true, decide_eq_true_eq]
  have p1 := pa_t1 p
  have p2 := pa_t2 p
  have p3 := pa_t3 p hp
  have q1 := pa_t1 q
  have q2 := pa_t2 q
  have q3 := pa_t3 q hq
  have dp : (p < 4) ∨ (4 ≤ p ∧ p < 20) ∨ 20 ≤ p := by omega
  have dq : (q < 4) ∨ (4 ≤ q ∧ q < 20) ∨ 20 ≤ q := by omega
  rcases dp with cp | ⟨cp, cp'⟩ | cp
  · obtain ⟨a1, a2, a3, a4⟩ := p1 cp
    rcases dq with cq | ⟨cq, cq'⟩ | cq
    · obtain ⟨b1, b2, b3, b4⟩ := q1 cq
      rw [a1, a2, a3, a4, b1, b2, b3, b4]; omega
    · obtain ⟨b1, b2, b3, b4⟩ := q2 cq' cq
      rw [a1, a2, a3, a4, b1, b2, b3, b4]; omega
    · obtain ⟨b1, b2, b3, b4⟩ := q3 cq
      rw [a1, a2, a3, a4, b1, b2, b3, b4]; omega
  · obtain ⟨a1, a2, a3, a4⟩ := p2 cp' cp
    rcases dq with cq | ⟨cq, cq'⟩ | cq
    · obtain ⟨b1, b2, b3, b4⟩ := q1 cq
      rw [a1, a2, a3, a4, b1, b2, b3, b4]; omega
    · obtain ⟨b1, b2, b3, b4⟩ := q2 cq' cq
      rw [a1, a2, a3, a4, b1, b2, b3, b4]; omega
    · obtain ⟨b1, b2, b3, b4⟩ := q3 cq
      rw [a1, a2, a3, a4, b1, b2, b3, b4]; omega
  · obtain ⟨a1, a2, a3, a4⟩ := p3 cp
    rcases dq with cq | ⟨cq, cq'⟩ | cq
    · obtain ⟨b1, b2, b3, b4⟩ := q1 cq
      rw [a1, a2, a3, a4, b1, b2, b3, b4]; omega
    · obtain ⟨b1, b2, b3, b4⟩ := q2 cq' cq
      rw [a1, a2, a3, a4, b1, b2, b3, b4]; omega
    · obtain ⟨b1, b2, b3, b4⟩ := q3 cq
      rw [a1, a2, a3, a4, b1, b2, b3, b4]; omega
section
variable {q tn sl pc wp yd nd : Int32} {he co ca cb fs fc ts tu ux tl ul tm gc ga gp ss st sf tc tr ow ti fd ft fk fn fh fl fv rs nt le kl uy fp fz au : Nat → Int32}
theorem xl_ab1 {post : Int32 → Prop} {x : Int32} (hx : ¬ (4 : Int32) ≤ x) (h : post (-1)) : wpX_pathAbove post x := br_f hx h
theorem xl_ab2 {post : Int32 → Prop} {b : Nat} (h1 : 4 ≤ b) (h2 : b < 20) (h : post (nI ((b - 4) / 4))) : wpX_pathAbove post (nI b) := by
  refine br_t (ix_le 4 rfl h1 (by omega)) (br_f (ix_ge 20 rfl h2 (by decide)) ⟨by decide, ?_⟩)
  have e : (nI b - 4) / 4 = nI ((b - 4) / 4) := by
    have e1 : nI b - 4 = nI (b - 4) := pk_sub (b := 4) h1
    rw [e1]
    exact pk_div (d := 4) (by omega) (by decide) (by decide)
  rw [e]
  exact h
theorem xl_ab3 {post : Int32 → Prop} {b : Nat} (h1 : 20 ≤ b) (h2 : b < 84) (h : post (nI (4 + (b - 20) / 4))) : wpX_pathAbove post (nI b) := by
  refine br_t (ix_le 4 rfl (by omega) (by omega)) (br_t (ix_le 20 rfl h1 (by omega)) ⟨by decide, ?_⟩)
  have e : 4 + (nI b - 20) / 4 = nI (4 + (b - 20) / 4) := by
    have e1 : nI b - 20 = nI (b - 20) := pk_sub (b := 20) h1
    have e2 : nI (b - 20) / 4 = nI ((b - 20) / 4) := pk_div (d := 4) (by omega) (by decide) (by decide)
    rw [e1, e2]
    exact ix_a 4 rfl _
  rw [e]
  exact h
/-- one path of X's count -/
theorem xb_one {post : Int32 → Prop} {J : Int32 → Int32 → Prop} {p b : Nat} {c : Int32} (hp : p < 84) (hq : b < 84) (h1 : bh_X p b = true → wX_countBehind_36 post J (nI p) c (nI b) 1 q tn sl pc wp he co ca cb fs fc ts tu ux tl ul tm gc ga gp ss st sf tc tr ow ti fd ft fk fn fh fl fv rs nt) (h0 : bh_X p b = false → wX_countBehind_36 post J (nI p) c (nI b) 0 q tn sl pc wp he co ca cb fs fc ts tu ux tl ul tm gc ga gp ss st sf tc tr ow ti fd ft fk fn fh fl fv rs nt) :
    wpX_pathAbove (fun r_2 => (((r_2 = nI p → (wX_countBehind_31 post J (nI p) c (nI b) q tn sl pc wp he co ca cb fs fc ts tu ux tl ul tm gc ga gp ss st sf tc tr ow ti fd ft fk fn fh fl fv rs nt)) ∧ (¬ r_2 = nI p → (wpX_pathAbove (fun r_11 => (((r_11 = nI p → (wX_countBehind_31 post J (nI p) c (nI b) q tn sl pc wp he co ca cb fs fc ts tu ux tl ul tm gc ga gp ss st sf tc tr ow ti fd ft fk fn fh fl fv rs nt)) ∧ (¬ r_11 = nI p → (wX_countBehind_36 post J (nI p) c (nI b) 0 q tn sl pc wp he co ca cb fs fc ts tu ux tl ul tm gc ga gp ss st sf tc tr ow ti fd ft fk fn fh fl fv rs nt))))) r_2))))) (nI b) := by
  have n1 : ¬ (-1 : Int32) = nI p := fun z => ix_neg p (by omega) z.symm
  by_cases c1 : b < 4
  · refine xl_ab1 (ix_ge 4 rfl c1 (by decide)) (br_f n1 (xl_ab1 (by decide) (br_f n1 (h0 ?_))))
    simp only [bh_X, Bool.or_eq_false_iff, decide_eq_false_iff_not]
    omega
  · by_cases c2 : b < 20
    · refine xl_ab2 (by omega) c2 ?_
      by_cases ce : (b - 4) / 4 = p
      · refine br_t (by rw [ce]) (h1 ?_)
        simp only [bh_X, Bool.or_eq_true, decide_eq_true_eq]
        omega
      · refine br_f (fun z => ce ((nI_eq (by omega) (by omega)).mp z)) (xl_ab1 (ix_ge 4 rfl (by omega) (by decide)) (br_f n1 (h0 ?_)))
        simp only [bh_X, Bool.or_eq_false_iff, decide_eq_false_iff_not]
        omega
    · refine xl_ab3 (by omega) hq ?_
      by_cases ce : 4 + (b - 20) / 4 = p
      · refine br_t (by rw [ce]) (h1 ?_)
        simp only [bh_X, Bool.or_eq_true, decide_eq_true_eq]
        omega
      · refine br_f (fun z => ce ((nI_eq (by omega) (by omega)).mp z)) (xl_ab2 (by omega) (by omega) ?_)
        rw [show (4 + (b - 20) / 4 - 4) / 4 = (b - 20) / 4 / 4 by omega]
        by_cases cf : (b - 20) / 4 / 4 = p
        · refine br_t (by rw [cf]) (h1 ?_)
          simp only [bh_X, Bool.or_eq_true, decide_eq_true_eq]
          omega
        · refine br_f (fun z => cf ((nI_eq (by omega) (by omega)).mp z)) (h0 ?_)
          simp only [bh_X, Bool.or_eq_false_iff, decide_eq_false_iff_not]
          omega
theorem yb_0 {post : Int32 → Prop} {J : Int32 → Int32 → Prop} {p b n j : Nat} {c : Int32} (hp : p < 84) (h : wY_behind_87 post J (nI p) c (nI b) 0 q wp tn sl yd nd co ca cb le he kl tu uy tl ul tm gc ga gp ss st sf fd tc tr ow ti ft fn fh fp fz fl fv rs au) : wY_behind_42 post J (nI p) c (nI b) q wp tn sl yd nd co ca cb le he kl tu uy tl ul tm gc ga gp ss st sf fd tc tr ow ti ft fn fh fp fz fl fv rs au (n + 1) 0 (nI j) := by
  rw [wY_behind_42]
  refine yl_sgs hp ?_
  by_cases cl : nI (pa_n p) ≤ nI j
  · exact br_t cl h
  · exact br_f cl (br_t rfl h)
theorem yb_1 {post : Int32 → Prop} {J : Int32 → Int32 → Prop} {p b n j : Nat} {c : Int32} (hp : p < 84) (hq : b < 84) (hpq : pa_n p < pa_n b) (hj : j < 3)
    (hE : pa_n p ≤ j → wY_behind_87 post J (nI p) c (nI b) 1 q wp tn sl yd nd co ca cb le he kl tu uy tl ul tm gc ga gp ss st sf fd tc tr ow ti ft fn fh fp fz fl fv rs au) (h0 : j < pa_n p → pa_d b j ≠ pa_d p j → wY_behind_87 post J (nI p) c (nI b) 0 q wp tn sl yd nd co ca cb le he kl tu uy tl ul tm gc ga gp ss st sf fd tc tr ow ti ft fn fh fp fz fl fv rs au) (h1 : j < pa_n p → pa_d b j = pa_d p j → wY_behind_42 post J (nI p) c (nI b) q wp tn sl yd nd co ca cb le he kl tu uy tl ul tm gc ga gp ss st sf fd tc tr ow ti ft fn fh fp fz fl fv rs au (n + 1) 1 (nI (j + 1))) :
    wY_behind_42 post J (nI p) c (nI b) q wp tn sl yd nd co ca cb le he kl tu uy tl ul tm gc ga gp ss st sf fd tc tr ow ti ft fn fh fp fz fl fv rs au (n + 2) 1 (nI j) := by
  have nl := pa_nl p
  have nq := pa_nl b
  rw [wY_behind_42]
  refine yl_sgs hp ?_
  by_cases cl : pa_n p ≤ j
  · exact br_t (nI_le cl (by omega)) (hE cl)
  · have fp4 : pa_d p j < 4 := pa_4 p hp j hj (fun z => (pa_7 p hp j hj).mp z (by omega))
    have fq4 : pa_d b j < 4 := pa_4 b hq j hj (fun z => (pa_7 b hq j hj).mp z (by omega))
    refine br_f (nI_ge (by omega) (by omega)) (br_f (by decide) (yl_seg hq (by omega) (yl_seg hp (by omega) ?_)))
    by_cases ce : pa_d b j = pa_d p j
    · exact br_t (by rw [ce]) (nm_r (nI_1 j) (h1 (by omega) ce))
    · exact br_f (fun z => ce ((nI_eq (by omega) (by omega)).mp z)) (nm_r (nI_1 j) (yb_0 hp (h0 (by omega) ce)))
theorem yb_one {post : Int32 → Prop} {J : Int32 → Int32 → Prop} {p b : Nat} {c : Int32} (hp : p < 84) (hq : b < 84) (hpq : pa_n p < pa_n b) (h1 : bh_Y p b = true → wY_behind_87 post J (nI p) c (nI b) 1 q wp tn sl yd nd co ca cb le he kl tu uy tl ul tm gc ga gp ss st sf fd tc tr ow ti ft fn fh fp fz fl fv rs au) (h0 : bh_Y p b = false → wY_behind_87 post J (nI p) c (nI b) 0 q wp tn sl yd nd co ca cb le he kl tu uy tl ul tm gc ga gp ss st sf fd tc tr ow ti ft fn fh fp fz fl fv rs au) :
    wY_behind_42 post J (nI p) c (nI b) q wp tn sl yd nd co ca cb le he kl tu uy tl ul tm gc ga gp ss st sf fd tc tr ow ti ft fn fh fp fz fl fv rs au 4 1 0 := by
  have nl := pa_nl p
  have nq := pa_nl b
  have T : (pa_d b 0 = pa_d p 0 ∧ (pa_n p ≤ 1 ∨ pa_d b 1 = pa_d p 1) ∧ (pa_n p ≤ 2 ∨ pa_d b 2 = pa_d p 2)) → bh_Y p b = true := by
    intro z
    simp only [bh_Y, Bool.and_eq_true, Bool.or_eq_true, decide_eq_true_eq]
    exact ⟨⟨⟨hpq, z.1⟩, z.2.1⟩, z.2.2⟩
  have F : ¬ (pa_d b 0 = pa_d p 0 ∧ (pa_n p ≤ 1 ∨ pa_d b 1 = pa_d p 1) ∧ (pa_n p ≤ 2 ∨ pa_d b 2 = pa_d p 2)) → bh_Y p b = false := by
    intro z
    cases hb : bh_Y p b with
    | false => rfl
    | true =>
      simp only [bh_Y, Bool.and_eq_true, Bool.or_eq_true, decide_eq_true_eq] at hb
      exact absurd ⟨hb.1.1.2, hb.1.2, hb.2⟩ z
  refine yb_1 (j := 0) hp hq hpq (by decide) (fun a => absurd a (by omega)) (fun a b' => h0 (F (fun z => b' z.1))) (fun a0 b0 => ?_)
  refine yb_1 (j := 1) hp hq hpq (by decide) (fun a => h1 (T ⟨b0, Or.inl a, Or.inl (by omega)⟩)) (fun a b' => h0 (F (fun z => b' (z.2.1.resolve_left (by omega))))) (fun a1 b1 => ?_)
  refine yb_1 (j := 2) hp hq hpq (by decide) (fun a => h1 (T ⟨b0, Or.inr b1, Or.inl a⟩)) (fun a b' => h0 (F (fun z => b' (z.2.2.resolve_left (by omega))))) (fun a2 b2 => ?_)
  exact absurd hpq (by omega)
theorem cl_loop {p : Nat} (hp : p < 84) : ∀ d i : Nat, i + d = 84 → ∀ c : Int32, ∃ r : Int32,
    (∀ post : Int32 → Prop, post r → wX_countBehind_4 post (nI p) q tn sl pc wp he co ca cb fs fc ts tu ux tl ul tm gc ga gp ss st sf tc tr ow ti fd ft fk fn fh fl fv rs nt (d + 1) c (nI i)) ∧ (∀ post : Int32 → Prop, post r → wY_behind_4 post (nI p) q wp tn sl yd nd co ca cb le he kl tu uy tl ul tm gc ga gp ss st sf fd tc tr ow ti ft fn fh fp fz fl fv rs au (d + 1) c (nI i)) := by
  have nl := pa_nl p
  intro d
  induction d with
  | zero =>
    intro i hi c
    have : i = 84 := by omega
    subst this
    exact ⟨c, fun _ h => br_t (by decide) h, fun _ h => br_t (by decide) h⟩
  | succ d ih =>
    intro i hi c
    have nq := pa_nl i
    have n : ¬ (84 : Int32) ≤ nI i := ix_ge 84 rfl (by omega) (by decide)
    have ei : (nI i).toNatClampNeg = i := nI_clamp (by omega)
    have vi : vp_in (nI i) 84 := vp_in_nI (by omega) (by decide)
    have be := bh_e p hp i (by omega)
    obtain ⟨r0, x0, y0⟩ := ih (i + 1) (by omega) c
    obtain ⟨r1, x1, y1⟩ := ih (i + 1) (by omega) (c + 1)
    have xn : ∀ post : Int32 → Prop, post r0 → (bh_X p i = true → rs i = 0) → wX_countBehind_4 post (nI p) q tn sl pc wp he co ca cb fs fc ts tu ux tl ul tm gc ga gp ss st sf tc tr ow ti fd ft fk fn fh fl fv rs nt (d + 1 + 1) c (nI i) := by
      intro post h hz
      refine br_f n (xb_one hp (by omega) (fun z => br_f (by decide) ⟨vi, br_t (by rw [ei]; exact hz z) (nm_r (nI_1 i) (x0 post h))⟩) (fun _ => br_t rfl (nm_r (nI_1 i) (x0 post h))))
    by_cases cz : rs i = 0
    · refine ⟨r0, fun post h => xn post h (fun _ => cz), fun post h => br_f n ?_⟩
      refine yl_sgs (by omega) (yl_sgs hp ?_)
      have k0 : ∀ m : Nat, wY_behind_42 post (wY_behind_4 post (nI p) q wp tn sl yd nd co ca cb le he kl tu uy tl ul tm gc ga gp ss st sf fd tc tr ow ti ft fn fh fp fz fl fv rs au (d + 1)) (nI p) c (nI i) q wp tn sl yd nd co ca cb le he kl tu uy tl ul tm gc ga gp ss st sf fd tc tr ow ti ft fn fh fp fz fl fv rs au (m + 1) 0 (nI 0) := fun m => yb_0 hp (br_t rfl (nm_r (nI_1 i) (y0 post h)))
      by_cases cl : nI (pa_n i) ≤ nI (pa_n p)
      · exact br_t cl ⟨1, k0 0⟩
      · exact br_f cl ⟨vi, br_t (by rw [ei]; exact cz) ⟨1, k0 0⟩⟩
    · cases hb : bh_X p i with
      | false =>
        refine ⟨r0, fun post h => xn post h (fun z => by rw [hb] at z; exact absurd z (by decide)), fun post h => br_f n ?_⟩
        refine yl_sgs (by omega) (yl_sgs hp ?_)
        have y87 : wY_behind_87 post (wY_behind_4 post (nI p) q wp tn sl yd nd co ca cb le he kl tu uy tl ul tm gc ga gp ss st sf fd tc tr ow ti ft fn fh fp fz fl fv rs au (d + 1)) (nI p) c (nI i) 0 q wp tn sl yd nd co ca cb le he kl tu uy tl ul tm gc ga gp ss st sf fd tc tr ow ti ft fn fh fp fz fl fv rs au := br_t rfl (nm_r (nI_1 i) (y0 post h))
        by_cases cl : pa_n i ≤ pa_n p
        · exact br_t (nI_le cl (by omega)) ⟨1, yb_0 (j := 0) hp y87⟩
        · refine br_f (nI_ge (by omega) (by omega)) ⟨vi, br_f (by rw [ei]; exact cz) ⟨4, yb_one hp (by omega) (by omega) (fun z => ?_) (fun _ => y87)⟩⟩
          rw [← be, hb] at z
          exact absurd z (by decide)
      | true =>
        rw [be] at hb
        have hpq : pa_n p < pa_n i := by
          simp only [bh_Y, Bool.and_eq_true, decide_eq_true_eq] at hb
          exact hb.1.1.1
        refine ⟨r1, fun post h => br_f n (xb_one hp (by omega) (fun _ => br_f (by decide) ⟨vi, br_f (by rw [ei]; exact cz) (nm_e (nm_r (nI_1 i) (x1 post h)))⟩) (fun z => ?_)), fun post h => br_f n ?_⟩
        · rw [be, hb] at z
          exact absurd z (by decide)
        · refine yl_sgs (by omega) (yl_sgs hp ?_)
          refine br_f (nI_ge hpq (by omega)) ⟨vi, br_f (by rw [ei]; exact cz) ⟨4, yb_one hp (by omega) hpq (fun _ => br_f (by decide) (nm_e (nm_r (nI_1 i) (y1 post h)))) (fun z => ?_)⟩⟩
          rw [hb] at z
          exact absurd z (by decide)
theorem cl_all {p : Nat} (hp : p < 84) : ∃ r : Int32, (∀ post : Int32 → Prop, post r → wpX_countBehind post (q, tn, sl, pc, wp, he, co, ca, cb, fs, fc, ts, tu, ux, tl, ul, tm, gc, ga, gp, ss, st, sf, tc, tr, ow, ti, fd, ft, fk, fn, fh, fl, fv, rs, nt) (nI p)) ∧ (∀ post : Int32 → Prop, post r → wpY_behind post (q, wp, tn, sl, yd, nd, co, ca, cb, le, he, kl, tu, uy, tl, ul, tm, gc, ga, gp, ss, st, sf, fd, tc, tr, ow, ti, ft, fn, fh, fp, fz, fl, fv, rs, au) (nI p)) := by
  obtain ⟨r, h1, h2⟩ := cl_loop (q := q) (tn := tn) (sl := sl) (pc := pc) (wp := wp) (yd := yd) (nd := nd) (he := he) (co := co) (ca := ca) (cb := cb) (fs := fs) (fc := fc) (ts := ts) (tu := tu) (ux := ux) (tl := tl) (ul := ul) (tm := tm) (gc := gc) (ga := ga) (gp := gp) (ss := ss) (st := st) (sf := sf) (tc := tc) (tr := tr) (ow := ow) (ti := ti) (fd := fd) (ft := ft) (fk := fk) (fn := fn) (fh := fh) (fl := fl) (fv := fv) (rs := rs) (nt := nt) (le := le) (kl := kl) (uy := uy) (fp := fp) (fz := fz) (au := au) hp 84 0 rfl 0
  exact ⟨r, fun post h => ⟨85, h1 post h⟩, fun post h => ⟨85, h2 post h⟩⟩
end
end
section
theorem rn_up {M m : Nat} {nd w : Int32} {au nt nt' : Nat → Int32} (hm : m ≤ M) (en : nd = nI m) (h : ∀ i, i < 8 → nt i = if i < m then au ((m - 1 - i) % 8) else -1) (h0 : nt' 0 = w) (h1 : ∀ i, i < 7 → nt' (i + 1) = nt i) : rl_n (M + 1) (nI (m + 1)) (upd au (m % 8) w) nt' := by
  refine ⟨m + 1, by omega, rfl, fun i hi => ?_⟩
  by_cases c : i = 0
  · subst c
    rw [if_pos (by omega), show (m + 1 - 1 - 0) % 8 = m % 8 by omega, pk_us, h0]
  · obtain ⟨j, rfl⟩ : ∃ j, i = j + 1 := ⟨i - 1, by omega⟩
    rw [h1 j (by omega), h j (by omega)]
    by_cases cj : j < m
    · rw [if_pos cj, if_pos (by omega), pk_un (by omega)]
      exact congrArg au (by omega)
    · rw [if_neg cj, if_neg (by omega)]
section
variable {q tn sl pc wp yd nd : Int32} {he co ca cb fs fc ts tu ux tl ul tm gc ga gp ss st sf tc tr ow ti fd ft fk fn fh fl fv rs nt le kl uy fp fz au : Nat → Int32}
theorem ng_loop (w : Int32) : ∀ j : Nat, j ≤ 7 → ∀ cur : Nat → Int32, (∀ i, i ≤ j → cur i = nt i) → (∀ i, j ≤ i → i < 7 → cur (i + 1) = nt i) → ∃ nt' : Nat → Int32, nt' 0 = w ∧ (∀ i, i < 7 → nt' (i + 1) = nt i) ∧ (∀ post : SX → Prop, post (q, tn, sl, pc, wp, he, co, ca, cb, fs, fc, ts, tu, ux, tl, ul, tm, gc, ga, gp, ss, st, sf, tc, tr, ow, ti, fd, ft, fk, fn, fh, fl, fv, rs, nt') → wX_noteGuard_3 post w q tn sl pc wp (j + 1) (nI j) he co ca cb fs fc ts tu ux tl ul tm gc ga gp ss st sf tc tr ow ti fd ft fk fn fh fl fv rs cur) := by
  intro j
  induction j with
  | zero =>
    intro _ cur g1 g2
    refine ⟨upd cur 0 w, pk_us, fun i hi => ?_, fun post h => br_t (by decide) (nm_e h)⟩
    rw [pk_un (by omega)]
    exact g2 i (by omega) hi
  | succ j ih =>
    intro hj cur g1 g2
    have e1 : (nI (j + 1)).toNatClampNeg = j + 1 := nI_clamp (by omega)
    have e2 : nI (j + 1) - 1 = nI j := nI_pred j
    have e3 : (nI j).toNatClampNeg = j := nI_clamp (by omega)
    obtain ⟨nt', r1, r2, r3⟩ := ih (by omega) (upd cur (j + 1) (cur j)) (fun i hi => by rw [pk_un (by omega)]; exact g1 i (by omega)) (fun i h1 h2 => by
      by_cases c : i = j
      · subst c; rw [pk_us]; exact g1 i (by omega)
      · rw [pk_un (by omega)]; exact g2 i (by omega) h2)
    refine ⟨nt', r1, r2, fun post h => br_f (nI_nle (by omega) (by omega)) ⟨by rw [e2]; exact vp_in_nI (by omega) (by decide), vp_in_nI (by omega) (by decide), nm_r (by rw [e1, e2, e3]) (nm_r (pk_m1 j) (r3 post h))⟩⟩
theorem ng_all (w : Int32) : ∃ nt' : Nat → Int32, nt' 0 = w ∧ (∀ i, i < 7 → nt' (i + 1) = nt i) ∧ (∀ post : SX → Prop, post (q, tn, sl, pc, wp, he, co, ca, cb, fs, fc, ts, tu, ux, tl, ul, tm, gc, ga, gp, ss, st, sf, tc, tr, ow, ti, fd, ft, fk, fn, fh, fl, fv, rs, nt') → wpX_noteGuard post (q, tn, sl, pc, wp, he, co, ca, cb, fs, fc, ts, tu, ux, tl, ul, tm, gc, ga, gp, ss, st, sf, tc, tr, ow, ti, fd, ft, fk, fn, fh, fl, fv, rs, nt) w) := by
  obtain ⟨nt', r1, r2, r3⟩ := ng_loop (q := q) (tn := tn) (sl := sl) (pc := pc) (wp := wp) (he := he) (co := co) (ca := ca) (cb := cb) (fs := fs) (fc := fc) (ts := ts) (tu := tu) (ux := ux) (tl := tl) (ul := ul) (tm := tm) (gc := gc) (ga := ga) (gp := gp) (ss := ss) (st := st) (sf := sf) (tc := tc) (tr := tr) (ow := ow) (ti := ti) (fd := fd) (ft := ft) (fk := fk) (fn := fn) (fh := fh) (fl := fl) (fv := fv) (rs := rs) (nt := nt) w 7 (Nat.le_refl _) nt (fun _ _ => rfl) (fun i h1 h2 => absurd h2 (by omega))
  exact ⟨nt', r1, r2, fun post h => ⟨8, r3 post h⟩⟩
theorem gl_loop {k x a p : Nat} {set : Int32} (hG : rl_g gc gp) (hp : p < 84) : ∀ d i : Nat, i + d = 4 → ∀ al : Int32, (al = 0 ∨ al = 1) → ∃ al' : Int32, (al' = 0 ∨ al' = 1) ∧
    (∀ (post : Int32 → SX → Prop) (m : Nat), wX_guardPath_26 post (nI a) (nI p) (nI x) set (nI (pa_g p)) q tn sl pc wp he co ca cb fs fc ts tu ux tl ul tm gc ga gp ss st sf tc tr ow ti fd ft fk fn fh fl fv rs nt (m + 1) al' (nI 4) → wX_guardPath_26 post (nI a) (nI p) (nI x) set (nI (pa_g p)) q tn sl pc wp he co ca cb fs fc ts tu ux tl ul tm gc ga gp ss st sf tc tr ow ti fd ft fk fn fh fl fv rs nt (m + 1 + d) al (nI i)) ∧
    (∀ (post : SY → Prop) (m : Nat), wY_guard_13 post (nI k) (nI x) (nI a) (nI p) set q wp tn sl yd nd co ca cb le he kl tu uy tl ul tm gc ga gp ss st sf fd tc tr ow ti ft fn fh fp fz fl fv rs au (m + 1) al' (nI 4) → wY_guard_13 post (nI k) (nI x) (nI a) (nI p) set q wp tn sl yd nd co ca cb le he kl tu uy tl ul tm gc ga gp ss st sf fd tc tr ow ti ft fn fh fp fz fl fv rs au (m + 1 + d) al (nI i)) := by
  intro d
  induction d with
  | zero =>
    intro i hi al hal
    have : i = 4 := by omega
    subst this
    exact ⟨al, hal, fun _ _ h => h, fun _ _ h => h⟩
  | succ d ih =>
    intro i hi al hal
    have n : ¬ (4 : Int32) ≤ nI i := ix_ge 4 rfl (by omega) (by decide)
    by_cases cb1 : (set >>> (nI i &&& 31)) &&& 1 = 1
    · obtain ⟨r, x1, y1⟩ := ml_all (q := q) (tn := tn) (sl := sl) (pc := pc) (wp := wp) (yd := yd) (nd := nd) (he := he) (co := co) (ca := ca) (cb := cb) (fs := fs) (fc := fc) (ts := ts) (tu := tu) (ux := ux) (tl := tl) (ul := ul) (tm := tm) (gc := gc) (ga := ga) (gp := gp) (ss := ss) (st := st) (sf := sf) (tc := tc) (tr := tr) (ow := ow) (ti := ti) (fd := fd) (ft := ft) (fk := fk) (fn := fn) (fh := fh) (fl := fl) (fv := fv) (rs := rs) (nt := nt) (le := le) (kl := kl) (uy := uy) (fp := fp) (fz := fz) (au := au) (t := i) (a := a) (by omega) hG hp
      by_cases cr : r = 0
      · obtain ⟨al', h0, h1, h2⟩ := ih (i + 1) (by omega) 0 (Or.inl rfl)
        exact ⟨al', h0, fun post m h => br_f n (br_t cb1 (br_f (by decide) (x1 _ (br_t cr (nm_r (nI_1 i) (h1 post m h)))))), fun post m h => br_f n (br_t cb1 (y1 _ (br_t cr (nm_r (nI_1 i) (h2 post m h)))))⟩
      · obtain ⟨al', h0, h1, h2⟩ := ih (i + 1) (by omega) al hal
        exact ⟨al', h0, fun post m h => br_f n (br_t cb1 (br_f (by decide) (x1 _ (br_f cr (nm_r (nI_1 i) (h1 post m h)))))), fun post m h => br_f n (br_t cb1 (y1 _ (br_f cr (nm_r (nI_1 i) (h2 post m h)))))⟩
    · obtain ⟨al', h0, h1, h2⟩ := ih (i + 1) (by omega) al hal
      exact ⟨al', h0, fun post m h => br_f n (br_f cb1 (br_t rfl (nm_r (nI_1 i) (h1 post m h)))), fun post m h => br_f n (br_f cb1 (nm_r (nI_1 i) (h2 post m h)))⟩
theorem xl_a0 {post : SX → Prop} {x h p : Nat} (hx : x < 36) (hh : fh x = nI h) (h8 : h < 8) (hp : p < 84) (hq : post (q, tn, sl, pc, wp, he, co, ca, cb, fs, fc, ts, tu, ux, tl, ul, tm, gc, ga, gp, ss, st, sf, tc, tr, ow, ti, fd, ft, fk, fn, upd fh x (nI (h + 1)), fl, upd fv (8 * x + h) (rs p), rs, nt)) : wpX_actOnPath post (q, tn, sl, pc, wp, he, co, ca, cb, fs, fc, ts, tu, ux, tl, ul, tm, gc, ga, gp, ss, st, sf, tc, tr, ow, ti, fd, ft, fk, fn, fh, fl, fv, rs, nt) (nI x) (nI 0) (nI p) := by
  have ep : (nI p).toNatClampNeg = p := nI_clamp (by omega)
  have vp : vp_in (nI p) 84 := vp_in_nI hp (by decide)
  refine br_f (by decide) (br_f (by decide) (br_t (by decide) ⟨vp, ?_⟩))
  rw [ep]
  exact xl_push (h := h) hx hh h8 hq
theorem xl_a1 {post : SX → Prop} {x g p : Nat} (hx : x < 36) (hh : fh x = nI (g + 1)) (h8 : g < 8) (hp : p < 84) (hq : post (q, tn, sl, pc, wp, he, co, ca, cb, fs, fc, ts, tu, ux, tl, ul, tm, gc, ga, gp, ss, st, sf, tc, tr, ow, ti, fd, ft, fk, fn, upd fh x (nI g), fl, fv, upd rs p (fv (8 * x + g)), nt)) : wpX_actOnPath post (q, tn, sl, pc, wp, he, co, ca, cb, fs, fc, ts, tu, ux, tl, ul, tm, gc, ga, gp, ss, st, sf, tc, tr, ow, ti, fd, ft, fk, fn, fh, fl, fv, rs, nt) (nI x) (nI 1) (nI p) := by
  have ep : (nI p).toNatClampNeg = p := nI_clamp (by omega)
  have vp : vp_in (nI p) 84 := vp_in_nI hp (by decide)
  exact br_f (by decide) (br_f (by decide) (br_f (by decide) (br_t (by decide) (xl_pop (h := g) hx hh h8 ⟨vp, nm_r (by rw [ep]) hq⟩))))
theorem xl_a2 {post : SX → Prop} {x h p : Nat} (hx : x < 36) (hh : fh x = nI h) (h8 : h < 8) (hp : p < 84) (hq : post (q, tn, sl, pc, wp, he, co, ca, cb, fs, fc, ts, tu, ux, tl, ul, tm, gc, ga, gp, ss, st, sf, tc, tr, ow, ti, fd, ft, fk, fn, upd fh x (nI (h + 1)), fl, upd fv (8 * x + h) (rs p), upd rs p 0, nt)) : wpX_actOnPath post (q, tn, sl, pc, wp, he, co, ca, cb, fs, fc, ts, tu, ux, tl, ul, tm, gc, ga, gp, ss, st, sf, tc, tr, ow, ti, fd, ft, fk, fn, fh, fl, fv, rs, nt) (nI x) (nI 2) (nI p) := by
  have ep : (nI p).toNatClampNeg = p := nI_clamp (by omega)
  have vp : vp_in (nI p) 84 := vp_in_nI hp (by decide)
  refine br_f (by decide) (br_f (by decide) (br_f (by decide) (br_f (by decide) (br_t (by decide) ⟨vp, ?_⟩))))
  rw [ep]
  exact xl_push (h := h) hx hh h8 ⟨vp, nm_e hq⟩
theorem xl_a3 {post : SX → Prop} {x h p : Nat} {r : Int32} (hx : x < 36) (hh : fh x = nI h) (h8 : h < 8) (hr : ∀ post' : Int32 → Prop, post' r → wpX_countBehind post' (q, tn, sl, pc, wp, he, co, ca, cb, fs, fc, ts, tu, ux, tl, ul, tm, gc, ga, gp, ss, st, sf, tc, tr, ow, ti, fd, ft, fk, fn, fh, fl, fv, rs, nt) (nI p)) (hq : post (q, tn, sl, pc, wp, he, co, ca, cb, fs, fc, ts, tu, ux, tl, ul, tm, gc, ga, gp, ss, st, sf, tc, tr, ow, ti, fd, ft, fk, fn, upd fh x (nI (h + 1)), fl, upd fv (8 * x + h) r, rs, nt)) : wpX_actOnPath post (q, tn, sl, pc, wp, he, co, ca, cb, fs, fc, ts, tu, ux, tl, ul, tm, gc, ga, gp, ss, st, sf, tc, tr, ow, ti, fd, ft, fk, fn, fh, fl, fv, rs, nt) (nI x) (nI 3) (nI p) :=
  br_f (by decide) (br_t (by decide) (hr _ (xl_push (h := h) hx hh h8 hq)))
/-- the whole of X's guard, down to the note; al: whether it is allowed -/
theorem xl_gd {post : Int32 → SX → Prop} {k d t a p : Nat} {set al : Int32} {nt' : Nat → Int32} (u1 : SX) (r : Int32) (hk : k < 6) (hd0 : 0 < d) (hd6 : d ≤ 6) (ed : fd k = nI d) (eft : ft (6 * k + (d - 1)) = nI t) (hp : p < 84)
    (hdm : ∀ post' : Int32 → Prop, post' set → wpX_domainsOf post' (q, tn, sl, pc, wp, he, co, ca, cb, fs, fc, ts, tu, ux, tl, ul, tm, gc, ga, gp, ss, st, sf, tc, tr, ow, ti, fd, ft, fk, fn, fh, fl, fv, rs, nt) (nI k))
    (hlp : ∀ (post : Int32 → SX → Prop) (m : Nat), wX_guardPath_26 post (nI a) (nI p) (nI (6 * k + (d - 1))) set (nI (pa_g p)) q tn sl pc wp he co ca cb fs fc ts tu ux tl ul tm gc ga gp ss st sf tc tr ow ti fd ft fk fn fh fl fv rs nt (m + 1) al (nI 4) → wX_guardPath_26 post (nI a) (nI p) (nI (6 * k + (d - 1))) set (nI (pa_g p)) q tn sl pc wp he co ca cb fs fc ts tu ux tl ul tm gc ga gp ss st sf tc tr ow ti fd ft fk fn fh fl fv rs nt (m + 1 + 4) 1 (nI 0))
    (hng : ∀ post' : SX → Prop, post' (q, tn, sl, pc, wp, he, co, ca, cb, fs, fc, ts, tu, ux, tl, ul, tm, gc, ga, gp, ss, st, sf, tc, tr, ow, ti, fd, ft, fk, fn, fh, fl, fv, rs, nt') → wpX_noteGuard post' (q, tn, sl, pc, wp, he, co, ca, cb, fs, fc, ts, tu, ux, tl, ul, tm, gc, ga, gp, ss, st, sf, tc, tr, ow, ti, fd, ft, fk, fn, fh, fl, fv, rs, nt) ((nI p + 128 * nI a) + 512 * nI t + (if al = 0 then 0 else 2048)))
    (hr : (al = 0 ∧ r = 1 ∧ u1 = (q, tn, sl, pc, wp, he, co, ca, cb, fs, fc, ts, tu, ux, tl, ul, tm, gc, ga, gp, ss, st, sf, tc, tr, ow, ti, fd, ft, fk, fn, fh, fl, fv, rs, nt')) ∨ (al ≠ 0 ∧ r = 0 ∧ (∀ post' : SX → Prop, post' u1 → wpX_actOnPath post' (q, tn, sl, pc, wp, he, co, ca, cb, fs, fc, ts, tu, ux, tl, ul, tm, gc, ga, gp, ss, st, sf, tc, tr, ow, ti, fd, ft, fk, fn, fh, fl, fv, rs, nt') (nI (6 * k + (d - 1))) (nI a) (nI p)))) (hq : post r u1) : wpX_guardPath post (q, tn, sl, pc, wp, he, co, ca, cb, fs, fc, ts, tu, ux, tl, ul, tm, gc, ga, gp, ss, st, sf, tc, tr, ow, ti, fd, ft, fk, fn, fh, fl, fv, rs, nt) (nI k) (nI a) (nI p) := by
  have ex : (nI (6 * k + (d - 1))).toNatClampNeg = 6 * k + (d - 1) := nI_clamp (by omega)
  have vx : vp_in (nI (6 * k + (d - 1))) 36 := vp_in_nI (by omega) (by decide)
  unfold wpX_guardPath; dsimp only
  refine xl_top hk hd0 ed (hdm _ (xl_dg hp ⟨0 + 1 + 4, hlp _ 0 ?_⟩))
  refine br_t (by decide) ⟨vx, nm_r (e' := (nI p + 128 * nI a) + 512 * nI t) (by rw [ex, eft]) ?_⟩
  rcases hr with ⟨c, e1, e2⟩ | ⟨c, e1, h3⟩
  · rw [if_pos c, Int32.add_zero] at hng
    subst e1 e2
    refine br_t c ?_
    unfold wX_guardPath_114
    exact hng _ (br_t c hq)
  · rw [if_neg c] at hng
    subst e1
    refine br_f c ?_
    unfold wX_guardPath_114
    refine hng _ (br_f c (h3 _ ?_))
    obtain ⟨y0, y1, y2, y3, y4, y5, y6, y7, y8, y9, y10, y11, y12, y13, y14, y15, y16, y17, y18, y19, y20, y21, y22, y23, y24, y25, y26, y27, y28, y29, y30, y31, y32, y33, y34, y35⟩ := u1
    exact hq
theorem yl_gd {post : SY → Prop} {k x t a p m : Nat} {set al : Int32} (v1 : SY) (hx : x < 36) (eft : ft x = nI t) (hm : m < 2 ^ 31) (en : nd = nI m)
    (hdm : ∀ post' : Int32 → Prop, post' set → wpY_domains post' (q, wp, tn, sl, yd, nd, co, ca, cb, le, he, kl, tu, uy, tl, ul, tm, gc, ga, gp, ss, st, sf, fd, tc, tr, ow, ti, ft, fn, fh, fp, fz, fl, fv, rs, au) (nI k))
    (hlp : ∀ (post : SY → Prop) (m : Nat), wY_guard_13 post (nI k) (nI x) (nI a) (nI p) set q wp tn sl yd nd co ca cb le he kl tu uy tl ul tm gc ga gp ss st sf fd tc tr ow ti ft fn fh fp fz fl fv rs au (m + 1) al (nI 4) → wY_guard_13 post (nI k) (nI x) (nI a) (nI p) set q wp tn sl yd nd co ca cb le he kl tu uy tl ul tm gc ga gp ss st sf fd tc tr ow ti ft fn fh fp fz fl fv rs au (m + 1 + 4) 1 (nI 0))
    (hr : (al = 0 ∧ (∀ post' : SY → Prop, post' v1 → wpY_raise post' (q, wp, tn, sl, yd, nI (m + 1), co, ca, cb, le, he, kl, tu, uy, tl, ul, tm, gc, ga, gp, ss, st, sf, fd, tc, tr, ow, ti, ft, fn, fh, fp, fz, fl, fv, rs, upd au (m % 8) ((nI p + 128 * nI a) + 512 * nI t + (if al = 0 then 0 else 2048))) (nI k) 1)) ∨ (al ≠ 0 ∧ (∀ post' : SY → Prop, post' v1 → ((nI a = 1 → (wpY_pop (fun r_128 u => match u with | (q, wp, tn, sl, yd, nd, co, ca, cb, le, he, kl, tu, uy, tl, ul, tm, gc, ga, gp, ss, st, sf, fd, tc, tr, ow, ti, ft, fn, fh, fp, fz, fl, fv, rs, au) => (vp_in (nI p) 84 ∧ ∀ rs', rs' = upd rs (nI p).toNatClampNeg r_128 → (post' (q, wp, tn, sl, yd, nd, co, ca, cb, le, he, kl, tu, uy, tl, ul, tm, gc, ga, gp, ss, st, sf, fd, tc, tr, ow, ti, ft, fn, fh, fp, fz, fl, fv, rs', au)))) (q, wp, tn, sl, yd, nI (m + 1), co, ca, cb, le, he, kl, tu, uy, tl, ul, tm, gc, ga, gp, ss, st, sf, fd, tc, tr, ow, ti, ft, fn, fh, fp, fz, fl, fv, rs, upd au (m % 8) ((nI p + 128 * nI a) + 512 * nI t + (if al = 0 then 0 else 2048))) (nI x))) ∧ (¬ nI a = 1 → (((nI a = 3 → (wpY_behind (fun r_90 => (wY_guard_156 post' (nI x) (nI a) (nI p) r_90 q wp tn sl yd (nI (m + 1)) co ca cb le he kl tu uy tl ul tm gc ga gp ss st sf fd tc tr ow ti ft fn fh fp fz fl fv rs (upd au (m % 8) ((nI p + 128 * nI a) + 512 * nI t + (if al = 0 then 0 else 2048))))) (q, wp, tn, sl, yd, nI (m + 1), co, ca, cb, le, he, kl, tu, uy, tl, ul, tm, gc, ga, gp, ss, st, sf, fd, tc, tr, ow, ti, ft, fn, fh, fp, fz, fl, fv, rs, upd au (m % 8) ((nI p + 128 * nI a) + 512 * nI t + (if al = 0 then 0 else 2048))) (nI p))) ∧ (¬ nI a = 3 → (vp_in (nI p) 84 ∧ (wY_guard_156 post' (nI x) (nI a) (nI p) (rs (nI p).toNatClampNeg) q wp tn sl yd (nI (m + 1)) co ca cb le he kl tu uy tl ul tm gc ga gp ss st sf fd tc tr ow ti ft fn fh fp fz fl fv rs (upd au (m % 8) ((nI p + 128 * nI a) + 512 * nI t + (if al = 0 then 0 else 2048))))))))))))) (hq : post v1) : wpY_guard post (q, wp, tn, sl, yd, nd, co, ca, cb, le, he, kl, tu, uy, tl, ul, tm, gc, ga, gp, ss, st, sf, fd, tc, tr, ow, ti, ft, fn, fh, fp, fz, fl, fv, rs, au) (nI k) (nI x) (nI a) (nI p) := by
  have ex : (nI x).toNatClampNeg = x := nI_clamp (by omega)
  have vx : vp_in (nI x) 36 := vp_in_nI hx (by decide)
  have e8 : nI m &&& 7 = nI (m % 8) := pk_andN (by omega) 3 (by decide)
  have e9 : (nI (m % 8)).toNatClampNeg = m % 8 := nI_clamp (by omega)
  have v8 : vp_in (nI (m % 8)) 8 := vp_in_nI (by omega) (by decide)
  unfold wpY_guard; dsimp only
  refine hdm _ ⟨0 + 1 + 4, hlp _ 0 ?_⟩
  refine br_t (by decide) ⟨vx, ?_⟩
  rw [ex, eft, en, e8]
  rcases hr with ⟨c, h3⟩ | ⟨c, h3⟩
  · rw [if_pos c] at h3
    refine br_t c ⟨v8, nm_r (by rw [e9]) (nm_r (nI_1 m) (br_t c (h3 _ ?_)))⟩
    obtain ⟨y0, y1, y2, y3, y4, y5, y6, y7, y8, y9, y10, y11, y12, y13, y14, y15, y16, y17, y18, y19, y20, y21, y22, y23, y24, y25, y26, y27, y28, y29, y30, y31, y32, y33, y34, y35, y36⟩ := v1
    exact hq
  · rw [if_neg c] at h3
    exact br_f c ⟨v8, nm_r (by rw [e9]) (nm_r (nI_1 m) (br_f c (h3 _ hq)))⟩
theorem sx_18 {M : Nat} {H : Nat → Nat → Nat → Prop} {k s d t i h n c : Nat} (hM : M < 2 ^ 30) (G : sg_R M H k s d t i h 18 n c q tn sl pc wp yd nd he co ca cb fs fc ts tu ux tl ul tm gc ga gp ss st sf tc tr ow ti fd ft fk fn fh fl fv rs nt le kl uy fp fz au) : sr_R M k s (q, tn, sl, pc, wp, he, co, ca, cb, fs, fc, ts, tu, ux, tl, ul, tm, gc, ga, gp, ss, st, sf, tc, tr, ow, ti, fd, ft, fk, fn, fh, fl, fv, rs, nt) (q, wp, tn, sl, yd, nd, co, ca, cb, le, he, kl, tu, uy, tl, ul, tm, gc, ga, gp, ss, st, sf, fd, tc, tr, ow, ti, ft, fn, fh, fp, fz, fl, fv, rs, au) := by
  have G' := G
  obtain ⟨C, htn, hsl, hyd, htc, B, hlo, hO, hK, hV, hn, hl, hh8, hle, hn64, hfc, hc4, z1, z2, z3, z4, z5, z6, z7, z8⟩ := G'
  have hk := B.1
  have hd0 := B.2.1
  have hd6 := B.2.2.1
  have ed := B.2.2.2.1
  have ht := B.2.2.2.2.1
  have eft := B.2.2.2.2.2.1
  have efh := B.2.2.2.2.2.2.2.1
  have hx : 6 * k + (d - 1) < 36 := by omega
  have ex : (nI (6 * k + (d - 1))).toNatClampNeg = 6 * k + (d - 1) := nI_clamp (by omega)
  have vx : vp_in (nI (6 * k + (d - 1))) 36 := vp_in_nI hx (by decide)
  have et : (nI t).toNatClampNeg = t := nI_clamp (by omega)
  have vt : vp_in (nI t) 4 := vp_in_nI ht (by decide)
  have hH := (z7 (by decide) (by decide) (by decide)).2
  obtain ⟨⟨a, ha, ea⟩, ⟨p, hp, eb⟩⟩ := z4 rfl
  rw [po_18, pu_18, ea] at hH z6
  rw [po_18, ea] at z5
  obtain ⟨m, m1, m2, m3⟩ := C.2.2.2.2.2
  have ep : (nI p).toNatClampNeg = p := nI_clamp (by omega)
  have vp : vp_in (nI p) 84 := vp_in_nI hp (by decide)
  obtain ⟨set, dx, dy⟩ := dl_all (q := q) (tn := tn) (sl := sl) (pc := pc) (wp := wp) (yd := yd) (nd := nd) (he := he) (co := co) (ca := ca) (cb := cb) (fs := fs) (fc := fc) (ts := ts) (ux := ux) (tl := tl) (ul := ul) (tm := tm) (gc := gc) (ga := ga) (gp := gp) (ss := ss) (st := st) (sf := sf) (tc := tc) (tr := tr) (ow := ow) (ti := ti) (fd := fd) (ft := ft) (fk := fk) (fh := fh) (fl := fl) (fv := fv) (rs := rs) (nt := nt) (le := le) (kl := kl) (uy := uy) (fp := fp) (fz := fz) (au := au) (tu := upd tu t (tu t + 1)) (fn := upd fn (6 * k + (d - 1)) (nI (i + 1))) hk hd6 ed hK
  obtain ⟨al, al01, lx, ly⟩ := gl_loop (q := q) (tn := tn) (sl := sl) (pc := pc) (wp := wp) (yd := yd) (nd := nd) (he := he) (co := co) (ca := ca) (cb := cb) (fs := fs) (fc := fc) (ts := ts) (ux := ux) (tl := tl) (ul := ul) (tm := tm) (gc := gc) (ga := ga) (gp := gp) (ss := ss) (st := st) (sf := sf) (tc := tc) (tr := tr) (ow := ow) (ti := ti) (fd := fd) (ft := ft) (fk := fk) (fh := fh) (fl := fl) (fv := fv) (rs := rs) (nt := nt) (le := le) (kl := kl) (uy := uy) (fp := fp) (fz := fz) (au := au) (tu := upd tu t (tu t + 1)) (fn := upd fn (6 * k + (d - 1)) (nI (i + 1))) (k := k) (x := 6 * k + (d - 1)) (a := a) (p := p) (set := set) C.2.2.2.1 hp 4 0 rfl 1 (Or.inr rfl)
  obtain ⟨nt', n1, n2, n3⟩ := ng_all (q := q) (tn := tn) (sl := sl) (pc := pc) (wp := wp) (he := he) (co := co) (ca := ca) (cb := cb) (fs := fs) (fc := fc) (ts := ts) (ux := ux) (tl := tl) (ul := ul) (tm := tm) (gc := gc) (ga := ga) (gp := gp) (ss := ss) (st := st) (sf := sf) (tc := tc) (tr := tr) (ow := ow) (ti := ti) (fd := fd) (ft := ft) (fk := fk) (fh := fh) (fl := fl) (fv := fv) (rs := rs) (nt := nt) (tu := upd tu t (tu t + 1)) (fn := upd fn (6 * k + (d - 1)) (nI (i + 1))) ((nI p + 128 * nI a) + 512 * nI t + (if al = 0 then 0 else 2048))
  have C' : rl_C (M + 1) H q pc (nI (m + 1)) le fc ts kl fs co ca cb gc gp st sf (upd au (m % 8) ((nI p + 128 * nI a) + 512 * nI t + (if al = 0 then 0 else 2048))) nt' :=
    ⟨C.1, C.2.1, C.2.2.1, C.2.2.2.1, C.2.2.2.2.1, rn_up m1 m2 m3 n1 n2⟩
  by_cases c0 : al = 0
  · obtain ⟨u2, v2, r1, r2, r3⟩ := rs_all (q := q) (tn := tn) (sl := sl) (pc := pc) (wp := wp) (yd := yd) (he := he) (co := co) (ca := ca) (cb := cb) (fs := fs) (fc := fc) (ts := ts) (ux := ux) (tl := tl) (ul := ul) (tm := tm) (gc := gc) (ga := ga) (gp := gp) (ss := ss) (st := st) (sf := sf) (tc := tc) (tr := tr) (ow := ow) (ti := ti) (fd := fd) (ft := ft) (fk := fk) (fh := fh) (fl := fl) (fv := fv) (rs := rs) (le := le) (kl := kl) (uy := uy) (fp := fp) (fz := fz) (tu := upd tu t (tu t + 1)) (fn := upd fn (6 * k + (d - 1)) (nI (i + 1))) (nd := nI (m + 1)) (au := upd au (m % 8) ((nI p + 128 * nI a) + 512 * nI t + (if al = 0 then 0 else 2048))) (nt := nt') (f := 1) C' htn hsl hyd (by decide) hk htc hK hd0 hd6 ed (tl_cg hd0 hlo (fun _ _ => rfl) (fun y hy => pk_un (by omega)) (fun _ _ => rfl) (fun _ _ => rfl)) (fun k' hk' ck => th_cg (hO k' hk' ck) (fun _ _ => rfl) (fun y hy => pk_un (by omega)) (fun _ _ => rfl) (fun _ _ => rfl) rfl rfl) hV
    refine ⟨u2, v2, r1, Or.inr ⟨1, (q, tn, sl, pc, wp, he, co, ca, cb, fs, fc, ts, upd tu t (tu t + 1), ux, tl, ul, tm, gc, ga, gp, ss, st, sf, tc, tr, ow, ti, fd, ft, fk, upd fn (6 * k + (d - 1)) (nI (i + 1)), fh, fl, fv, rs, nt'), by decide, fun post hq => ?_, r2⟩, fun post hq => ?_⟩
    · exact xe_18 B _ 1 (fun post' h' => by rw [ea, eb]; exact xl_gd _ 1 hk hd0 hd6 ed eft hp dx lx n3 (Or.inl ⟨c0, rfl, rfl⟩) h') hq
    · exact yl_sg _ B hn hl rfl (fun post' h' => by rw [ea, eb]; exact yl_gd _ hx eft (by omega) m2 dy ly (Or.inl ⟨c0, r3⟩) h') hq
  obtain ⟨rc, cx, cy⟩ := cl_all (q := q) (tn := tn) (sl := sl) (pc := pc) (wp := wp) (yd := yd) (he := he) (co := co) (ca := ca) (cb := cb) (fs := fs) (fc := fc) (ts := ts) (ux := ux) (tl := tl) (ul := ul) (tm := tm) (gc := gc) (ga := ga) (gp := gp) (ss := ss) (st := st) (sf := sf) (tc := tc) (tr := tr) (ow := ow) (ti := ti) (fd := fd) (ft := ft) (fk := fk) (fh := fh) (fl := fl) (fv := fv) (rs := rs) (le := le) (kl := kl) (uy := uy) (fp := fp) (fz := fz) (tu := upd tu t (tu t + 1)) (fn := upd fn (6 * k + (d - 1)) (nI (i + 1))) (nd := nI (m + 1)) (au := upd au (m % 8) ((nI p + 128 * nI a) + 512 * nI t + (if al = 0 then 0 else 2048))) (nt := nt') hp
  have ha4 : a = 0 ∨ a = 1 ∨ a = 2 ∨ a = 3 := by omega
  rcases ha4 with rfl | rfl | rfl | rfl
  · rw [if_neg (by decide), if_neg (by decide)] at hH z6
    rw [show h - 0 + 1 = h + 1 by omega] at hH z6
    refine ⟨(q, tn, sl, pc, wp, he, co, ca, cb, fs, fc, ts, upd tu t (tu t + 1), ux, tl, ul, tm, gc, ga, gp, ss, st, sf, tc, tr, ow, ti, fd, ft, fk, upd fn (6 * k + (d - 1)) (nI (i + 1)), upd fh (6 * k + (d - 1)) (nI (h + 1)), fl, upd fv (8 * (6 * k + (d - 1)) + h) (rs p), rs, nt'), (q, wp, tn, sl, yd, nI (m + 1), co, ca, cb, le, he, kl, upd tu t (tu t + 1), uy, tl, ul, tm, gc, ga, gp, ss, st, sf, fd, tc, tr, ow, ti, ft, upd fn (6 * k + (d - 1)) (nI (i + 1)), upd fh (6 * k + (d - 1)) (nI (h + 1)), fp, fz, fl, upd fv (8 * (6 * k + (d - 1)) + h) (rs p), rs, upd au (m % 8) ((nI p + 128 * nI 0) + 512 * nI t + (if al = 0 then 0 else 2048))), pr_top (i' := i + 1) (h' := h + 1) G C' (fun y hy => pk_un hy) pk_us (fun y hy => pk_un hy) pk_us hH hV (Or.inl ⟨hsl, htc, hyd⟩), Or.inl (fun post hq => ?_), fun post hq => ?_⟩
    · exact xe_18 B _ 0 (fun post' h' => by rw [ea, eb]; exact xl_gd _ 0 hk hd0 hd6 ed eft hp dx lx n3 (Or.inr ⟨c0, rfl, fun post3 h3 => xl_a0 hx efh (by omega) hp h3⟩) h') hq
    · refine yl_sg _ B hn hl rfl (fun post' h' => ?_) hq
      rw [ea, eb]
      refine yl_gd _ hx eft (by omega) m2 dy ly (Or.inr ⟨c0, fun post3 h3 => ?_⟩) h'
      refine br_f (by decide) (br_f (by decide) ⟨vp, ?_⟩)
      rw [ep]
      unfold wY_guard_156
      exact yl_push (h := h) hx efh (by omega) (br_f (by decide) h3)
  · rw [if_pos (by decide)] at z5
    rw [if_pos (by decide), if_pos (by decide)] at hH z6
    obtain ⟨g, rfl⟩ : ∃ g, h = g + 1 := ⟨h - 1, by omega⟩
    rw [show g + 1 - 1 + 0 = g by omega] at hH
    refine ⟨(q, tn, sl, pc, wp, he, co, ca, cb, fs, fc, ts, upd tu t (tu t + 1), ux, tl, ul, tm, gc, ga, gp, ss, st, sf, tc, tr, ow, ti, fd, ft, fk, upd fn (6 * k + (d - 1)) (nI (i + 1)), upd fh (6 * k + (d - 1)) (nI g), fl, fv, upd rs p (fv (8 * (6 * k + (d - 1)) + g)), nt'), (q, wp, tn, sl, yd, nI (m + 1), co, ca, cb, le, he, kl, upd tu t (tu t + 1), uy, tl, ul, tm, gc, ga, gp, ss, st, sf, fd, tc, tr, ow, ti, ft, upd fn (6 * k + (d - 1)) (nI (i + 1)), upd fh (6 * k + (d - 1)) (nI g), fp, fz, fl, fv, upd rs p (fv (8 * (6 * k + (d - 1)) + g)), upd au (m % 8) ((nI p + 128 * nI 1) + 512 * nI t + (if al = 0 then 0 else 2048))), pr_top (i' := i + 1) (h' := g) G C' (fun y hy => pk_un hy) pk_us (fun y hy => pk_un hy) pk_us hH hV (Or.inl ⟨hsl, htc, hyd⟩), Or.inl (fun post hq => ?_), fun post hq => ?_⟩
    · exact xe_18 B _ 0 (fun post' h' => by rw [ea, eb]; exact xl_gd _ 0 hk hd0 hd6 ed eft hp dx lx n3 (Or.inr ⟨c0, rfl, fun post3 h3 => xl_a1 hx efh (by omega) hp h3⟩) h') hq
    · refine yl_sg _ B hn hl rfl (fun post' h' => ?_) hq
      rw [ea, eb]
      refine yl_gd _ hx eft (by omega) m2 dy ly (Or.inr ⟨c0, fun post3 h3 => ?_⟩) h'
      exact br_t (by decide) (yl_pop (h := g) hx efh (by omega) ⟨vp, nm_r (by rw [ep]) h3⟩)
  · rw [if_neg (by decide), if_neg (by decide)] at hH z6
    rw [show h - 0 + 1 = h + 1 by omega] at hH z6
    refine ⟨(q, tn, sl, pc, wp, he, co, ca, cb, fs, fc, ts, upd tu t (tu t + 1), ux, tl, ul, tm, gc, ga, gp, ss, st, sf, tc, tr, ow, ti, fd, ft, fk, upd fn (6 * k + (d - 1)) (nI (i + 1)), upd fh (6 * k + (d - 1)) (nI (h + 1)), fl, upd fv (8 * (6 * k + (d - 1)) + h) (rs p), upd rs p 0, nt'), (q, wp, tn, sl, yd, nI (m + 1), co, ca, cb, le, he, kl, upd tu t (tu t + 1), uy, tl, ul, tm, gc, ga, gp, ss, st, sf, fd, tc, tr, ow, ti, ft, upd fn (6 * k + (d - 1)) (nI (i + 1)), upd fh (6 * k + (d - 1)) (nI (h + 1)), fp, fz, fl, upd fv (8 * (6 * k + (d - 1)) + h) (rs p), upd rs p 0, upd au (m % 8) ((nI p + 128 * nI 2) + 512 * nI t + (if al = 0 then 0 else 2048))), pr_top (i' := i + 1) (h' := h + 1) G C' (fun y hy => pk_un hy) pk_us (fun y hy => pk_un hy) pk_us hH hV (Or.inl ⟨hsl, htc, hyd⟩), Or.inl (fun post hq => ?_), fun post hq => ?_⟩
    · exact xe_18 B _ 0 (fun post' h' => by rw [ea, eb]; exact xl_gd _ 0 hk hd0 hd6 ed eft hp dx lx n3 (Or.inr ⟨c0, rfl, fun post3 h3 => xl_a2 hx efh (by omega) hp h3⟩) h') hq
    · refine yl_sg _ B hn hl rfl (fun post' h' => ?_) hq
      rw [ea, eb]
      refine yl_gd _ hx eft (by omega) m2 dy ly (Or.inr ⟨c0, fun post3 h3 => ?_⟩) h'
      refine br_f (by decide) (br_f (by decide) ⟨vp, ?_⟩)
      rw [ep]
      unfold wY_guard_156
      exact yl_push (h := h) hx efh (by omega) (br_t (by decide) ⟨vp, nm_r (by rw [ep]) h3⟩)
  · rw [if_neg (by decide), if_neg (by decide)] at hH z6
    rw [show h - 0 + 1 = h + 1 by omega] at hH z6
    refine ⟨(q, tn, sl, pc, wp, he, co, ca, cb, fs, fc, ts, upd tu t (tu t + 1), ux, tl, ul, tm, gc, ga, gp, ss, st, sf, tc, tr, ow, ti, fd, ft, fk, upd fn (6 * k + (d - 1)) (nI (i + 1)), upd fh (6 * k + (d - 1)) (nI (h + 1)), fl, upd fv (8 * (6 * k + (d - 1)) + h) rc, rs, nt'), (q, wp, tn, sl, yd, nI (m + 1), co, ca, cb, le, he, kl, upd tu t (tu t + 1), uy, tl, ul, tm, gc, ga, gp, ss, st, sf, fd, tc, tr, ow, ti, ft, upd fn (6 * k + (d - 1)) (nI (i + 1)), upd fh (6 * k + (d - 1)) (nI (h + 1)), fp, fz, fl, upd fv (8 * (6 * k + (d - 1)) + h) rc, rs, upd au (m % 8) ((nI p + 128 * nI 3) + 512 * nI t + (if al = 0 then 0 else 2048))), pr_top (i' := i + 1) (h' := h + 1) G C' (fun y hy => pk_un hy) pk_us (fun y hy => pk_un hy) pk_us hH hV (Or.inl ⟨hsl, htc, hyd⟩), Or.inl (fun post hq => ?_), fun post hq => ?_⟩
    · exact xe_18 B _ 0 (fun post' h' => by rw [ea, eb]; exact xl_gd _ 0 hk hd0 hd6 ed eft hp dx lx n3 (Or.inr ⟨c0, rfl, fun post3 h3 => xl_a3 hx efh (by omega) cx h3⟩) h') hq
    · refine yl_sg _ B hn hl rfl (fun post' h' => ?_) hq
      rw [ea, eb]
      refine yl_gd _ hx eft (by omega) m2 dy ly (Or.inr ⟨c0, fun post3 h3 => ?_⟩) h'
      refine br_f (by decide) (br_t (by decide) (cy _ ?_))
      unfold wY_guard_156
      exact yl_push (h := h) hx efh (by omega) (br_f (by decide) h3)

end
end
section
def xg_ok (u0 : SX) (k : Int32) (u2 : SX) : Prop :=
  ((∀ post : Int32 → Prop, post 0 → wpX_faultBefore post u0 k) ∧ ((∀ post : Int32 → SX → Prop, post 0 u2 → wpX_execute post u0 k) ∨ ∃ (f : Int32) (u1 : SX), f ≠ 0 ∧ (∀ post : Int32 → SX → Prop, post f u1 → wpX_execute post u0 k) ∧ (∀ post : SX → Prop, post u2 → wpX_unwind post u1 k f))) ∨
  (∃ f : Int32, f ≠ 0 ∧ (∀ post : Int32 → Prop, post f → wpX_faultBefore post u0 k) ∧ (∀ post : SX → Prop, post u2 → wpX_unwind post u0 k f))
def xr_J (J : Int32 → Int32 → Int32 → Int32 → Int32 → Int32 → (Nat → Int32) → (Nat → Int32) → (Nat → Int32) → (Nat → Int32) → (Nat → Int32) → (Nat → Int32) → (Nat → Int32) → (Nat → Int32) → (Nat → Int32) → (Nat → Int32) → (Nat → Int32) → (Nat → Int32) → (Nat → Int32) → (Nat → Int32) → (Nat → Int32) → (Nat → Int32) → (Nat → Int32) → (Nat → Int32) → (Nat → Int32) → (Nat → Int32) → (Nat → Int32) → (Nat → Int32) → (Nat → Int32) → (Nat → Int32) → (Nat → Int32) → (Nat → Int32) → (Nat → Int32) → (Nat → Int32) → (Nat → Int32) → (Nat → Int32) → (Nat → Int32) → Prop) (x : Int32) (u : SX) : Prop := match u with | (q, tn, sl, pc, wp, he, co, ca, cb, fs, fc, ts, tu, ux, tl, ul, tm, gc, ga, gp, ss, st, sf, tc, tr, ow, ti, fd, ft, fk, fn, fh, fl, fv, rs, nt) => J x q tn sl pc wp he co ca cb fs fc ts tu ux tl ul tm gc ga gp ss st sf tc tr ow ti fd ft fk fn fh fl fv rs nt
def xr_74 (post : Int32 → SX → Prop) (J : Int32 → Int32 → Int32 → Int32 → Int32 → Int32 → (Nat → Int32) → (Nat → Int32) → (Nat → Int32) → (Nat → Int32) → (Nat → Int32) → (Nat → Int32) → (Nat → Int32) → (Nat → Int32) → (Nat → Int32) → (Nat → Int32) → (Nat → Int32) → (Nat → Int32) → (Nat → Int32) → (Nat → Int32) → (Nat → Int32) → (Nat → Int32) → (Nat → Int32) → (Nat → Int32) → (Nat → Int32) → (Nat → Int32) → (Nat → Int32) → (Nat → Int32) → (Nat → Int32) → (Nat → Int32) → (Nat → Int32) → (Nat → Int32) → (Nat → Int32) → (Nat → Int32) → (Nat → Int32) → (Nat → Int32) → (Nat → Int32) → Prop) (x1 x2 : Int32) (u : SX) : Prop := match u with | (q, tn, sl, pc, wp, he, co, ca, cb, fs, fc, ts, tu, ux, tl, ul, tm, gc, ga, gp, ss, st, sf, tc, tr, ow, ti, fd, ft, fk, fn, fh, fl, fv, rs, nt) => wX_run_74 post J x1 x2 q tn sl pc wp he co ca cb fs fc ts tu ux tl ul tm gc ga gp ss st sf tc tr ow ti fd ft fk fn fh fl fv rs nt
def xr_15 (post : Int32 → SX → Prop) (x1 : Int32) (n : Nat) (x2 : Int32) (u : SX) : Prop := match u with | (q, tn, sl, pc, wp, he, co, ca, cb, fs, fc, ts, tu, ux, tl, ul, tm, gc, ga, gp, ss, st, sf, tc, tr, ow, ti, fd, ft, fk, fn, fh, fl, fv, rs, nt) => wX_run_15 post x1 n x2 q tn sl pc wp he co ca cb fs fc ts tu ux tl ul tm gc ga gp ss st sf tc tr ow ti fd ft fk fn fh fl fv rs nt
def yr_15 (post : Int32 → SY → Prop) (x1 : Int32) (n : Nat) (x2 : Int32) (v : SY) : Prop := match v with | (q, wp, tn, sl, yd, nd, co, ca, cb, le, he, kl, tu, uy, tl, ul, tm, gc, ga, gp, ss, st, sf, fd, tc, tr, ow, ti, ft, fn, fh, fp, fz, fl, fv, rs, au) => wY_run_15 post x1 n x2 q wp tn sl yd nd co ca cb le he kl tu uy tl ul tm gc ga gp ss st sf fd tc tr ow ti ft fn fh fp fz fl fv rs au
def yr_c (post : Int32 → SY → Prop) (x1 : Int32) (n : Nat) (x2 k : Int32) (v : SY) : Prop := match v with
  | (q, wp, tn, sl, yd, nd, co, ca, cb, le, he, kl, tu, uy, tl, ul, tm, gc, ga, gp, ss, st, sf, fd, tc, tr, ow, ti, ft, fn, fh, fp, fz, fl, fv, rs, au) => (vp_in k 6 ∧ ((((tc k.toNatClampNeg) = (-1) → (((yd = 0 → (((sl = 0 → (wY_run_79 post (wY_run_15 post x1 n) x1 x2 q wp tn sl yd nd co ca cb le he kl tu uy tl ul tm gc ga gp ss st sf fd tc tr ow ti ft fn fh fp fz fl fv rs au)) ∧ (¬ sl = 0 → (wY_run_15 post x1 n x2 q wp tn sl yd nd co ca cb le he kl tu uy tl ul tm gc ga gp ss st sf fd tc tr ow ti ft fn fh fp fz fl fv rs au))))) ∧ (¬ yd = 0 → (wY_run_79 post (wY_run_15 post x1 n) x1 x2 q wp tn sl yd nd co ca cb le he kl tu uy tl ul tm gc ga gp ss st sf fd tc tr ow ti ft fn fh fp fz fl fv rs au))))) ∧ (¬ (tc k.toNatClampNeg) = (-1) → (wY_run_79 post (wY_run_15 post x1 n) x1 x2 q wp tn sl yd nd co ca cb le he kl tu uy tl ul tm gc ga gp ss st sf fd tc tr ow ti ft fn fh fp fz fl fv rs au)))))
def rr_S (M : Nat) (u : SX) (v : SY) : Prop :=
  ∃ (H : Nat → Nat → Nat → Prop) (q tn sl pc wp yd nd : Int32) (he co ca cb fs fc ts tu ux tl ul tm gc ga gp ss st sf tc tr ow ti fd ft fk fn fh fl fv rs nt le kl uy fp fz au : Nat → Int32), u = (q, tn, sl, pc, wp, he, co, ca, cb, fs, fc, ts, tu, ux, tl, ul, tm, gc, ga, gp, ss, st, sf, tc, tr, ow, ti, fd, ft, fk, fn, fh, fl, fv, rs, nt) ∧ v = (q, wp, tn, sl, yd, nd, co, ca, cb, le, he, kl, tu, uy, tl, ul, tm, gc, ga, gp, ss, st, sf, fd, tc, tr, ow, ti, ft, fn, fh, fp, fz, fl, fv, rs, au) ∧ rl_R M H q tn sl pc wp yd nd he co ca cb fs fc ts tu ux tl ul tm gc ga gp ss st sf tc tr ow ti fd ft fk fn fh fl fv rs nt le kl uy fp fz au
section
variable {q tn sl pc wp yd nd : Int32} {he co ca cb fs fc ts tu ux tl ul tm gc ga gp ss st sf tc tr ow ti fd ft fk fn fh fl fv rs nt le kl uy fp fz au : Nat → Int32}
theorem mk_rr {M : Nat} {H : Nat → Nat → Nat → Prop} (h : rl_R M H q tn sl pc wp yd nd he co ca cb fs fc ts tu ux tl ul tm gc ga gp ss st sf tc tr ow ti fd ft fk fn fh fl fv rs nt le kl uy fp fz au) : rr_S M (q, tn, sl, pc, wp, he, co, ca, cb, fs, fc, ts, tu, ux, tl, ul, tm, gc, ga, gp, ss, st, sf, tc, tr, ow, ti, fd, ft, fk, fn, fh, fl, fv, rs, nt) (q, wp, tn, sl, yd, nd, co, ca, cb, le, he, kl, tu, uy, tl, ul, tm, gc, ga, gp, ss, st, sf, fd, tc, tr, ow, ti, ft, fn, fh, fp, fz, fl, fv, rs, au) :=
  ⟨H, q, tn, sl, pc, wp, yd, nd, he, co, ca, cb, fs, fc, ts, tu, ux, tl, ul, tm, gc, ga, gp, ss, st, sf, tc, tr, ow, ti, fd, ft, fk, fn, fh, fl, fv, rs, nt, le, kl, uy, fp, fz, au, rfl, rfl, h⟩
theorem sx_all {M : Nat} {H : Nat → Nat → Nat → Prop} {k s d t i h o n c : Nat} (hM : M < 2 ^ 30) (ho : o < 24) (G : sg_R M H k s d t i h o n c q tn sl pc wp yd nd he co ca cb fs fc ts tu ux tl ul tm gc ga gp ss st sf tc tr ow ti fd ft fk fn fh fl fv rs nt le kl uy fp fz au) : sr_R M k s (q, tn, sl, pc, wp, he, co, ca, cb, fs, fc, ts, tu, ux, tl, ul, tm, gc, ga, gp, ss, st, sf, tc, tr, ow, ti, fd, ft, fk, fn, fh, fl, fv, rs, nt) (q, wp, tn, sl, yd, nd, co, ca, cb, le, he, kl, tu, uy, tl, ul, tm, gc, ga, gp, ss, st, sf, fd, tc, tr, ow, ti, ft, fn, fh, fp, fz, fl, fv, rs, au) := by
  have ho24 : o = 0 ∨ o = 1 ∨ o = 2 ∨ o = 3 ∨ o = 4 ∨ o = 5 ∨ o = 6 ∨ o = 7 ∨ o = 8 ∨ o = 9 ∨ o = 10 ∨ o = 11 ∨ o = 12 ∨ o = 13 ∨ o = 14 ∨ o = 15 ∨ o = 16 ∨ o = 17 ∨ o = 18 ∨ o = 19 ∨ o = 20 ∨ o = 21 ∨ o = 22 ∨ o = 23 := by omega
  rcases ho24 with rfl | rfl | rfl | rfl | rfl | rfl | rfl | rfl | rfl | rfl | rfl | rfl | rfl | rfl | rfl | rfl | rfl | rfl | rfl | rfl | rfl | rfl | rfl | rfl
  · exact sx_0 G
  · exact sx_1 G
  · exact sx_2 G
  · exact sx_3 G
  · exact sx_4 G
  · exact sx_5 G
  · exact sx_6 G
  · exact sx_7 G
  · exact sx_8 G
  · exact sx_9 G
  · exact sx_10 G
  · exact sx_11 G
  · exact sx_12 G
  · exact sx_13 G
  · exact sx_14 G
  · exact sx_15 G
  · exact sx_16 G
  · exact sx_17 G
  · exact sx_18 hM G
  · exact sx_19 G
  · exact sx_20 G
  · exact sx_21 G
  · exact sx_22 G
  · exact sx_23 G
theorem sp_all {M k s : Nat} {H : Nat → Nat → Nat → Prop} (hM : M < 2 ^ 30) (hk : k < 6) (htn : tn = nI k) (hsl : sl = nI s) (hyd : yd = 0) (htc : tc k = -1) (a1 : rl_q q) (a3 : rl_pc pc le) (a4 : rl_b H le fc ts kl fs co ca cb) (a5 : rl_g gc gp) (a6 : rl_s st sf) (a7 : rl_t H ft fn fh fz tc fd) (a8 : rl_k fk fp fz) (a9 : rl_u ux uy kl fd ft) (a10 : rl_n M nd au nt) :
    ∃ (u2 : SX) (v2 : SY), md_R (M + 1) k s u2 v2 ∧ xg_ok (q, tn, sl, pc, wp, he, co, ca, cb, fs, fc, ts, tu, ux, tl, ul, tm, gc, ga, gp, ss, st, sf, tc, tr, ow, ti, fd, ft, fk, fn, fh, fl, fv, rs, nt) (nI k) u2 ∧ (∀ post : SY → Prop, post v2 → wpY_step post (q, wp, tn, sl, yd, nd, co, ca, cb, le, he, kl, tu, uy, tl, ul, tm, gc, ga, gp, ss, st, sf, fd, tc, tr, ow, ti, ft, fn, fh, fp, fz, fl, fv, rs, au) (nI k)) := by
  have C : rl_C M H q pc nd le fc ts kl fs co ca cb gc gp st sf au nt := ⟨a1, a3, a4, a5, a6, a10⟩
  obtain ⟨d, d1, d2, d3, d4⟩ := a7 k hk
  have hd0 : 0 < d := d3.mp htc
  obtain ⟨hlo, t, i, h, ht, eft, efn, efh, hH⟩ := d4 hd0
  rw [Nat.add_zero] at hH
  have Bt := a4 t ht
  have t2 := ts_2 Bt
  obtain ⟨n, c, b1, b2, b3, b4, b5, b6, b7, b8, b9, b10, b11⟩ := Bt
  obtain ⟨hin, h8, o, ho, eo, hat⟩ := bu_get (b11 i h hH)
  have B : bs_R k d t i h o fd ft fn fh co := ⟨hk, hd0, d1, d2, ht, eft, efn, efh, by omega, ho, eo⟩
  have hO : ∀ k', k' < 6 → k' ≠ k → th_ok H ft fn fh fz tc fd k' := fun k' hk' _ => a7 k' hk'
  have hV := rl_uv a9
  by_cases c3 : kl t ≠ 0 ∧ pl_P o i (ca (64 * t + i))
  · obtain ⟨u2, v2, r1, r2, r3⟩ := rs_all (q := q) (tn := tn) (sl := sl) (pc := pc) (wp := wp) (yd := yd) (nd := nd) (he := he) (co := co) (ca := ca) (cb := cb) (fs := fs) (fc := fc) (ts := ts) (tu := tu) (ux := ux) (tl := tl) (ul := ul) (tm := tm) (gc := gc) (ga := ga) (gp := gp) (ss := ss) (st := st) (sf := sf) (tc := tc) (tr := tr) (ow := ow) (ti := ti) (fd := fd) (ft := ft) (fk := fk) (fn := fn) (fh := fh) (fl := fl) (fv := fv) (rs := rs) (nt := nt) (le := le) (kl := kl) (uy := uy) (fp := fp) (fz := fz) (au := au) (f := 3) (rc_up C) htn hsl hyd (by decide) hk htc a8 hd0 d1 d2 hlo hO hV
    refine ⟨u2, v2, r1, Or.inr ⟨3, by decide, fun post hp => ?_, r2⟩, fun post hp => yl_s3 _ B c3.1 c3.2 r3 hp⟩
    exact xl_fb B (fun _ _ => hp) (fun z => absurd z (fun y => y.elim (fun e => e (t2.mpr c3.1)) (fun e => e c3.2))) (fun z => absurd z (fun y => y.elim (fun e => e (t2.mpr c3.1)) (fun e => e c3.2)))
  have hn : kl t = 0 ∨ ¬ pl_P o i (ca (64 * t + i)) := by
    by_cases z : kl t = 0
    · exact Or.inl z
    · exact Or.inr (fun y => c3 ⟨z, y⟩)
  have h3n : ts t = 2 → ¬ pl_P o i (ca (64 * t + i)) := fun z y => c3 ⟨t2.mp z, y⟩
  by_cases hl : tu t < tl t
  · obtain ⟨u2, v2, r1, r2, r3⟩ := sx_all hM ho (G := ⟨C, htn, hsl, hyd, htc, B, hlo, hO, a8, hV, hn, hl, h8, b2, b1, b4, b3, hat⟩)
    exact ⟨u2, v2, r1, Or.inl ⟨fun post hp => xl_fb B (fun z y => absurd y (h3n z)) (fun _ z => absurd hl z) (fun _ _ => hp), r2⟩, r3⟩
  · obtain ⟨u2, v2, r1, r2, r3⟩ := rs_all (q := q) (tn := tn) (sl := sl) (pc := pc) (wp := wp) (yd := yd) (nd := nd) (he := he) (co := co) (ca := ca) (cb := cb) (fs := fs) (fc := fc) (ts := ts) (tu := tu) (ux := ux) (tl := tl) (ul := ul) (tm := tm) (gc := gc) (ga := ga) (gp := gp) (ss := ss) (st := st) (sf := sf) (tc := tc) (tr := tr) (ow := ow) (ti := ti) (fd := fd) (ft := ft) (fk := fk) (fn := fn) (fh := fh) (fl := fl) (fv := fv) (rs := rs) (nt := nt) (le := le) (kl := kl) (uy := uy) (fp := fp) (fz := fz) (au := au) (f := 2) (rc_up C) htn hsl hyd (by decide) hk htc a8 hd0 d1 d2 hlo hO hV
    exact ⟨u2, v2, r1, Or.inr ⟨2, by decide, fun post hp => xl_fb B (fun z y => absurd y (h3n z)) (fun _ _ => hp) (fun _ z => absurd z hl), r2⟩, fun post hp => yl_s2 _ B hn hl r3 hp⟩
theorem pt_loop {k : Nat} (hk : k < 6) (htn : tn = nI k) : ∀ d i : Nat, i + d = 7 → 1 ≤ i → ∃ tn' : Int32, (tn' = -1 ∨ ∃ k' : Nat, k' < 6 ∧ tn' = nI k' ∧ tc k' = -1) ∧
    (∀ post : SX → Prop, post (q, tn', q, pc, wp, he, co, ca, cb, fs, fc, ts, tu, ux, tl, ul, tm, gc, ga, gp, ss, st, sf, tc, tr, ow, ti, fd, ft, fk, fn, fh, fl, fv, rs, nt) → wX_passTurn_36 post (nI k) q (-1) q pc wp he co ca cb fs fc ts tu ux tl ul tm gc ga gp ss st sf tc tr ow ti fd ft fk fn fh fl fv rs nt (d + 1) (nI i)) ∧ (∀ post : SY → Prop, post (q, wp, tn', q, yd, nd, co, ca, cb, le, he, kl, tu, uy, tl, ul, tm, gc, ga, gp, ss, st, sf, fd, tc, tr, ow, ti, ft, fn, fh, fp, fz, fl, fv, rs, au) → wY_pass_10 post q wp tn q yd nd co ca cb le he kl tu uy tl ul tm gc ga gp ss st sf fd tc tr ow ti ft fn fh fp fz fl fv rs au (d + 1) (nI i)) := by
  have n6 : ¬ (6 : Int32) = 0 := by decide
  intro d
  induction d with
  | zero =>
    intro i hi _
    have : i = 7 := by omega
    subst this
    exact ⟨-1, Or.inl rfl, fun _ h => br_t (by decide) h, fun _ h => br_t (by decide) h⟩
  | succ d ih =>
    intro i hi h1
    have e1 : nI k + nI i = nI (k + i) := nI_add k i
    have e2 : nI (k + i) - nI (k + i) / 6 * 6 = nI ((k + i) % 6) := pk_rem (d := 6) (by omega) (by decide) (by decide)
    have e3 : (nI ((k + i) % 6)).toNatClampNeg = (k + i) % 6 := nI_clamp (by omega)
    have v3 : vp_in (nI ((k + i) % 6)) 6 := vp_in_nI (by omega) (by decide)
    have nX : ¬ (6 : Int32) < nI i := nI_nlt (a := 6) (b := i) (by omega) (by decide)
    have nY : ¬ (7 : Int32) ≤ nI i := ix_ge 7 rfl (by omega) (by decide)
    by_cases c : tc ((k + i) % 6) = -1
    · exact ⟨nI ((k + i) % 6), Or.inr ⟨_, by omega, rfl, c⟩, fun post h => br_f nX ⟨n6, nm_r (e' := nI ((k + i) % 6)) (by rw [e1, e2]) ⟨v3, br_t (by rw [e3]; exact c) h⟩⟩, fun post h => br_f nY ⟨n6, nm_r (e' := nI ((k + i) % 6)) (by rw [htn, e1, e2]) ⟨v3, br_t (by rw [e3]; exact c) h⟩⟩⟩
    · obtain ⟨tn', g0, g1, g2⟩ := ih (i + 1) (by omega) (by omega)
      exact ⟨tn', g0, fun post h => br_f nX ⟨n6, nm_r (e' := nI ((k + i) % 6)) (by rw [e1, e2]) ⟨v3, br_f (by rw [e3]; exact c) (nm_r (nI_1 i) (g1 post h))⟩⟩, fun post h => br_f nY ⟨n6, nm_r (e' := nI ((k + i) % 6)) (by rw [htn, e1, e2]) ⟨v3, br_f (by rw [e3]; exact c) (nm_r (nI_1 i) (g2 post h))⟩⟩⟩
theorem ps_all {M k s : Nat} {u : SX} {v : SY} (hk : k < 6) (hs : s ≤ 15) (h : md_R M k s u v) : ∃ (u3 : SX) (v3 : SY), rr_S M u3 v3 ∧
    (∀ (post : Int32 → SX → Prop) (J : Int32 → Int32 → Int32 → Int32 → Int32 → Int32 → (Nat → Int32) → (Nat → Int32) → (Nat → Int32) → (Nat → Int32) → (Nat → Int32) → (Nat → Int32) → (Nat → Int32) → (Nat → Int32) → (Nat → Int32) → (Nat → Int32) → (Nat → Int32) → (Nat → Int32) → (Nat → Int32) → (Nat → Int32) → (Nat → Int32) → (Nat → Int32) → (Nat → Int32) → (Nat → Int32) → (Nat → Int32) → (Nat → Int32) → (Nat → Int32) → (Nat → Int32) → (Nat → Int32) → (Nat → Int32) → (Nat → Int32) → (Nat → Int32) → (Nat → Int32) → (Nat → Int32) → (Nat → Int32) → (Nat → Int32) → (Nat → Int32) → Prop) (x1 x2 : Int32), xr_J J (x2 + 1) u3 → xr_74 post J x1 x2 u) ∧ (∀ (post : Int32 → SY → Prop) (x1 : Int32) (n : Nat) (x2 : Int32), yr_15 post x1 n x2 v3 → yr_c post x1 n x2 (nI k) v) := by
  obtain ⟨H, q, tn, sl, pc, wp, yd, nd, slx, he, co, ca, cb, fs, fc, ts, tu, ux, tl, ul, tm, gc, ga, gp, ss, st, sf, tc, tr, ow, ti, fd, ft, fk, fn, fh, fl, fv, rs, nt, le, kl, uy, fp, fz, au, rfl, rfl, ⟨a1, a3, a4, a5, a6, a10⟩, htn, hsl, hsx, a7, a8, hV⟩ := h
  have hd := rl_td a7
  have ek : (nI k).toNatClampNeg = k := nI_clamp (by omega)
  have vk : vp_in (nI k) 6 := vp_in_nI hk (by decide)
  obtain ⟨ux', w1, w2⟩ := ru_all (q := q) (tn := tn) (pc := pc) (wp := wp) (he := he) (co := co) (ca := ca) (cb := cb) (fs := fs) (fc := fc) (ts := ts) (tu := tu) (ux := ux) (tl := tl) (ul := ul) (tm := tm) (gc := gc) (ga := ga) (gp := gp) (ss := ss) (st := st) (sf := sf) (tc := tc) (tr := tr) (ow := ow) (ti := ti) (fd := fd) (ft := ft) (fk := fk) (fn := fn) (fh := fh) (fl := fl) (fv := fv) (rs := rs) (nt := nt) (sl := slx) hd
  have a9 : rl_u ux' uy kl fd ft := by
    intro t ht
    have t2 := ts_2 (a4 t ht)
    obtain ⟨y1, y2⟩ := w1 t ht
    refine ⟨fun z1 z2 => y1 (t2.mpr z1) z2, fun z => ?_⟩
    rw [y2 (fun y => z ⟨t2.mp y.1, y.2⟩)]
    exact hV t ht z
  have hpass : (¬ 0 < slx) → ((tc k ≠ -1) ∨ yd ≠ 0 ∨ sl = 0) → ∃ (u3 : SX) (v3 : SY), rr_S M u3 v3 ∧
    (∀ (post : Int32 → SX → Prop) (J : Int32 → Int32 → Int32 → Int32 → Int32 → Int32 → (Nat → Int32) → (Nat → Int32) → (Nat → Int32) → (Nat → Int32) → (Nat → Int32) → (Nat → Int32) → (Nat → Int32) → (Nat → Int32) → (Nat → Int32) → (Nat → Int32) → (Nat → Int32) → (Nat → Int32) → (Nat → Int32) → (Nat → Int32) → (Nat → Int32) → (Nat → Int32) → (Nat → Int32) → (Nat → Int32) → (Nat → Int32) → (Nat → Int32) → (Nat → Int32) → (Nat → Int32) → (Nat → Int32) → (Nat → Int32) → (Nat → Int32) → (Nat → Int32) → (Nat → Int32) → (Nat → Int32) → (Nat → Int32) → (Nat → Int32) → (Nat → Int32) → Prop) (x1 x2 : Int32), xr_J J (x2 + 1) u3 → xr_74 post J x1 x2 (q, tn, slx, pc, wp, he, co, ca, cb, fs, fc, ts, tu, ux, tl, ul, tm, gc, ga, gp, ss, st, sf, tc, tr, ow, ti, fd, ft, fk, fn, fh, fl, fv, rs, nt)) ∧ (∀ (post : Int32 → SY → Prop) (x1 : Int32) (n : Nat) (x2 : Int32), yr_15 post x1 n x2 v3 → yr_c post x1 n x2 (nI k) (q, wp, tn, sl, yd, nd, co, ca, cb, le, he, kl, tu, uy, tl, ul, tm, gc, ga, gp, ss, st, sf, fd, tc, tr, ow, ti, ft, fn, fh, fp, fz, fl, fv, rs, au)) := by
    intro hx hy
    obtain ⟨tn', g0, g1, g2⟩ := pt_loop (q := q) (tn := tn) (pc := pc) (wp := wp) (yd := yd) (nd := nd) (he := he) (co := co) (ca := ca) (cb := cb) (fs := fs) (fc := fc) (ts := ts) (tu := tu) (tl := tl) (ul := ul) (tm := tm) (gc := gc) (ga := ga) (gp := gp) (ss := ss) (st := st) (sf := sf) (tc := tc) (tr := tr) (ow := ow) (ti := ti) (fd := fd) (ft := ft) (fk := fk) (fn := fn) (fh := fh) (fl := fl) (fv := fv) (rs := rs) (nt := nt) (le := le) (kl := kl) (uy := uy) (fp := fp) (fz := fz) (au := au) (ux := ux') hk htn 6 1 rfl (Nat.le_refl _)
    refine ⟨(q, tn', q, pc, wp, he, co, ca, cb, fs, fc, ts, tu, ux', tl, ul, tm, gc, ga, gp, ss, st, sf, tc, tr, ow, ti, fd, ft, fk, fn, fh, fl, fv, rs, nt), (q, wp, tn', q, yd, nd, co, ca, cb, le, he, kl, tu, uy, tl, ul, tm, gc, ga, gp, ss, st, sf, fd, tc, tr, ow, ti, ft, fn, fh, fp, fz, fl, fv, rs, au), mk_rr ⟨a1, ?_, a3, a4, a5, a6, a7, a8, a9, a10⟩, fun post J x1 x2 hJ => ?_, fun post x1 n x2 hJ => ?_⟩
    · rcases g0 with z | ⟨k', z1, z2, z3⟩
      · exact Or.inl z
      · obtain ⟨n, n1, n2, n3⟩ := a1
        exact Or.inr ⟨k', z1, z2, z3, n, n1, n2, n3⟩
    · unfold xr_74; dsimp only
      unfold wX_run_74
      refine w2 _ ?_
      refine br_f hx (br_f (by rw [htn]; exact ix_neg k (by omega)) ⟨7, ?_⟩)
      rw [htn]
      exact g1 _ (nm_e hJ)
    · have key : wY_run_79 post (wY_run_15 post x1 n) x1 x2 q wp tn sl yd nd co ca cb le he kl tu uy tl ul tm gc ga gp ss st sf fd tc tr ow ti ft fn fh fp fz fl fv rs au := by
        unfold wY_run_79
        exact ⟨7, g2 _ hJ⟩
      unfold yr_c; dsimp only
      refine ⟨vk, ?_⟩
      rw [ek]
      by_cases c1 : tc k = -1
      · refine br_t c1 ?_
        by_cases c2 : yd = 0
        · have c3 : sl = 0 := (hy.resolve_left (fun z => z c1)).resolve_left (fun z => z c2)
          exact br_t c2 (br_t c3 key)
        · exact br_f c2 key
      · exact br_f c1 key
  rcases hsx with ⟨z1, z2, z3⟩ | ⟨z1, z2⟩
  · by_cases cs : s = 0
    · refine hpass (by rw [z1, cs]; decide) (Or.inr (Or.inr (by rw [hsl, cs]; rfl)))
    · refine ⟨(q, tn, sl, pc, wp, he, co, ca, cb, fs, fc, ts, tu, ux', tl, ul, tm, gc, ga, gp, ss, st, sf, tc, tr, ow, ti, fd, ft, fk, fn, fh, fl, fv, rs, nt), (q, wp, tn, sl, yd, nd, co, ca, cb, le, he, kl, tu, uy, tl, ul, tm, gc, ga, gp, ss, st, sf, fd, tc, tr, ow, ti, ft, fn, fh, fp, fz, fl, fv, rs, au), mk_rr ⟨a1, Or.inr ⟨k, hk, htn, z2, s, by omega, by omega, hsl⟩, a3, a4, a5, a6, a7, a8, a9, a10⟩, fun post J x1 x2 hJ => ?_, fun post x1 n x2 hJ => ?_⟩
      · unfold xr_74; dsimp only
        unfold wX_run_74
        refine w2 _ ?_
        refine br_t (by rw [z1]; exact nI_lt (a := 0) (by omega) (by omega)) (nm_e ?_)
        rw [z1, ← hsl]
        exact hJ
      · unfold yr_c; dsimp only
        refine ⟨vk, ?_⟩
        rw [ek]
        exact br_t z2 (br_t z3 (br_f (by rw [hsl]; exact nI_ne0 (by omega) (by omega)) hJ))
  · exact hpass (by rw [z1]; decide) (z2.elim Or.inl (fun y => Or.inr (Or.inl y)))
theorem xr_st {post : Int32 → SX → Prop} {x1 x2 : Int32} {n k s : Nat} {u2 : SX} (hk : k < 6) (hc : ¬ x1 ≤ x2) (hx : xg_ok (q, nI k, nI s, pc, wp, he, co, ca, cb, fs, fc, ts, tu, ux, tl, ul, tm, gc, ga, gp, ss, st, sf, tc, tr, ow, ti, fd, ft, fk, fn, fh, fl, fv, rs, nt) (nI k) u2) (h : xr_74 post (wX_run_15 post x1 n) x1 x2 u2) : wX_run_15 post x1 (n + 1) x2 q (nI k) (nI (s + 1)) pc wp he co ca cb fs fc ts tu ux tl ul tm gc ga gp ss st sf tc tr ow ti fd ft fk fn fh fl fv rs nt := by
  refine br_f hc (br_f (ix_neg k (by omega)) (nm_r (nI_pred s) ?_))
  rcases hx with ⟨hF, hE | ⟨f, u1, hf, hE, hU⟩⟩ | ⟨f, hf, hF, hU⟩
  · refine hF _ (br_t rfl (hE _ ?_))
    obtain ⟨y0, y1, y2, y3, y4, y5, y6, y7, y8, y9, y10, y11, y12, y13, y14, y15, y16, y17, y18, y19, y20, y21, y22, y23, y24, y25, y26, y27, y28, y29, y30, y31, y32, y33, y34, y35⟩ := u2
    exact br_t rfl h
  · refine hF _ (br_t rfl (hE _ ?_))
    obtain ⟨z0, z1, z2, z3, z4, z5, z6, z7, z8, z9, z10, z11, z12, z13, z14, z15, z16, z17, z18, z19, z20, z21, z22, z23, z24, z25, z26, z27, z28, z29, z30, z31, z32, z33, z34, z35⟩ := u1
    refine br_f hf (hU _ ?_)
    obtain ⟨y0, y1, y2, y3, y4, y5, y6, y7, y8, y9, y10, y11, y12, y13, y14, y15, y16, y17, y18, y19, y20, y21, y22, y23, y24, y25, y26, y27, y28, y29, y30, y31, y32, y33, y34, y35⟩ := u2
    exact h
  · refine hF _ (br_f hf (br_f hf (hU _ ?_)))
    obtain ⟨y0, y1, y2, y3, y4, y5, y6, y7, y8, y9, y10, y11, y12, y13, y14, y15, y16, y17, y18, y19, y20, y21, y22, y23, y24, y25, y26, y27, y28, y29, y30, y31, y32, y33, y34, y35⟩ := u2
    exact h
theorem yr_st {post : Int32 → SY → Prop} {x1 : Int32} {n k s j : Nat} {v2 : SY} (hk : k < 6) (hc : ¬ x1 ≤ nI j) (hY : ∀ post' : SY → Prop, post' v2 → wpY_step post' (q, wp, nI k, nI s, 0, nd, co, ca, cb, le, he, kl, tu, uy, tl, ul, tm, gc, ga, gp, ss, st, sf, fd, tc, tr, ow, ti, ft, fn, fh, fp, fz, fl, fv, rs, au) (nI k)) (h : yr_c post x1 n (nI (j + 1)) (nI k) v2) : wY_run_15 post x1 (n + 1) (nI j) q wp (nI k) (nI (s + 1)) yd nd co ca cb le he kl tu uy tl ul tm gc ga gp ss st sf fd tc tr ow ti ft fn fh fp fz fl fv rs au := by
  refine br_f hc (br_f (nI_pos (by omega)) (nm_r (nI_1 j) (nm_r (nI_pred s) (hY _ ?_))))
  obtain ⟨y0, y1, y2, y3, y4, y5, y6, y7, y8, y9, y10, y11, y12, y13, y14, y15, y16, y17, y18, y19, y20, y21, y22, y23, y24, y25, y26, y27, y28, y29, y30, y31, y32, y33, y34, y35, y36⟩ := v2
  exact h
end
theorem rn_loop : ∀ (m j M : Nat) (u : SX) (v : SY), rr_S M u v → M + m < 2 ^ 30 → j + m < 2 ^ 30 → ∃ (r : Int32) (u' : SX) (v' : SY), rr_S (M + m) u' v' ∧
    (∀ post : Int32 → SX → Prop, post r u' → xr_15 post (nI (j + m)) (m + 1) (nI j) u) ∧ (∀ post : Int32 → SY → Prop, post r v' → yr_15 post (nI (j + m)) (m + 1) (nI j) v) := by
  intro m
  induction m with
  | zero =>
    intro j M u v R hM hj
    obtain ⟨H, q, tn, sl, pc, wp, yd, nd, he, co, ca, cb, fs, fc, ts, tu, ux, tl, ul, tm, gc, ga, gp, ss, st, sf, tc, tr, ow, ti, fd, ft, fk, fn, fh, fl, fv, rs, nt, le, kl, uy, fp, fz, au, rfl, rfl, R⟩ := R
    exact ⟨nI j, _, _, mk_rr R, fun _ h => br_t (nI_le (Nat.le_refl _) (by omega)) h, fun _ h => br_t (nI_le (Nat.le_refl _) (by omega)) h⟩
  | succ m ih =>
    intro j M u v R hM hj
    obtain ⟨H, q, tn, sl, pc, wp, yd, nd, he, co, ca, cb, fs, fc, ts, tu, ux, tl, ul, tm, gc, ga, gp, ss, st, sf, tc, tr, ow, ti, fd, ft, fk, fn, fh, fl, fv, rs, nt, le, kl, uy, fp, fz, au, rfl, rfl, R⟩ := R
    have hc : ¬ nI (j + (m + 1)) ≤ nI j := nI_ge (by omega) (by omega)
    obtain ⟨a1, a2, a3, a4, a5, a6, a7, a8, a9, a10⟩ := R
    rcases a2 with e | ⟨k, hk, e, htc, s, s1, s2, hsl⟩
    · have en : tn < 0 := by rw [e]; decide
      exact ⟨nI j, _, _, mk_rr ⟨a1, Or.inl e, a3, a4, a5, a6, a7, a8, a9, rl_nU a10 (by omega)⟩, fun _ h => br_f hc (br_t e h), fun _ h => br_f hc (br_t en h)⟩
    · obtain ⟨s', rfl⟩ : ∃ s', s = s' + 1 := ⟨s - 1, by omega⟩
      subst e hsl
      obtain ⟨u2, v2, r1, r2, r3⟩ := sp_all (q := q) (pc := pc) (wp := wp) (nd := nd) (he := he) (co := co) (ca := ca) (cb := cb) (fs := fs) (fc := fc) (ts := ts) (tu := tu) (ux := ux) (tl := tl) (ul := ul) (tm := tm) (gc := gc) (ga := ga) (gp := gp) (ss := ss) (st := st) (sf := sf) (tc := tc) (tr := tr) (ow := ow) (ti := ti) (fd := fd) (ft := ft) (fk := fk) (fn := fn) (fh := fh) (fl := fl) (fv := fv) (rs := rs) (nt := nt) (le := le) (kl := kl) (uy := uy) (fp := fp) (fz := fz) (au := au) (tn := nI k) (sl := nI s') (yd := 0) (M := M) (by omega) hk rfl rfl rfl htc a1 a3 a4 a5 a6 a7 a8 a9 a10
      obtain ⟨u3, v3, q1, q2, q3⟩ := ps_all hk (by omega) r1
      obtain ⟨r, u', v', g1, g2, g3⟩ := ih (j + 1) (M + 1) u3 v3 q1 (by omega) (by omega)
      rw [show M + 1 + m = M + (m + 1) by omega] at g1
      rw [show j + 1 + m = j + (m + 1) by omega] at g2 g3
      refine ⟨r, u', v', g1, fun post h => ?_, fun post h => ?_⟩
      · refine xr_st hk hc r2 (q2 _ _ _ _ ?_)
        have z := g2 post h
        rw [nI_1]
        obtain ⟨y0, y1, y2, y3, y4, y5, y6, y7, y8, y9, y10, y11, y12, y13, y14, y15, y16, y17, y18, y19, y20, y21, y22, y23, y24, y25, y26, y27, y28, y29, y30, y31, y32, y33, y34, y35⟩ := u3
        exact z
      · exact yr_st hk hc r3 (q3 _ _ _ _ (g3 post h))
theorem i_vc_run {k : Nat} {u : SX} {v : SY} (I : i_Rel k u v) (hk : k + 5 ≤ 2561) (v1 : Int32) : wpX_run (fun r u' => wpY_run (fun r' v' => r' = r ∧ i_Rel (k + 5) u' v') v v1) u v1 := by
  have I5 := i_up I
  by_cases c1 : v1 < 0
  · obtain ⟨H, q, tn, sl, pc, wp, yd, nd, he, co, ca, cb, fs, fc, ts, tu, ux, tl, ul, tm, gc, ga, gp, ss, st, sf, tc, tr, ow, ti, fd, ft, fk, fn, fh, fl, fv, rs, nt, le, kl, uy, fp, fz, au, rfl, rfl, a1, a2, a3, a4, a5, a6, a7, a8, a9, a10⟩ := I
    exact br_t c1 (br_t c1 ⟨rfl, I5⟩)
  obtain ⟨n, hn, rfl⟩ := nI_of c1
  by_cases c2 : n ≤ 200
  · have c2' : nI n ≤ 200 := nI_le (b := 200) c2 (by decide)
    obtain ⟨r, u', v', g1, g2, g3⟩ := rn_loop n 0 (40 * k) u v I (by omega) (by omega)
    rw [Nat.zero_add] at g2 g3
    have fin : i_Rel (k + 5) u' v' := by
      obtain ⟨H, q, tn, sl, pc, wp, yd, nd, he, co, ca, cb, fs, fc, ts, tu, ux, tl, ul, tm, gc, ga, gp, ss, st, sf, tc, tr, ow, ti, fd, ft, fk, fn, fh, fl, fv, rs, nt, le, kl, uy, fp, fz, au, rfl, rfl, a1, a2, a3, a4, a5, a6, a7, a8, a9, a10⟩ := g1
      exact mk_rel ⟨a1, a2, a3, a4, a5, a6, a7, a8, a9, rl_nU a10 (by omega)⟩
    obtain ⟨H, q, tn, sl, pc, wp, yd, nd, he, co, ca, cb, fs, fc, ts, tu, ux, tl, ul, tm, gc, ga, gp, ss, st, sf, tc, tr, ow, ti, fd, ft, fk, fn, fh, fl, fv, rs, nt, le, kl, uy, fp, fz, au, rfl, rfl, a1, a2, a3, a4, a5, a6, a7, a8, a9, a10⟩ := I
    exact br_f c1 (br_t c2' ⟨_, g2 _ (br_f c1 (br_t c2' ⟨_, g3 _ ⟨rfl, fin⟩⟩))⟩)
  · have c2' : ¬ nI n ≤ 200 := nI_ge (b := n) (a := 200) (by omega) hn
    obtain ⟨H, q, tn, sl, pc, wp, yd, nd, he, co, ca, cb, fs, fc, ts, tu, ux, tl, ul, tm, gc, ga, gp, ss, st, sf, tc, tr, ow, ti, fd, ft, fk, fn, fh, fl, fv, rs, nt, le, kl, uy, fp, fz, au, rfl, rfl, a1, a2, a3, a4, a5, a6, a7, a8, a9, a10⟩ := I
    exact br_f c1 (br_f c2' (br_f c1 (br_f c2' ⟨rfl, I5⟩)))
end
section
def bt (x : Int32) (i : Nat) : Bool := x.toBitVec.getLsbD i
theorem b_ext {x y : Int32} (h : ∀ i, i < 32 → bt x i = bt y i) : x = y := Int32.toBitVec_inj.mp (BitVec.eq_of_getLsbD_eq (fun i hi => h i hi))
theorem b_or (x y : Int32) (i : Nat) : bt (x ||| y) i = (bt x i || bt y i) := by unfold bt; rw [Int32.toBitVec_or, BitVec.getLsbD_or]
theorem b_and (x y : Int32) (i : Nat) : bt (x &&& y) i = (bt x i && bt y i) := by unfold bt; rw [Int32.toBitVec_and, BitVec.getLsbD_and]
theorem b_xor (x y : Int32) (i : Nat) : bt (x ^^^ y) i = (bt x i ^^ bt y i) := by unfold bt; rw [Int32.toBitVec_xor, BitVec.getLsbD_xor]
theorem b_big {x : Int32} {i : Nat} (h : 32 ≤ i) : bt x i = false := BitVec.getLsbD_of_ge _ _ h
theorem b_m1 : ∀ i, i < 32 → bt (-1) i = true := by decide +kernel
theorem b_0 (i : Nat) : bt 0 i = false := BitVec.getLsbD_zero
theorem s_l : ∀ n, n < 32 → ((nI n &&& 31).toBitVec.smod 32).toNat = n := by decide +kernel
theorem b_shl (n : Nat) (hn : n < 32) (x : Int32) {i : Nat} (hi : i < 32) : bt (x <<< (nI n &&& 31)) i = (decide (n ≤ i) && bt x (i - n)) := by
  unfold bt
  rw [Int32.toBitVec_shiftLeft]
  show (x.toBitVec <<< ((nI n &&& 31).toBitVec.smod 32).toNat).getLsbD i = _
  rw [s_l n hn, BitVec.getLsbD_shiftLeft]
  rcases Nat.lt_or_ge i n with h | h
  · simp [h, Nat.not_le.mpr h]
  · simp [hi, h, Nat.not_lt.mpr h]
theorem b_sshr (n : Nat) (hn : n < 32) (x : Int32) {i : Nat} (hi : i < 32) : bt (x >>> (nI n &&& 31)) i = if n + i < 32 then bt x (n + i) else bt x 31 := by
  unfold bt
  rw [Int32.toBitVec_shiftRight]
  show (x.toBitVec.sshiftRight ((nI n &&& 31).toBitVec.smod 32).toNat).getLsbD i = _
  rw [s_l n hn, BitVec.getLsbD_sshiftRight, BitVec.msb_eq_getLsbD_last]
  simp [hi]
theorem b_1 : ∀ i, i < 32 → bt 1 i = decide (i = 0) := by decide +kernel
theorem b_511 : ∀ i, i < 32 → bt 511 i = decide (i < 9) := by decide +kernel
theorem b_one : ∀ m, m < 32 → ∀ b, b < 32 → bt ((1 : Int32) <<< (nI m &&& 31)) b = decide (b = m) := by decide +kernel
theorem bi_v (x : Int32) {b : Nat} (hb : b < 32) : (x >>> (nI b &&& 31)) &&& 1 = if bt x b = true then 1 else 0 := by
  apply b_ext
  intro i hi
  rw [b_and, b_1 i hi, b_sshr b hb x hi]
  by_cases c : i = 0
  · subst c
    rw [Nat.add_zero, if_pos hb]
    by_cases cx : bt x b = true
    · rw [if_pos cx, cx, b_1 0 (by decide)]; rfl
    · rw [if_neg cx, b_0]
      rw [Bool.not_eq_true] at cx
      rw [cx]; rfl
  · rw [decide_eq_false c, Bool.and_false]
    by_cases cx : bt x b = true
    · rw [if_pos cx, b_1 i hi, decide_eq_false c]
    · rw [if_neg cx, b_0]
theorem bi_0 (x : Int32) {b : Nat} (hb : b < 32) : ((x >>> (nI b &&& 31)) &&& 1 = 0) ↔ bt x b = false := by
  rw [bi_v x hb]
  by_cases c : bt x b = true
  · rw [if_pos c, c]; exact ⟨fun z => absurd z (by decide), fun z => absurd z (by decide)⟩
  · rw [if_neg c]
    rw [Bool.not_eq_true] at c
    exact ⟨fun _ => c, fun _ => rfl⟩
theorem bi_1 (x : Int32) {b : Nat} (hb : b < 32) : ((x >>> (nI b &&& 31)) &&& 1 = 1) ↔ bt x b = true := by
  rw [bi_v x hb]
  by_cases c : bt x b = true
  · rw [if_pos c]; exact ⟨fun _ => c, fun _ => rfl⟩
  · rw [if_neg c]; exact ⟨fun z => absurd z (by decide), fun z => absurd z c⟩
theorem bi_sub (w y : Int32) : (w &&& (y ^^^ (-1)) = 0) ↔ y ||| w = y := by
  constructor
  · intro h
    apply b_ext
    intro i hi
    have e := congrArg (fun z => bt z i) h
    simp only [b_and, b_xor, b_m1 i hi, b_0, Bool.xor_true] at e
    rw [b_or]
    cases hy : bt y i <;> cases hw : bt w i <;> simp_all
  · intro h
    apply b_ext
    intro i hi
    have e := congrArg (fun z => bt z i) h
    simp only [b_or] at e
    rw [b_and, b_xor, b_m1 i hi, b_0]
    cases hy : bt y i <;> cases hw : bt w i <;> simp_all
theorem bi_oa (a b c : Int32) : a ||| b ||| c = a ||| (b ||| c) := b_ext (fun i hi => by simp only [b_or, Bool.or_assoc])
theorem bi_oo (a b c : Int32) : (a ||| b ||| b) ||| c ||| c = a ||| (b ||| c) := b_ext (fun i hi => by simp only [b_or]; cases bt a i <;> cases bt b i <;> cases bt c i <;> rfl)
theorem bi_o0 (a : Int32) : a ||| 0 = a := b_ext (fun i hi => by rw [b_or, b_0, Bool.or_false])
theorem bi_oi (a b : Int32) : a ||| b ||| b = a ||| b := b_ext (fun i hi => by simp only [b_or]; cases bt a i <;> cases bt b i <;> rfl)
/-- nine bits -/
def n9_P (x : Int32) : Prop := ∀ b, 9 ≤ b → b < 32 → bt x b = false
theorem n9_or {x y : Int32} (hx : n9_P x) (hy : n9_P y) : n9_P (x ||| y) := fun b h1 h2 => by rw [b_or, hx b h1 h2, hy b h1 h2]; rfl
theorem n9_s {x : Int32} (h : n9_P x) : ∃ s : Nat, s < 512 ∧ x = nI s := by
  have e : x &&& 511 = x := b_ext (fun i hi => by
    rw [b_and, b_511 i hi]
    by_cases c : i < 9
    · rw [decide_eq_true c, Bool.and_true]
    · rw [h i (by omega) hi, Bool.false_and])
  obtain ⟨j, hj, ej⟩ := pk_andE x (m := 511) 9 (by decide)
  exact ⟨j, hj, by rw [← e]; exact ej⟩
def af_w (x : Int32) (p q : Nat) : Int32 := ((x >>> (nI p &&& 31)) <<< (nI q &&& 31)) &&& 511
theorem af_b (x : Int32) {p q b : Nat} (hp : p ≤ 2) (hq : q ≤ 2) (hb : b < 32) : bt (af_w x p q) b = (decide (b < 9) && (decide (q ≤ b) && bt x (p + (b - q)))) := by
  unfold af_w
  rw [b_and, b_511 b hb, b_shl q (by omega) _ hb]
  by_cases c9 : b < 9
  · rw [b_sshr p (by omega) x (by omega), if_pos (by omega), decide_eq_true c9, Bool.and_true, Bool.true_and]
  · rw [decide_eq_false c9, Bool.and_false, Bool.false_and]
theorem af_9 (x : Int32) {p q : Nat} (hp : p ≤ 2) (hq : q ≤ 2) : n9_P (af_w x p q) := fun b h1 h2 => by
  rw [af_b x hp hq h2, decide_eq_false (by omega), Bool.false_and]
def fw_w (x : Int32) (p q : Nat) : Nat → Int32
  | 0 => 0
  | h + 1 => if bt x h = true ∧ p ≤ h ∧ h - p + q ≤ 8 then fw_w x p q h ||| ((1 : Int32) <<< (nI (h - p + q) &&& 31)) else fw_w x p q h
theorem fw_b (x : Int32) {p q : Nat} (hp : p ≤ 2) (hq : q ≤ 2) : ∀ h, h ≤ 9 → ∀ b, b < 32 → bt (fw_w x p q h) b = (decide (q ≤ b ∧ b < 9 ∧ p + (b - q) < h) && bt x (p + (b - q))) := by
  intro h
  induction h with
  | zero =>
    intro _ b hb
    rw [fw_w, b_0, decide_eq_false (by omega), Bool.false_and]
  | succ h ih =>
    intro hh b hb
    have e := ih (by omega) b hb
    rw [fw_w]
    by_cases c : bt x h = true ∧ p ≤ h ∧ h - p + q ≤ 8
    · rw [if_pos c, b_or, e, b_one (h - p + q) (by omega) b hb]
      by_cases cb : b = h - p + q
      · rw [decide_eq_true cb, Bool.or_true, show p + (b - q) = h by omega, c.1, decide_eq_true (by omega)]; rfl
      · rw [decide_eq_false cb, Bool.or_false]
        by_cases c2 : q ≤ b ∧ b < 9 ∧ p + (b - q) < h
        · rw [decide_eq_true c2, decide_eq_true (by omega)]
        · rw [decide_eq_false c2, decide_eq_false (by omega)]
    · rw [if_neg c, e]
      by_cases c2 : q ≤ b ∧ b < 9 ∧ p + (b - q) < h
      · rw [decide_eq_true c2, decide_eq_true (by omega)]
      · rw [decide_eq_false c2, Bool.false_and]
        by_cases c3 : q ≤ b ∧ b < 9 ∧ p + (b - q) < h + 1
        · have e1 : p + (b - q) = h := by omega
          rw [decide_eq_true c3, e1, Bool.true_and]
          cases hx : bt x h with
          | false => rfl
          | true => exact absurd ⟨hx, by omega, by omega⟩ c
        · rw [decide_eq_false c3, Bool.false_and]
theorem fw_9 {x : Int32} (hx : n9_P x) {p q : Nat} (hp : p ≤ 2) (hq : q ≤ 2) : fw_w x p q 9 = af_w x p q := by
  apply b_ext
  intro b hb
  rw [fw_b x hp hq 9 (Nat.le_refl _) b hb, af_b x hp hq hb]
  by_cases c9 : b < 9
  · by_cases cq : q ≤ b
    · rw [decide_eq_true c9, decide_eq_true cq, Bool.true_and, Bool.true_and]
      by_cases c : p + (b - q) < 9
      · rw [decide_eq_true ⟨cq, c9, c⟩, Bool.true_and]
      · rw [decide_eq_false (fun z => c z.2.2), Bool.false_and, hx _ (by omega) (by omega)]
    · rw [decide_eq_false (fun z => cq z.1), decide_eq_false cq]; simp
  · rw [decide_eq_false (fun z => c9 z.2.1), decide_eq_false c9, Bool.false_and, Bool.false_and]
def ct_b (f : Nat → Bool) : Nat → Nat
  | 0 => 0
  | n + 1 => ct_b f n + (if f n = true then 1 else 0)
theorem ct_le (f : Nat → Bool) : ∀ n, ct_b f n ≤ n
  | 0 => Nat.le_refl 0
  | n + 1 => by
    have := ct_le f n
    simp only [ct_b]
    split <;> omega
theorem ct_mono {f g : Nat → Bool} : ∀ {n : Nat}, (∀ z, z < n → f z = true → g z = true) → ct_b f n ≤ ct_b g n
  | 0, _ => Nat.le_refl 0
  | n + 1, h => by
    have a := ct_mono (f := f) (g := g) (n := n) (fun z hz => h z (by omega))
    have b := h n (by omega)
    simp only [ct_b]
    by_cases c : f n = true
    · rw [if_pos c, if_pos (b c)]; omega
    · rw [if_neg c]; omega
theorem ct_lt {f g : Nat → Bool} {a : Nat} (ha : f a = false) (hb : g a = true) : ∀ {n : Nat}, (∀ z, z < n → f z = true → g z = true) → a < n → ct_b f n < ct_b g n
  | 0, _, h => by omega
  | n + 1, h, hn => by
    have b := h n (by omega)
    simp only [ct_b]
    by_cases c : a = n
    · subst c
      have := ct_mono (f := f) (g := g) (n := a) (fun z hz => h z (by omega))
      rw [ha, hb, if_pos rfl, if_neg (by decide)]; omega
    · have := ct_lt ha hb (n := n) (fun z hz => h z (by omega)) (by omega)
      by_cases cf : f n = true
      · rw [if_pos cf, if_pos (b cf)]; omega
      · rw [if_neg cf]; omega
def mu_h (he : Nat → Int32) (n : Nat) : Nat := ct_b (fun z => bt (he (z / 9)) (z % 9)) (9 * n)
theorem mu_le (he : Nat → Int32) (n : Nat) : mu_h he n ≤ 9 * n := ct_le _ _
def mo_P (he he' : Nat → Int32) (n : Nat) : Prop := ∀ y, y < n → ∀ b, bt (he y) b = true → bt (he' y) b = true
theorem mu_mono {he he' : Nat → Int32} {n : Nat} (h : mo_P he he' n) : mu_h he n ≤ mu_h he' n := ct_mono (fun z hz e => h (z / 9) (by omega) (z % 9) e)
theorem mu_lt {he he' : Nat → Int32} {n y b : Nat} (h : mo_P he he' n) (hy : y < n) (hb : b < 9) (h0 : bt (he y) b = false) (h1 : bt (he' y) b = true) : mu_h he n < mu_h he' n := by
  refine ct_lt (a := 9 * y + b) ?_ ?_ (fun z hz e => h (z / 9) (by omega) (z % 9) e) (by omega)
  · show bt (he ((9 * y + b) / 9)) ((9 * y + b) % 9) = false
    rw [show (9 * y + b) / 9 = y by omega, show (9 * y + b) % 9 = b by omega]
    exact h0
  · show bt (he' ((9 * y + b) / 9)) ((9 * y + b) % 9) = true
    rw [show (9 * y + b) / 9 = y by omega, show (9 * y + b) % 9 = b by omega]
    exact h1
theorem mo_ad (he : Nat → Int32) (n y : Nat) (w : Int32) : mo_P he (upd he y (he y ||| w)) n := by
  intro z hz b e
  by_cases c : z = y
  · subst c; rw [pk_us, b_or, e]; rfl
  · rw [pk_un c]; exact e
theorem mo_tr {a b c : Nat → Int32} {n : Nat} (h1 : mo_P a b n) (h2 : mo_P b c n) : mo_P a c n := fun y hy z e => h2 y hy z (h1 y hy z e)
/-- adding w at y: nothing new, or the measure grows -/
theorem ad_c {he : Nat → Int32} {n y : Nat} {w : Int32} (hy : y < n) (hw : n9_P w) : (he y ||| w = he y ∧ upd he y (he y ||| w) = he) ∨ (¬ he y ||| w = he y ∧ mu_h he n < mu_h (upd he y (he y ||| w)) n) := by
  by_cases c : he y ||| w = he y
  · refine Or.inl ⟨c, ?_⟩
    rw [c, ix_self]
  · refine Or.inr ⟨c, ?_⟩
    have hx : ∃ b, b < 32 ∧ ¬ (bt (he y ||| w) b = bt (he y) b) := Classical.byContradiction (fun z => c (b_ext (fun i hi => Classical.byContradiction (fun y => z ⟨i, hi, y⟩))))
    obtain ⟨b, hb, hn⟩ := hx
    rw [b_or] at hn
    have h0 : bt (he y) b = false := by
      cases h : bt (he y) b with
      | false => rfl
      | true => rw [h] at hn; exact absurd rfl hn
    have h1 : bt w b = true := by
      cases h : bt w b with
      | true => rfl
      | false => rw [h, h0] at hn; exact absurd rfl hn
    have h9 : b < 9 := Nat.lt_of_not_le (fun z => by rw [hw b z hb] at h1; exact absurd h1 (by decide))
    refine mu_lt (mo_ad he n y w) hy h9 h0 ?_
    rw [pk_us, b_or, h1, Bool.or_true]
end
section
/-- the FUNC around row i of the pending bundle, whose row 0 is a FUNC -/
def la_f (co : Nat → Int32) : Nat → Nat
  | 0 => 0
  | i + 1 => if co (256 + (i + 1)) = 0 then i + 1 else la_f co i
theorem la_le (co : Nat → Int32) : ∀ i, la_f co i ≤ i
  | 0 => Nat.le_refl 0
  | i + 1 => by
    have := la_le co i
    simp only [la_f]
    split <;> omega
theorem la_0 {co : Nat → Int32} (h0 : co 256 = 0) : ∀ i, co (256 + la_f co i) = 0
  | 0 => h0
  | i + 1 => by
    have := la_0 h0 i
    simp only [la_f]
    split
    · assumption
    · exact this
theorem la_gt (co : Nat → Int32) : ∀ i j, la_f co i < j → j ≤ i → co (256 + j) ≠ 0
  | 0, j => fun h1 h2 => absurd h1 (by simp only [la_f]; omega)
  | i + 1, j => fun h1 h2 => by
    simp only [la_f] at h1
    by_cases c : co (256 + (i + 1)) = 0
    · rw [if_pos c] at h1; omega
    · rw [if_neg c] at h1
      by_cases cj : j = i + 1
      · rw [cj]; exact c
      · exact la_gt co i j h1 (by omega)
theorem la_eq {co : Nat → Int32} {s : Nat} (hs : co (256 + s) = 0) (h0 : co 256 = 0) : ∀ a, s ≤ a → (∀ j, s < j → j ≤ a → co (256 + j) ≠ 0) → la_f co a = s := by
  intro a
  induction a with
  | zero => intro h1 _; rw [show s = 0 by omega]; rfl
  | succ a ih =>
    intro h1 h2
    simp only [la_f]
    by_cases c : s = a + 1
    · rw [← c, if_pos hs]
    · rw [if_neg (h2 (a + 1) (by omega) (Nat.le_refl _))]
      exact ih (by omega) (fun j h3 h4 => h2 j h3 (by omega))
/-- row x lies in the function that begins at s, behind its FUNC -/
theorem la_in {co : Nat → Int32} (h0 : co 256 = 0) {i x : Nat} : (la_f co i < x ∧ ∀ j, la_f co i < j → j ≤ x → co (256 + j) ≠ 0) ↔ (co (256 + x) ≠ 0 ∧ la_f co x = la_f co i) := by
  constructor
  · rintro ⟨h1, h2⟩
    exact ⟨h2 x h1 (Nat.le_refl _), la_eq (la_0 h0 i) h0 x (by omega) h2⟩
  · rintro ⟨h1, h2⟩
    have hl := la_le co x
    have h3 : la_f co x ≠ x := fun z => h1 (by rw [← z]; exact la_0 h0 x)
    exact ⟨by omega, fun j h4 h5 => la_gt co x j (by omega) h5⟩
def wj_P (co : Nat → Int32) (n i : Nat) (a : Int32) : Prop := ∃ x : Nat, a = nI x ∧ x < n ∧ co (256 + x) ≠ 0 ∧ la_f co x = la_f co i
/-- the operands of row i are good (o: its code, a, b: its operands, F: the bundle's functions) -/
def wg_P (co ca : Nat → Int32) (n F i : Nat) (o a b : Int32) : Prop :=
  (∃ x : Nat, x < 24 ∧ o = nI x) ∧ (o = 0 → ¬ a < 1 ∧ ¬ 4 < a) ∧ (o = 10 ∨ o = 11 → ¬ a < 0 ∧ ¬ ca (256 + la_f co i) ≤ a) ∧ (o = 12 ∨ o = 13 → wj_P co n i a) ∧
  (o = 14 ∨ o = 15 ∨ o = 17 → ¬ a < 0 ∧ ¬ nI F ≤ a) ∧ (o = 16 → ¬ a < 0 ∧ ¬ 4 ≤ a) ∧ (o = 18 → (¬ a < 0 ∧ ¬ 4 ≤ a) ∧ (¬ b < 0 ∧ ¬ 84 ≤ b))
def wf_P (co ca cb : Nat → Int32) (n i : Nat) : Prop := wg_P co ca n (cf_n co 256 n) i (co (256 + i)) (ca (256 + i)) (cb (256 + i)) ∧ (co (256 + i) = 0 → cf_n co 256 i < 4)
theorem ix_l1 (a : Int32) : a ≤ 0 ↔ a < 1 := by
  rw [Int32.le_iff_toInt_le, Int32.lt_iff_toInt_lt, show (0 : Int32).toInt = 0 from by decide, show (1 : Int32).toInt = 1 from by decide]
  omega
theorem ix_l5 (a : Int32) : 5 ≤ a ↔ 4 < a := by
  rw [Int32.le_iff_toInt_le, Int32.lt_iff_toInt_lt, show (5 : Int32).toInt = 5 from by decide, show (4 : Int32).toInt = 4 from by decide]
  omega
theorem ix_l24 (a : Int32) : 24 ≤ a ↔ 23 < a := by
  rw [Int32.le_iff_toInt_le, Int32.lt_iff_toInt_lt, show (24 : Int32).toInt = 24 from by decide, show (23 : Int32).toInt = 23 from by decide]
  omega
section
variable {q tn sl pc wp yd nd : Int32} {he co ca cb fs fc ts tu ux tl ul tm gc ga gp ss st sf tc tr ow ti fd ft fk fn fh fl fv rs nt le kl uy fp fz au : Nat → Int32}
theorem xl_ins {post : Int32 → Prop} {n i : Nat} {a : Int32} (hl : pc = nI n) (hn : n ≤ 64) (h0 : co 256 = 0) (hi : i < n) (h1 : wj_P co n i a → post 1) (hz : ¬ wj_P co n i a → post 0) : wpX_isInsideFunction post (q, tn, sl, pc, wp, he, co, ca, cb, fs, fc, ts, tu, ux, tl, ul, tm, gc, ga, gp, ss, st, sf, tc, tr, ow, ti, fd, ft, fk, fn, fh, fl, fv, rs, nt) a (nI (la_f co i)) := by
  have ll := la_le co i
  by_cases c1 : a ≤ nI (la_f co i)
  · refine br_t c1 (hz ?_)
    rintro ⟨x, rfl, g1, g2, g3⟩
    rw [nI_leI (by omega) (by omega)] at c1
    have := (la_in h0 (i := i) (x := x)).mpr ⟨g2, g3⟩
    omega
  · have c0 : ¬ a < 0 := fun z => c1 (Int32.le_of_lt (Int32.lt_of_lt_of_le z (nI_pos' (by omega))))
    obtain ⟨x, hx, rfl⟩ := nI_of c0
    rw [nI_leI (by omega) (by omega)] at c1
    have c1' : ¬ nI x ≤ nI (la_f co i) := nI_ge (by omega) (by omega)
    by_cases c2 : x < n
    · have key : ∀ m j : Nat, j + m = x + 1 → la_f co i < j → (∀ y, la_f co i < y → y < j → co (256 + y) ≠ 0) → wX_isInsideFunction_19 post (nI x) q tn sl pc wp he co ca cb fs fc ts tu ux tl ul tm gc ga gp ss st sf tc tr ow ti fd ft fk fn fh fl fv rs nt (m + 1) (nI j) := by
        intro m
        induction m with
        | zero =>
          intro j hj g1 g2
          refine br_t (nI_lt (by omega) (by omega)) (h1 ⟨x, rfl, c2, ?_⟩)
          exact (la_in h0).mp ⟨by omega, fun y y1 y2 => g2 y y1 (by omega)⟩
        | succ m ih =>
          intro j hj g1 g2
          have e1 : 256 + nI j = nI (256 + j) := ix_a 256 rfl j
          have e2 : (nI (256 + j)).toNatClampNeg = 256 + j := nI_clamp (by omega)
          refine br_f (nI_nlt (by omega) (by omega)) ⟨by rw [e1]; exact vp_in_nI (by omega) (by decide), ?_⟩
          rw [e1, e2]
          by_cases c : co (256 + j) = 0
          · refine br_t c (hz ?_)
            rintro ⟨x', ex, q1, q2, q3⟩
            rw [nI_eq (by omega) (by omega)] at ex
            subst ex
            exact ((la_in h0 (i := i)).mpr ⟨q2, q3⟩).2 j g1 (by omega) c
          · refine br_f c (nm_r (nI_1 j) (ih (j + 1) (by omega) (by omega) (fun y y1 y2 => ?_)))
            by_cases cy : y = j
            · rw [cy]; exact c
            · exact g2 y y1 (by omega)
      refine br_f c1' (br_t (by rw [hl]; exact nI_lt c2 (by omega)) (nm_r (nI_1 _) ⟨x - la_f co i + 1, key _ _ (by omega) (by omega) (fun y y1 y2 => absurd y2 (by omega))⟩))
    · refine br_f c1' (br_f (by rw [hl]; exact nI_nlt (by omega) hx) (hz ?_))
      rintro ⟨x', ex, q1, q2, q3⟩
      rw [nI_eq (by omega) (by omega)] at ex
      omega
theorem yl_ar {post : Int32 → Prop} {i : Nat} (hi : i < 64) (h0 : co 256 = 0) (h : post (nI (la_f co i))) : wpY_around post (q, wp, tn, sl, yd, nd, co, ca, cb, le, he, kl, tu, uy, tl, ul, tm, gc, ga, gp, ss, st, sf, fd, tc, tr, ow, ti, ft, fn, fh, fp, fz, fl, fv, rs, au) (nI i) := by
  have key : ∀ m : Nat, m < 64 → post (nI (la_f co m)) → wY_around_2 post q wp tn sl yd nd co ca cb le he kl tu uy tl ul tm gc ga gp ss st sf fd tc tr ow ti ft fn fh fp fz fl fv rs au (m + 1) (nI m) := by
    intro m
    induction m with
    | zero => intro _ hp; exact ⟨vp_in_iff.mpr (by decide), br_t h0 hp⟩
    | succ m ih =>
      intro hm hp
      have e1 : 256 + nI (m + 1) = nI (256 + (m + 1)) := ix_a 256 rfl _
      have e2 : (nI (256 + (m + 1))).toNatClampNeg = 256 + (m + 1) := nI_clamp (by omega)
      refine ⟨by rw [e1]; exact vp_in_nI (by omega) (by decide), ?_⟩
      rw [e1, e2]
      by_cases c : co (256 + (m + 1)) = 0
      · simp only [la_f, if_pos c] at hp
        exact br_t c hp
      · simp only [la_f, if_neg c] at hp
        exact br_f c (nm_r (pk_m1 m) (ih (by omega) hp))
  exact ⟨i + 1, key i hi h⟩
theorem yl_sf {post : Int32 → Prop} {n i : Nat} {a : Int32} (hl : le 4 = nI n) (hn : n ≤ 64) (h0 : co 256 = 0) (hi : i < n) (h1 : wj_P co n i a → post 1) (hz : ¬ wj_P co n i a → post 0) : wpY_sameFunction post (q, wp, tn, sl, yd, nd, co, ca, cb, le, he, kl, tu, uy, tl, ul, tm, gc, ga, gp, ss, st, sf, fd, tc, tr, ow, ti, ft, fn, fh, fp, fz, fl, fv, rs, au) (nI i) a := by
  by_cases c0 : a < 0
  · refine br_t c0 (hz ?_)
    rintro ⟨x, rfl, g1, g2, g3⟩
    exact absurd c0 (nI_pos (by omega))
  · obtain ⟨x, hx, rfl⟩ := nI_of c0
    by_cases c2 : x < n
    · have e1 : 256 + nI x = nI (256 + x) := ix_a 256 rfl x
      have e2 : (nI (256 + x)).toNatClampNeg = 256 + x := nI_clamp (by omega)
      refine br_f c0 (br_f (by rw [hl]; exact nI_ge c2 (by omega)) ⟨by rw [e1]; exact vp_in_nI (by omega) (by decide), ?_⟩)
      rw [e1, e2]
      by_cases c : co (256 + x) = 0
      · refine br_t c (hz ?_)
        rintro ⟨x', ex, q1, q2, q3⟩
        rw [nI_eq (by omega) (by omega)] at ex
        subst ex
        exact q2 c
      · refine br_f c (yl_ar (by omega) h0 (yl_ar (by omega) h0 ?_))
        have lx := la_le co x
        have li := la_le co i
        by_cases ce : la_f co x = la_f co i
        · exact br_t (by rw [ce]) (h1 ⟨x, rfl, c2, c, ce⟩)
        · refine br_f (fun z => ce ((nI_eq (by omega) (by omega)).mp z)) (hz ?_)
          rintro ⟨x', ex, q1, q2, q3⟩
          rw [nI_eq (by omega) (by omega)] at ex
          subst ex
          exact ce q3
    · refine br_f c0 (br_t (by rw [hl]; exact nI_le (by omega) hx) (hz ?_))
      rintro ⟨x', ex, q1, q2, q3⟩
      rw [nI_eq (by omega) (by omega)] at ex
      omega
theorem pa_a {post : Int32 → Prop} {p : Int32} (c : p < 0) (h : post 0) : wpX_isPath post p := br_t c h
theorem pa_o {post : Int32 → Prop} {p : Int32} (c : ¬ p < 0) (d : (84 : Int32) ≤ p) (h : post 0) : wpX_isPath post p := br_f c (br_t d h)
theorem pa_c {post : Int32 → Prop} {p : Int32} (c : ¬ p < 0) (d : ¬ (84 : Int32) ≤ p) (h : post 1) : wpX_isPath post p := br_f c (br_f d h)
theorem nb_01 {r : Int32} (h : r = 0 ∨ r = 1) : narrow .boolean (.int r) = .int r := by
  rcases h with rfl | rfl <;> rfl
theorem xl_hg {post : Int32 → Prop} {n F i : Nat} (hl : pc = nI n) (hn : n ≤ 64) (h0 : co 256 = 0) (hi : i < n) (h1 : wg_P co ca n F i (co (256 + i)) (ca (256 + i)) (cb (256 + i)) → post 1) (hz : ¬ wg_P co ca n F i (co (256 + i)) (ca (256 + i)) (cb (256 + i)) → post 0) : wpX_hasGoodOperands post (q, tn, sl, pc, wp, he, co, ca, cb, fs, fc, ts, tu, ux, tl, ul, tm, gc, ga, gp, ss, st, sf, tc, tr, ow, ti, fd, ft, fk, fn, fh, fl, fv, rs, nt) (nI i) (nI (la_f co i)) (nI F) := by
  have ll := la_le co i
  have e1 : 256 + nI i = nI (256 + i) := ix_a 256 rfl i
  have e2 : (nI (256 + i)).toNatClampNeg = 256 + i := nI_clamp (by omega)
  have v1 : vp_in (256 + nI i) 320 := by rw [e1]; exact vp_in_nI (by omega) (by decide)
  have e3 : 256 + nI (la_f co i) = nI (256 + la_f co i) := ix_a 256 rfl _
  have e4 : (nI (256 + la_f co i)).toNatClampNeg = 256 + la_f co i := nI_clamp (by omega)
  have v3 : vp_in (256 + nI (la_f co i)) 320 := by rw [e3]; exact vp_in_nI (by omega) (by decide)
  refine ⟨v1, nm_r (e' := co (256 + i)) (by rw [e1, e2]) ⟨v1, nm_r (e' := ca (256 + i)) (by rw [e1, e2]) ⟨v1, nm_r (e' := cb (256 + i)) (by rw [e1, e2]) ?_⟩⟩⟩
  generalize co (256 + i) = o at h1 hz ⊢
  generalize ca (256 + i) = a at h1 hz ⊢
  generalize cb (256 + i) = b at h1 hz ⊢
  by_cases c0 : o < 0
  · refine br_t c0 (br_t c0 (hz ?_))
    rintro ⟨⟨x, x1, x2⟩, _⟩
    rw [x2] at c0
    exact absurd c0 (nI_pos (by omega))
  obtain ⟨ox, hox, rfl⟩ := nI_of c0
  by_cases c24 : ox < 24
  · have hx : ∃ x : Nat, x < 24 ∧ nI ox = nI x := ⟨ox, c24, rfl⟩
    have ho24 : ox = 0 ∨ ox = 1 ∨ ox = 2 ∨ ox = 3 ∨ ox = 4 ∨ ox = 5 ∨ ox = 6 ∨ ox = 7 ∨ ox = 8 ∨ ox = 9 ∨ ox = 10 ∨ ox = 11 ∨ ox = 12 ∨ ox = 13 ∨ ox = 14 ∨ ox = 15 ∨ ox = 16 ∨ ox = 17 ∨ ox = 18 ∨ ox = 19 ∨ ox = 20 ∨ ox = 21 ∨ ox = 22 ∨ ox = 23 := by omega
    clear hox c24
    rcases ho24 with rfl | rfl | rfl | rfl | rfl | rfl | rfl | rfl | rfl | rfl | rfl | rfl | rfl | rfl | rfl | rfl | rfl | rfl | rfl | rfl | rfl | rfl | rfl | rfl
    · refine br_f (by decide) (br_f (by decide) (br_t (by decide) (?_)))
      by_cases q1 : a < 1
      · exact br_t q1 (hz (fun z => (z.2.1 rfl).1 q1))
      · by_cases q2 : 4 < a
        · exact br_f q1 (br_t q2 (hz (fun z => (z.2.1 rfl).2 q2)))
        · exact br_f q1 (br_f q2 (h1 ⟨hx, fun _ => ⟨q1, q2⟩, (fun z => absurd z (by decide)), (fun z => absurd z (by decide)), (fun z => absurd z (by decide)), (fun z => absurd z (by decide)), (fun z => absurd z (by decide))⟩))
    · exact br_f (by decide) (br_f (by decide) (br_f (by decide) (br_t (by decide) (br_f (by decide) (br_f (by decide) (h1 ⟨hx, (fun z => absurd z (by decide)), (fun z => absurd z (by decide)), (fun z => absurd z (by decide)), (fun z => absurd z (by decide)), (fun z => absurd z (by decide)), (fun z => absurd z (by decide))⟩))))))
    · exact br_f (by decide) (br_f (by decide) (br_f (by decide) (br_f (by decide) (br_t (by decide) (br_f (by decide) (br_f (by decide) (h1 ⟨hx, (fun z => absurd z (by decide)), (fun z => absurd z (by decide)), (fun z => absurd z (by decide)), (fun z => absurd z (by decide)), (fun z => absurd z (by decide)), (fun z => absurd z (by decide))⟩)))))))
    · exact br_f (by decide) (br_f (by decide) (br_f (by decide) (br_f (by decide) (br_f (by decide) (br_t (by decide) (br_f (by decide) (br_f (by decide) (h1 ⟨hx, (fun z => absurd z (by decide)), (fun z => absurd z (by decide)), (fun z => absurd z (by decide)), (fun z => absurd z (by decide)), (fun z => absurd z (by decide)), (fun z => absurd z (by decide))⟩))))))))
    · exact br_f (by decide) (br_f (by decide) (br_f (by decide) (br_f (by decide) (br_f (by decide) (br_f (by decide) (br_t (by decide) (br_f (by decide) (br_f (by decide) (h1 ⟨hx, (fun z => absurd z (by decide)), (fun z => absurd z (by decide)), (fun z => absurd z (by decide)), (fun z => absurd z (by decide)), (fun z => absurd z (by decide)), (fun z => absurd z (by decide))⟩)))))))))
    · exact br_f (by decide) (br_f (by decide) (br_f (by decide) (br_f (by decide) (br_f (by decide) (br_f (by decide) (br_f (by decide) (br_t (by decide) (br_f (by decide) (br_f (by decide) (h1 ⟨hx, (fun z => absurd z (by decide)), (fun z => absurd z (by decide)), (fun z => absurd z (by decide)), (fun z => absurd z (by decide)), (fun z => absurd z (by decide)), (fun z => absurd z (by decide))⟩))))))))))
    · exact br_f (by decide) (br_f (by decide) (br_f (by decide) (br_f (by decide) (br_f (by decide) (br_f (by decide) (br_f (by decide) (br_f (by decide) (br_t (by decide) (br_f (by decide) (br_f (by decide) (h1 ⟨hx, (fun z => absurd z (by decide)), (fun z => absurd z (by decide)), (fun z => absurd z (by decide)), (fun z => absurd z (by decide)), (fun z => absurd z (by decide)), (fun z => absurd z (by decide))⟩)))))))))))
    · exact br_f (by decide) (br_f (by decide) (br_f (by decide) (br_f (by decide) (br_f (by decide) (br_f (by decide) (br_f (by decide) (br_f (by decide) (br_f (by decide) (br_t (by decide) (br_f (by decide) (br_f (by decide) (h1 ⟨hx, (fun z => absurd z (by decide)), (fun z => absurd z (by decide)), (fun z => absurd z (by decide)), (fun z => absurd z (by decide)), (fun z => absurd z (by decide)), (fun z => absurd z (by decide))⟩))))))))))))
    · exact br_f (by decide) (br_f (by decide) (br_f (by decide) (br_f (by decide) (br_f (by decide) (br_f (by decide) (br_f (by decide) (br_f (by decide) (br_f (by decide) (br_f (by decide) (br_t (by decide) (br_f (by decide) (br_f (by decide) (h1 ⟨hx, (fun z => absurd z (by decide)), (fun z => absurd z (by decide)), (fun z => absurd z (by decide)), (fun z => absurd z (by decide)), (fun z => absurd z (by decide)), (fun z => absurd z (by decide))⟩)))))))))))))
    · exact br_f (by decide) (br_f (by decide) (br_f (by decide) (br_f (by decide) (br_f (by decide) (br_f (by decide) (br_f (by decide) (br_f (by decide) (br_f (by decide) (br_f (by decide) (br_f (by decide) (br_t (by decide) (br_f (by decide) (br_f (by decide) (h1 ⟨hx, (fun z => absurd z (by decide)), (fun z => absurd z (by decide)), (fun z => absurd z (by decide)), (fun z => absurd z (by decide)), (fun z => absurd z (by decide)), (fun z => absurd z (by decide))⟩))))))))))))))
    · refine br_f (by decide) (br_f (by decide) (br_f (by decide) (br_f (by decide) (br_f (by decide) (br_f (by decide) (br_f (by decide) (br_f (by decide) (br_f (by decide) (br_f (by decide) (br_f (by decide) (br_f (by decide) (br_t (by decide) (?_)))))))))))))
      by_cases q1 : a < 0
      · exact br_t q1 (hz (fun z => (z.2.2.1 (by decide)).1 q1))
      · refine br_f q1 ⟨v3, ?_⟩
        rw [e3, e4]
        by_cases q2 : ca (256 + la_f co i) ≤ a
        · exact br_t q2 (hz (fun z => (z.2.2.1 (by decide)).2 q2))
        · exact br_f q2 (h1 ⟨hx, (fun z => absurd z (by decide)), fun _ => ⟨q1, q2⟩, (fun z => absurd z (by decide)), (fun z => absurd z (by decide)), (fun z => absurd z (by decide)), (fun z => absurd z (by decide))⟩)
    · refine br_f (by decide) (br_f (by decide) (br_f (by decide) (br_f (by decide) (br_f (by decide) (br_f (by decide) (br_f (by decide) (br_f (by decide) (br_f (by decide) (br_f (by decide) (br_f (by decide) (br_f (by decide) (br_f (by decide) (br_t (by decide) (?_))))))))))))))
      by_cases q1 : a < 0
      · exact br_t q1 (hz (fun z => (z.2.2.1 (by decide)).1 q1))
      · refine br_f q1 ⟨v3, ?_⟩
        rw [e3, e4]
        by_cases q2 : ca (256 + la_f co i) ≤ a
        · exact br_t q2 (hz (fun z => (z.2.2.1 (by decide)).2 q2))
        · exact br_f q2 (h1 ⟨hx, (fun z => absurd z (by decide)), fun _ => ⟨q1, q2⟩, (fun z => absurd z (by decide)), (fun z => absurd z (by decide)), (fun z => absurd z (by decide)), (fun z => absurd z (by decide))⟩)
    · refine br_f (by decide) (br_f (by decide) (br_f (by decide) (br_f (by decide) (br_f (by decide) (br_f (by decide) (br_f (by decide) (br_f (by decide) (br_f (by decide) (br_f (by decide) (br_f (by decide) (br_f (by decide) (br_f (by decide) (br_f (by decide) (br_t (by decide) (?_)))))))))))))))
      unfold wX_hasGoodOperands_172
      exact xl_ins hl hn h0 hi (fun q1 => ⟨nb_01 (Or.inr rfl), h1 ⟨hx, (fun z => absurd z (by decide)), (fun z => absurd z (by decide)), fun _ => q1, (fun z => absurd z (by decide)), (fun z => absurd z (by decide)), (fun z => absurd z (by decide))⟩⟩) (fun q1 => ⟨nb_01 (Or.inl rfl), hz (fun z => q1 (z.2.2.2.1 (by decide)))⟩)
    · refine br_f (by decide) (br_f (by decide) (br_f (by decide) (br_f (by decide) (br_f (by decide) (br_f (by decide) (br_f (by decide) (br_f (by decide) (br_f (by decide) (br_f (by decide) (br_f (by decide) (br_f (by decide) (br_f (by decide) (br_f (by decide) (br_f (by decide) (br_t (by decide) (?_))))))))))))))))
      unfold wX_hasGoodOperands_172
      exact xl_ins hl hn h0 hi (fun q1 => ⟨nb_01 (Or.inr rfl), h1 ⟨hx, (fun z => absurd z (by decide)), (fun z => absurd z (by decide)), fun _ => q1, (fun z => absurd z (by decide)), (fun z => absurd z (by decide)), (fun z => absurd z (by decide))⟩⟩) (fun q1 => ⟨nb_01 (Or.inl rfl), hz (fun z => q1 (z.2.2.2.1 (by decide)))⟩)
    · refine br_f (by decide) (br_f (by decide) (br_f (by decide) (br_f (by decide) (br_f (by decide) (br_f (by decide) (br_f (by decide) (br_f (by decide) (br_f (by decide) (br_f (by decide) (br_f (by decide) (br_f (by decide) (br_f (by decide) (br_f (by decide) (br_f (by decide) (br_f (by decide) (br_t (by decide) (?_)))))))))))))))))
      by_cases q1 : a < 0
      · exact br_t q1 (hz (fun z => (z.2.2.2.2.1 (by decide)).1 q1))
      · by_cases q2 : nI F ≤ a
        · exact br_f q1 (br_t q2 (hz (fun z => (z.2.2.2.2.1 (by decide)).2 q2)))
        · exact br_f q1 (br_f q2 (h1 ⟨hx, (fun z => absurd z (by decide)), (fun z => absurd z (by decide)), (fun z => absurd z (by decide)), fun _ => ⟨q1, q2⟩, (fun z => absurd z (by decide)), (fun z => absurd z (by decide))⟩))
    · refine br_f (by decide) (br_f (by decide) (br_f (by decide) (br_f (by decide) (br_f (by decide) (br_f (by decide) (br_f (by decide) (br_f (by decide) (br_f (by decide) (br_f (by decide) (br_f (by decide) (br_f (by decide) (br_f (by decide) (br_f (by decide) (br_f (by decide) (br_f (by decide) (br_f (by decide) (br_t (by decide) (?_))))))))))))))))))
      by_cases q1 : a < 0
      · exact br_t q1 (hz (fun z => (z.2.2.2.2.1 (by decide)).1 q1))
      · by_cases q2 : nI F ≤ a
        · exact br_f q1 (br_t q2 (hz (fun z => (z.2.2.2.2.1 (by decide)).2 q2)))
        · exact br_f q1 (br_f q2 (h1 ⟨hx, (fun z => absurd z (by decide)), (fun z => absurd z (by decide)), (fun z => absurd z (by decide)), fun _ => ⟨q1, q2⟩, (fun z => absurd z (by decide)), (fun z => absurd z (by decide))⟩))
    · refine br_f (by decide) (br_f (by decide) (br_f (by decide) (br_f (by decide) (br_f (by decide) (br_f (by decide) (br_f (by decide) (br_f (by decide) (br_f (by decide) (br_f (by decide) (br_f (by decide) (br_f (by decide) (br_f (by decide) (br_f (by decide) (br_f (by decide) (br_f (by decide) (br_f (by decide) (br_f (by decide) (br_t (by decide) (?_)))))))))))))))))))
      by_cases q1 : a < 0
      · exact sl_a q1 ⟨nb_01 (Or.inl rfl), hz (fun z => (z.2.2.2.2.2.1 (by decide)).1 q1)⟩
      · by_cases q2 : 4 ≤ a
        · exact sl_b q1 q2 ⟨nb_01 (Or.inl rfl), hz (fun z => (z.2.2.2.2.2.1 (by decide)).2 q2)⟩
        · exact sl_c q1 q2 ⟨nb_01 (Or.inr rfl), h1 ⟨hx, (fun z => absurd z (by decide)), (fun z => absurd z (by decide)), (fun z => absurd z (by decide)), (fun z => absurd z (by decide)), fun _ => ⟨q1, q2⟩, (fun z => absurd z (by decide))⟩⟩
    · refine br_f (by decide) (br_f (by decide) (br_f (by decide) (br_f (by decide) (br_f (by decide) (br_f (by decide) (br_f (by decide) (br_f (by decide) (br_f (by decide) (br_f (by decide) (br_f (by decide) (br_f (by decide) (br_f (by decide) (br_f (by decide) (br_f (by decide) (br_f (by decide) (br_f (by decide) (br_f (by decide) (br_f (by decide) (br_t (by decide) (?_))))))))))))))))))))
      by_cases q1 : a < 0
      · exact br_t q1 (hz (fun z => (z.2.2.2.2.1 (by decide)).1 q1))
      · by_cases q2 : nI F ≤ a
        · exact br_f q1 (br_t q2 (hz (fun z => (z.2.2.2.2.1 (by decide)).2 q2)))
        · exact br_f q1 (br_f q2 (h1 ⟨hx, (fun z => absurd z (by decide)), (fun z => absurd z (by decide)), (fun z => absurd z (by decide)), fun _ => ⟨q1, q2⟩, (fun z => absurd z (by decide)), (fun z => absurd z (by decide))⟩))
    · refine br_f (by decide) (br_f (by decide) (br_f (by decide) (br_f (by decide) (br_f (by decide) (br_f (by decide) (br_f (by decide) (br_f (by decide) (br_f (by decide) (br_f (by decide) (br_f (by decide) (br_f (by decide) (br_f (by decide) (br_f (by decide) (br_f (by decide) (br_f (by decide) (br_f (by decide) (br_f (by decide) (br_f (by decide) (br_f (by decide) (br_t (by decide) (?_)))))))))))))))))))))
      by_cases q1 : a < 0
      · exact br_t q1 (hz (fun z => (z.2.2.2.2.2.2 (by decide)).1.1 q1))
      · by_cases q2 : 4 ≤ a
        · exact br_f q1 (br_t q2 (hz (fun z => (z.2.2.2.2.2.2 (by decide)).1.2 q2)))
        · refine br_f q1 (br_f q2 ?_)
          by_cases q3 : b < 0
          · exact pa_a q3 (br_t rfl (hz (fun z => (z.2.2.2.2.2.2 (by decide)).2.1 q3)))
          · by_cases q4 : 84 ≤ b
            · exact pa_o q3 q4 (br_t rfl (hz (fun z => (z.2.2.2.2.2.2 (by decide)).2.2 q4)))
            · exact pa_c q3 q4 (br_f (by decide) (h1 ⟨hx, (fun z => absurd z (by decide)), (fun z => absurd z (by decide)), (fun z => absurd z (by decide)), (fun z => absurd z (by decide)), (fun z => absurd z (by decide)), fun _ => ⟨⟨q1, q2⟩, ⟨q3, q4⟩⟩⟩))
    · exact br_f (by decide) (br_t (by decide) (br_f (by decide) (br_f (by decide) (h1 ⟨hx, (fun z => absurd z (by decide)), (fun z => absurd z (by decide)), (fun z => absurd z (by decide)), (fun z => absurd z (by decide)), (fun z => absurd z (by decide)), (fun z => absurd z (by decide))⟩))))
    · exact br_f (by decide) (br_t (by decide) (br_f (by decide) (br_f (by decide) (h1 ⟨hx, (fun z => absurd z (by decide)), (fun z => absurd z (by decide)), (fun z => absurd z (by decide)), (fun z => absurd z (by decide)), (fun z => absurd z (by decide)), (fun z => absurd z (by decide))⟩))))
    · exact br_f (by decide) (br_t (by decide) (br_f (by decide) (br_f (by decide) (h1 ⟨hx, (fun z => absurd z (by decide)), (fun z => absurd z (by decide)), (fun z => absurd z (by decide)), (fun z => absurd z (by decide)), (fun z => absurd z (by decide)), (fun z => absurd z (by decide))⟩))))
    · exact br_f (by decide) (br_t (by decide) (br_f (by decide) (br_f (by decide) (h1 ⟨hx, (fun z => absurd z (by decide)), (fun z => absurd z (by decide)), (fun z => absurd z (by decide)), (fun z => absurd z (by decide)), (fun z => absurd z (by decide)), (fun z => absurd z (by decide))⟩))))
    · exact br_f (by decide) (br_t (by decide) (br_f (by decide) (br_f (by decide) (h1 ⟨hx, (fun z => absurd z (by decide)), (fun z => absurd z (by decide)), (fun z => absurd z (by decide)), (fun z => absurd z (by decide)), (fun z => absurd z (by decide)), (fun z => absurd z (by decide))⟩))))
  · have q1 : ¬ nI ox < 0 := c0
    have q2 : (18 : Int32) < nI ox := nI_lt (a := 18) (by omega) hox
    have q3 : (23 : Int32) < nI ox := nI_lt (a := 23) (by omega) hox
    refine br_f q1 (br_t q2 (br_f q1 (br_t q3 (hz ?_))))
    rintro ⟨⟨x, x1, x2⟩, _⟩
    rw [nI_eq hox (by omega)] at x2
    omega
theorem yl_42 {post : Int32 → Prop} {i : Nat} {a : Int32} (hi : i < 64) (h1 : ¬ a < 1 → ¬ 4 < a → cf_n co 256 i < 4 → post 1) (hz : (a < 1 ∨ 4 < a ∨ ¬ cf_n co 256 i < 4) → post 0) : ∃ n : Nat, wY_wellFormed_42 post (nI i) a q wp tn sl yd nd co ca cb le he kl tu uy tl ul tm gc ga gp ss st sf fd tc tr ow ti ft fn fh fp fz fl fv rs au n 0 0 := by
  have key : ∀ m j : Nat, j + m = i → wY_wellFormed_42 post (nI i) a q wp tn sl yd nd co ca cb le he kl tu uy tl ul tm gc ga gp ss st sf fd tc tr ow ti ft fn fh fp fz fl fv rs au (m + 1) (nI (cf_n co 256 j)) (nI j) := by
    intro m
    induction m with
    | zero =>
      intro j hj
      have : j = i := by omega
      subst this
      have cl := cf_le co 256 j
      refine br_t (nI_le (Nat.le_refl _) (by omega)) ?_
      by_cases q1 : a < 1
      · exact br_t ((ix_l1 a).mpr q1) (hz (Or.inl q1))
      · refine br_f (fun z => q1 ((ix_l1 a).mp z)) ?_
        by_cases q2 : 4 < a
        · exact br_t ((ix_l5 a).mpr q2) (hz (Or.inr (Or.inl q2)))
        · refine br_f (fun z => q2 ((ix_l5 a).mp z)) ?_
          by_cases q3 : cf_n co 256 j < 4
          · exact br_f (ix_ge 4 rfl q3 (by decide)) (h1 q1 q2 q3)
          · exact br_t (ix_le 4 rfl (by omega) (by omega)) (hz (Or.inr (Or.inr q3)))
    | succ m ih =>
      intro j hj
      have z := ih (j + 1) (by omega)
      have e1 : 256 + nI j = nI (256 + j) := ix_a 256 rfl j
      have e2 : (nI (256 + j)).toNatClampNeg = 256 + j := nI_clamp (by omega)
      refine br_f (nI_ge (by omega) (by omega)) ⟨by rw [e1]; exact vp_in_nI (by omega) (by decide), ?_⟩
      rw [e1, e2]
      by_cases c : co (256 + j) = 0
      · rw [cf_t c] at z
        exact br_t c (nm_r (nI_1 _) (nm_r (nI_1 _) z))
      · rw [cf_f c] at z
        exact br_f c (nm_r (nI_1 _) z)
  exact ⟨i + 1, key i 0 (by omega)⟩
theorem yl_wf {post : Int32 → Prop} {n i : Nat} (hl : le 4 = nI n) (hn : n ≤ 64) (h0 : co 256 = 0) (hi : i < n) (h1 : wf_P co ca cb n i → post 1) (hz : ¬ wf_P co ca cb n i → post 0) : wpY_wellFormed post (q, wp, tn, sl, yd, nd, co, ca, cb, le, he, kl, tu, uy, tl, ul, tm, gc, ga, gp, ss, st, sf, fd, tc, tr, ow, ti, ft, fn, fh, fp, fz, fl, fv, rs, au) (nI i) := by
  have ll := la_le co i
  have e1 : 256 + nI i = nI (256 + i) := ix_a 256 rfl i
  have e2 : (nI (256 + i)).toNatClampNeg = 256 + i := nI_clamp (by omega)
  have v1 : vp_in (256 + nI i) 320 := by rw [e1]; exact vp_in_nI (by omega) (by decide)
  have e3 : 256 + nI (la_f co i) = nI (256 + la_f co i) := ix_a 256 rfl _
  have e4 : (nI (256 + la_f co i)).toNatClampNeg = 256 + la_f co i := nI_clamp (by omega)
  have v3 : vp_in (256 + nI (la_f co i)) 320 := by rw [e3]; exact vp_in_nI (by omega) (by decide)
  have i0 : i = 0 → co (256 + i) = 0 := fun z => by rw [z]; exact h0
  unfold wf_P at h1 hz
  have key : wY_wellFormed_32 post (nI i) (co (256 + i)) (ca (256 + i)) q wp tn sl yd nd co ca cb le he kl tu uy tl ul tm gc ga gp ss st sf fd tc tr ow ti ft fn fh fp fz fl fv rs au := by
    unfold wY_wellFormed_32
    rw [e1, e2]
    generalize co (256 + i) = o at h1 hz ⊢
    generalize ca (256 + i) = a at h1 hz ⊢
    generalize cb (256 + i) = b at h1 hz ⊢
    by_cases c0 : o < 0
    · have nz : ∀ x : Nat, x < 2 ^ 31 → ¬ o = nI x := fun x hx z => by rw [z] at c0; exact absurd c0 (nI_pos hx)
      refine br_f (nz 0 (by decide)) (br_f (nz 10 (by decide)) (br_f (nz 11 (by decide)) (br_f (nz 12 (by decide)) (br_f (nz 13 (by decide)) (br_f (nz 14 (by decide)) (br_f (nz 15 (by decide)) (br_f (nz 17 (by decide)) (br_f (nz 16 (by decide)) (br_f (nz 18 (by decide)) (?_))))))))))
      refine br_t (Int32.le_of_lt c0) (hz ?_)
      rintro ⟨⟨⟨x, x1, x2⟩, _⟩, _⟩
      exact nz x (by omega) x2
    obtain ⟨ox, hox, rfl⟩ := nI_of c0
    by_cases c24 : ox < 24
    · have hx : ∃ x : Nat, x < 24 ∧ nI ox = nI x := ⟨ox, c24, rfl⟩
      have ho24 : ox = 0 ∨ ox = 1 ∨ ox = 2 ∨ ox = 3 ∨ ox = 4 ∨ ox = 5 ∨ ox = 6 ∨ ox = 7 ∨ ox = 8 ∨ ox = 9 ∨ ox = 10 ∨ ox = 11 ∨ ox = 12 ∨ ox = 13 ∨ ox = 14 ∨ ox = 15 ∨ ox = 16 ∨ ox = 17 ∨ ox = 18 ∨ ox = 19 ∨ ox = 20 ∨ ox = 21 ∨ ox = 22 ∨ ox = 23 := by omega
      clear hox c24
      rcases ho24 with rfl | rfl | rfl | rfl | rfl | rfl | rfl | rfl | rfl | rfl | rfl | rfl | rfl | rfl | rfl | rfl | rfl | rfl | rfl | rfl | rfl | rfl | rfl | rfl
      · refine br_t (by decide) (?_)
        exact yl_42 (by omega) (fun q1 q2 q3 => h1 ⟨⟨hx, fun _ => ⟨q1, q2⟩, (fun z => absurd z (by decide)), (fun z => absurd z (by decide)), (fun z => absurd z (by decide)), (fun z => absurd z (by decide)), (fun z => absurd z (by decide))⟩, fun _ => q3⟩) (fun z => hz (fun y => z.elim (y.1.2.1 rfl).1 (fun z2 => z2.elim (y.1.2.1 rfl).2 (fun z3 => z3 (y.2 rfl)))))
      · exact br_f (by decide) (br_f (by decide) (br_f (by decide) (br_f (by decide) (br_f (by decide) (br_f (by decide) (br_f (by decide) (br_f (by decide) (br_f (by decide) (br_f (by decide) (br_f (by decide) (br_f (by decide) (h1 ⟨⟨hx, (fun z => absurd z (by decide)), (fun z => absurd z (by decide)), (fun z => absurd z (by decide)), (fun z => absurd z (by decide)), (fun z => absurd z (by decide)), (fun z => absurd z (by decide))⟩, (fun z => absurd z (by decide))⟩))))))))))))
      · exact br_f (by decide) (br_f (by decide) (br_f (by decide) (br_f (by decide) (br_f (by decide) (br_f (by decide) (br_f (by decide) (br_f (by decide) (br_f (by decide) (br_f (by decide) (br_f (by decide) (br_f (by decide) (h1 ⟨⟨hx, (fun z => absurd z (by decide)), (fun z => absurd z (by decide)), (fun z => absurd z (by decide)), (fun z => absurd z (by decide)), (fun z => absurd z (by decide)), (fun z => absurd z (by decide))⟩, (fun z => absurd z (by decide))⟩))))))))))))
      · exact br_f (by decide) (br_f (by decide) (br_f (by decide) (br_f (by decide) (br_f (by decide) (br_f (by decide) (br_f (by decide) (br_f (by decide) (br_f (by decide) (br_f (by decide) (br_f (by decide) (br_f (by decide) (h1 ⟨⟨hx, (fun z => absurd z (by decide)), (fun z => absurd z (by decide)), (fun z => absurd z (by decide)), (fun z => absurd z (by decide)), (fun z => absurd z (by decide)), (fun z => absurd z (by decide))⟩, (fun z => absurd z (by decide))⟩))))))))))))
      · exact br_f (by decide) (br_f (by decide) (br_f (by decide) (br_f (by decide) (br_f (by decide) (br_f (by decide) (br_f (by decide) (br_f (by decide) (br_f (by decide) (br_f (by decide) (br_f (by decide) (br_f (by decide) (h1 ⟨⟨hx, (fun z => absurd z (by decide)), (fun z => absurd z (by decide)), (fun z => absurd z (by decide)), (fun z => absurd z (by decide)), (fun z => absurd z (by decide)), (fun z => absurd z (by decide))⟩, (fun z => absurd z (by decide))⟩))))))))))))
      · exact br_f (by decide) (br_f (by decide) (br_f (by decide) (br_f (by decide) (br_f (by decide) (br_f (by decide) (br_f (by decide) (br_f (by decide) (br_f (by decide) (br_f (by decide) (br_f (by decide) (br_f (by decide) (h1 ⟨⟨hx, (fun z => absurd z (by decide)), (fun z => absurd z (by decide)), (fun z => absurd z (by decide)), (fun z => absurd z (by decide)), (fun z => absurd z (by decide)), (fun z => absurd z (by decide))⟩, (fun z => absurd z (by decide))⟩))))))))))))
      · exact br_f (by decide) (br_f (by decide) (br_f (by decide) (br_f (by decide) (br_f (by decide) (br_f (by decide) (br_f (by decide) (br_f (by decide) (br_f (by decide) (br_f (by decide) (br_f (by decide) (br_f (by decide) (h1 ⟨⟨hx, (fun z => absurd z (by decide)), (fun z => absurd z (by decide)), (fun z => absurd z (by decide)), (fun z => absurd z (by decide)), (fun z => absurd z (by decide)), (fun z => absurd z (by decide))⟩, (fun z => absurd z (by decide))⟩))))))))))))
      · exact br_f (by decide) (br_f (by decide) (br_f (by decide) (br_f (by decide) (br_f (by decide) (br_f (by decide) (br_f (by decide) (br_f (by decide) (br_f (by decide) (br_f (by decide) (br_f (by decide) (br_f (by decide) (h1 ⟨⟨hx, (fun z => absurd z (by decide)), (fun z => absurd z (by decide)), (fun z => absurd z (by decide)), (fun z => absurd z (by decide)), (fun z => absurd z (by decide)), (fun z => absurd z (by decide))⟩, (fun z => absurd z (by decide))⟩))))))))))))
      · exact br_f (by decide) (br_f (by decide) (br_f (by decide) (br_f (by decide) (br_f (by decide) (br_f (by decide) (br_f (by decide) (br_f (by decide) (br_f (by decide) (br_f (by decide) (br_f (by decide) (br_f (by decide) (h1 ⟨⟨hx, (fun z => absurd z (by decide)), (fun z => absurd z (by decide)), (fun z => absurd z (by decide)), (fun z => absurd z (by decide)), (fun z => absurd z (by decide)), (fun z => absurd z (by decide))⟩, (fun z => absurd z (by decide))⟩))))))))))))
      · exact br_f (by decide) (br_f (by decide) (br_f (by decide) (br_f (by decide) (br_f (by decide) (br_f (by decide) (br_f (by decide) (br_f (by decide) (br_f (by decide) (br_f (by decide) (br_f (by decide) (br_f (by decide) (h1 ⟨⟨hx, (fun z => absurd z (by decide)), (fun z => absurd z (by decide)), (fun z => absurd z (by decide)), (fun z => absurd z (by decide)), (fun z => absurd z (by decide)), (fun z => absurd z (by decide))⟩, (fun z => absurd z (by decide))⟩))))))))))))
      · refine br_f (by decide) (br_t (by decide) (?_))
        unfold wY_wellFormed_104
        refine yl_ar (by omega) h0 ?_
        by_cases q1 : a < 0
        · exact br_t q1 (hz (fun z => (z.1.2.2.1 (by decide)).1 q1))
        · refine br_f q1 ⟨v3, ?_⟩
          rw [e3, e4]
          by_cases q2 : ca (256 + la_f co i) ≤ a
          · exact br_t q2 (hz (fun z => (z.1.2.2.1 (by decide)).2 q2))
          · exact br_f q2 (h1 ⟨⟨hx, (fun z => absurd z (by decide)), fun _ => ⟨q1, q2⟩, (fun z => absurd z (by decide)), (fun z => absurd z (by decide)), (fun z => absurd z (by decide)), (fun z => absurd z (by decide))⟩, (fun z => absurd z (by decide))⟩)
      · refine br_f (by decide) (br_f (by decide) (br_t (by decide) (?_)))
        unfold wY_wellFormed_104
        refine yl_ar (by omega) h0 ?_
        by_cases q1 : a < 0
        · exact br_t q1 (hz (fun z => (z.1.2.2.1 (by decide)).1 q1))
        · refine br_f q1 ⟨v3, ?_⟩
          rw [e3, e4]
          by_cases q2 : ca (256 + la_f co i) ≤ a
          · exact br_t q2 (hz (fun z => (z.1.2.2.1 (by decide)).2 q2))
          · exact br_f q2 (h1 ⟨⟨hx, (fun z => absurd z (by decide)), fun _ => ⟨q1, q2⟩, (fun z => absurd z (by decide)), (fun z => absurd z (by decide)), (fun z => absurd z (by decide)), (fun z => absurd z (by decide))⟩, (fun z => absurd z (by decide))⟩)
      · refine br_f (by decide) (br_f (by decide) (br_f (by decide) (br_t (by decide) (?_))))
        unfold wY_wellFormed_148
        exact yl_sf hl hn h0 hi (fun q1 => ⟨nb_01 (Or.inr rfl), h1 ⟨⟨hx, (fun z => absurd z (by decide)), (fun z => absurd z (by decide)), fun _ => q1, (fun z => absurd z (by decide)), (fun z => absurd z (by decide)), (fun z => absurd z (by decide))⟩, (fun z => absurd z (by decide))⟩⟩) (fun q1 => ⟨nb_01 (Or.inl rfl), hz (fun z => q1 (z.1.2.2.2.1 (by decide)))⟩)
      · refine br_f (by decide) (br_f (by decide) (br_f (by decide) (br_f (by decide) (br_t (by decide) (?_)))))
        unfold wY_wellFormed_148
        exact yl_sf hl hn h0 hi (fun q1 => ⟨nb_01 (Or.inr rfl), h1 ⟨⟨hx, (fun z => absurd z (by decide)), (fun z => absurd z (by decide)), fun _ => q1, (fun z => absurd z (by decide)), (fun z => absurd z (by decide)), (fun z => absurd z (by decide))⟩, (fun z => absurd z (by decide))⟩⟩) (fun q1 => ⟨nb_01 (Or.inl rfl), hz (fun z => q1 (z.1.2.2.2.1 (by decide)))⟩)
      · refine br_f (by decide) (br_f (by decide) (br_f (by decide) (br_f (by decide) (br_f (by decide) (br_t (by decide) (?_))))))
        by_cases q1 : a < 0
        · exact br_t q1 (hz (fun z => (z.1.2.2.2.2.1 (by decide)).1 q1))
        · refine br_f q1 (yl_fns (t := 4) (by decide) hl hn ?_)
          by_cases q2 : nI (cf_n co 256 n) ≤ a
          · exact br_t q2 (hz (fun z => (z.1.2.2.2.2.1 (by decide)).2 q2))
          · exact br_f q2 (h1 ⟨⟨hx, (fun z => absurd z (by decide)), (fun z => absurd z (by decide)), (fun z => absurd z (by decide)), fun _ => ⟨q1, q2⟩, (fun z => absurd z (by decide)), (fun z => absurd z (by decide))⟩, (fun z => absurd z (by decide))⟩)
      · refine br_f (by decide) (br_f (by decide) (br_f (by decide) (br_f (by decide) (br_f (by decide) (br_f (by decide) (br_t (by decide) (?_)))))))
        by_cases q1 : a < 0
        · exact br_t q1 (hz (fun z => (z.1.2.2.2.2.1 (by decide)).1 q1))
        · refine br_f q1 (yl_fns (t := 4) (by decide) hl hn ?_)
          by_cases q2 : nI (cf_n co 256 n) ≤ a
          · exact br_t q2 (hz (fun z => (z.1.2.2.2.2.1 (by decide)).2 q2))
          · exact br_f q2 (h1 ⟨⟨hx, (fun z => absurd z (by decide)), (fun z => absurd z (by decide)), (fun z => absurd z (by decide)), fun _ => ⟨q1, q2⟩, (fun z => absurd z (by decide)), (fun z => absurd z (by decide))⟩, (fun z => absurd z (by decide))⟩)
      · refine br_f (by decide) (br_f (by decide) (br_f (by decide) (br_f (by decide) (br_f (by decide) (br_f (by decide) (br_f (by decide) (br_f (by decide) (br_t (by decide) (?_)))))))))
        by_cases q1 : a < 0
        · exact br_t q1 (hz (fun z => (z.1.2.2.2.2.2.1 (by decide)).1 q1))
        · by_cases q2 : 4 ≤ a
          · exact br_f q1 (br_t q2 (hz (fun z => (z.1.2.2.2.2.2.1 (by decide)).2 q2)))
          · exact br_f q1 (br_f q2 (h1 ⟨⟨hx, (fun z => absurd z (by decide)), (fun z => absurd z (by decide)), (fun z => absurd z (by decide)), (fun z => absurd z (by decide)), fun _ => ⟨q1, q2⟩, (fun z => absurd z (by decide))⟩, (fun z => absurd z (by decide))⟩))
      · refine br_f (by decide) (br_f (by decide) (br_f (by decide) (br_f (by decide) (br_f (by decide) (br_f (by decide) (br_f (by decide) (br_t (by decide) (?_))))))))
        by_cases q1 : a < 0
        · exact br_t q1 (hz (fun z => (z.1.2.2.2.2.1 (by decide)).1 q1))
        · refine br_f q1 (yl_fns (t := 4) (by decide) hl hn ?_)
          by_cases q2 : nI (cf_n co 256 n) ≤ a
          · exact br_t q2 (hz (fun z => (z.1.2.2.2.2.1 (by decide)).2 q2))
          · exact br_f q2 (h1 ⟨⟨hx, (fun z => absurd z (by decide)), (fun z => absurd z (by decide)), (fun z => absurd z (by decide)), fun _ => ⟨q1, q2⟩, (fun z => absurd z (by decide)), (fun z => absurd z (by decide))⟩, (fun z => absurd z (by decide))⟩)
      · refine br_f (by decide) (br_f (by decide) (br_f (by decide) (br_f (by decide) (br_f (by decide) (br_f (by decide) (br_f (by decide) (br_f (by decide) (br_f (by decide) (br_t (by decide) (?_))))))))))
        by_cases q1 : a < 0
        · exact br_t q1 (hz (fun z => (z.1.2.2.2.2.2.2 (by decide)).1.1 q1))
        · by_cases q2 : 4 ≤ a
          · exact br_f q1 (br_t q2 (hz (fun z => (z.1.2.2.2.2.2.2 (by decide)).1.2 q2)))
          · refine br_f q1 (br_f q2 ⟨by rw [← e1]; exact v1, ?_⟩)
            by_cases q3 : b < 0
            · exact br_t q3 (hz (fun z => (z.1.2.2.2.2.2.2 (by decide)).2.1 q3))
            · refine br_f q3 ⟨by rw [← e1]; exact v1, ?_⟩
              by_cases q4 : 84 ≤ b
              · exact br_t q4 (hz (fun z => (z.1.2.2.2.2.2.2 (by decide)).2.2 q4))
              · exact br_f q4 (h1 ⟨⟨hx, (fun z => absurd z (by decide)), (fun z => absurd z (by decide)), (fun z => absurd z (by decide)), (fun z => absurd z (by decide)), (fun z => absurd z (by decide)), fun _ => ⟨⟨q1, q2⟩, ⟨q3, q4⟩⟩⟩, (fun z => absurd z (by decide))⟩)
      · exact br_f (by decide) (br_f (by decide) (br_f (by decide) (br_f (by decide) (br_f (by decide) (br_f (by decide) (br_f (by decide) (br_f (by decide) (br_f (by decide) (br_f (by decide) (br_f (by decide) (br_f (by decide) (h1 ⟨⟨hx, (fun z => absurd z (by decide)), (fun z => absurd z (by decide)), (fun z => absurd z (by decide)), (fun z => absurd z (by decide)), (fun z => absurd z (by decide)), (fun z => absurd z (by decide))⟩, (fun z => absurd z (by decide))⟩))))))))))))
      · exact br_f (by decide) (br_f (by decide) (br_f (by decide) (br_f (by decide) (br_f (by decide) (br_f (by decide) (br_f (by decide) (br_f (by decide) (br_f (by decide) (br_f (by decide) (br_f (by decide) (br_f (by decide) (h1 ⟨⟨hx, (fun z => absurd z (by decide)), (fun z => absurd z (by decide)), (fun z => absurd z (by decide)), (fun z => absurd z (by decide)), (fun z => absurd z (by decide)), (fun z => absurd z (by decide))⟩, (fun z => absurd z (by decide))⟩))))))))))))
      · exact br_f (by decide) (br_f (by decide) (br_f (by decide) (br_f (by decide) (br_f (by decide) (br_f (by decide) (br_f (by decide) (br_f (by decide) (br_f (by decide) (br_f (by decide) (br_f (by decide) (br_f (by decide) (h1 ⟨⟨hx, (fun z => absurd z (by decide)), (fun z => absurd z (by decide)), (fun z => absurd z (by decide)), (fun z => absurd z (by decide)), (fun z => absurd z (by decide)), (fun z => absurd z (by decide))⟩, (fun z => absurd z (by decide))⟩))))))))))))
      · exact br_f (by decide) (br_f (by decide) (br_f (by decide) (br_f (by decide) (br_f (by decide) (br_f (by decide) (br_f (by decide) (br_f (by decide) (br_f (by decide) (br_f (by decide) (br_f (by decide) (br_f (by decide) (h1 ⟨⟨hx, (fun z => absurd z (by decide)), (fun z => absurd z (by decide)), (fun z => absurd z (by decide)), (fun z => absurd z (by decide)), (fun z => absurd z (by decide)), (fun z => absurd z (by decide))⟩, (fun z => absurd z (by decide))⟩))))))))))))
      · exact br_f (by decide) (br_f (by decide) (br_f (by decide) (br_f (by decide) (br_f (by decide) (br_f (by decide) (br_f (by decide) (br_f (by decide) (br_f (by decide) (br_f (by decide) (br_f (by decide) (br_f (by decide) (h1 ⟨⟨hx, (fun z => absurd z (by decide)), (fun z => absurd z (by decide)), (fun z => absurd z (by decide)), (fun z => absurd z (by decide)), (fun z => absurd z (by decide)), (fun z => absurd z (by decide))⟩, (fun z => absurd z (by decide))⟩))))))))))))
    · have nz : ∀ x : Nat, x < 24 → ¬ nI ox = nI x := fun x hx z => by
        rw [nI_eq hox (by omega)] at z
        omega
      refine br_f (nz 0 (by decide)) (br_f (nz 10 (by decide)) (br_f (nz 11 (by decide)) (br_f (nz 12 (by decide)) (br_f (nz 13 (by decide)) (br_f (nz 14 (by decide)) (br_f (nz 15 (by decide)) (br_f (nz 17 (by decide)) (br_f (nz 16 (by decide)) (br_f (nz 18 (by decide)) (?_))))))))))
      refine br_f (nI_nle (by omega) hox) (br_t (ix_le 24 rfl (by omega) hox) (hz ?_))
      rintro ⟨⟨⟨x, x1, x2⟩, _⟩, _⟩
      exact nz x x1 x2
  refine ⟨v1, nm_r (e' := co (256 + i)) (by rw [e1, e2]) ⟨v1, nm_r (e' := ca (256 + i)) (by rw [e1, e2]) ?_⟩⟩
  by_cases c : nI i = 0
  · have ci : i = 0 := (nI_eq (by omega) (by decide)).mp c
    exact br_t c (br_t (i0 ci) key)
  · exact br_f c key
end
end
section
theorem po_le (o : Nat) (a : Int32) : st_po o a ≤ 2 := by
  unfold st_po
  split
  · split <;> omega
  · split
    · omega
    · split <;> omega
theorem pu_le (o : Nat) (a : Int32) : st_pu o a ≤ 2 := by
  unfold st_pu
  split
  · split <;> omega
  · split
    · omega
    · split <;> omega
def ad_w (h : Nat → Int32) (y : Nat) (w : Int32) : Nat → Int32 := upd h y (h y ||| w)
def go_1 (h : Nat → Int32) (G : Bool) (y : Nat) (w : Int32) : Nat → Int32 := if G = true then ad_w h y w else h
def fo_2 (h : Nat → Int32) (G J : Bool) (y z : Nat) (w : Int32) : Nat → Int32 := go_1 (go_1 h G y w) J z w
theorem go_b (h : Nat → Int32) (G : Bool) (y x : Nat) (w : Int32) (i : Nat) : bt (go_1 h G y w x) i = (bt (h x) i || (G && (decide (x = y) && bt w i))) := by
  unfold go_1
  cases G with
  | false => simp
  | true =>
    unfold ad_w
    by_cases c : x = y
    · subst c; simp [pk_us, b_or]
    · simp [pk_un c, c]
theorem fo_b (h : Nat → Int32) (G J : Bool) (y z x : Nat) (w : Int32) (i : Nat) : bt (fo_2 h G J y z w x) i = (bt (h x) i || (((G && decide (x = y)) || (J && decide (x = z))) && bt w i)) := by
  unfold fo_2
  rw [go_b, go_b]
  cases G <;> cases J <;> cases decide (x = y) <;> cases decide (x = z) <;> cases bt (h x) i <;> cases bt w i <;> rfl
theorem fo_s (h : Nat → Int32) (G J : Bool) (y z : Nat) (w b : Int32) : fo_2 (fo_2 h G J y z w) G J y z b = fo_2 h G J y z (w ||| b) := by
  funext x
  apply b_ext
  intro i hi
  rw [fo_b, fo_b, fo_b, b_or]
  cases G <;> cases J <;> cases decide (x = y) <;> cases decide (x = z) <;> cases bt (h x) i <;> cases bt w i <;> cases bt b i <;> rfl
theorem fo_0 (h : Nat → Int32) (G J : Bool) (y z : Nat) : fo_2 h G J y z 0 = h := by
  funext x
  apply b_ext
  intro i hi
  rw [fo_b, b_0, Bool.and_false, Bool.or_false]
/-- whether anything is new: f against the heights at first and now -/
def nw_P (n : Nat) (base cur : Nat → Int32) (f : Int32) : Prop := (f = 0 ∧ cur = base) ∨ (f = 1 ∧ mu_h base n < mu_h cur n)
theorem nw_01 {n : Nat} {base cur : Nat → Int32} {f : Int32} (h : nw_P n base cur f) : f = 0 ∨ f = 1 := h.elim (fun z => Or.inl z.1) (fun z => Or.inr z.1)
theorem nw_u {n : Nat} {base cur : Nat → Int32} {f g : Int32} (h1 : nw_P n base cur f) (h2 : nw_P n base cur g) : f = g := by
  rcases h1 with ⟨a, b⟩ | ⟨a, b⟩ <;> rcases h2 with ⟨c, d⟩ | ⟨c, d⟩
  · rw [a, c]
  · rw [b] at d; exact absurd d (Nat.lt_irrefl _)
  · rw [d] at b; exact absurd b (Nat.lt_irrefl _)
  · rw [a, c]
theorem nw_tr {n : Nat} {a b c : Nat → Int32} {f g : Int32} (h1 : nw_P n a b f) (h2 : nw_P n b c g) : nw_P n a c (f ||| g) := by
  rcases h1 with ⟨rfl, rfl⟩ | ⟨rfl, x⟩ <;> rcases h2 with ⟨rfl, rfl⟩ | ⟨rfl, y⟩
  · exact Or.inl ⟨rfl, rfl⟩
  · exact Or.inr ⟨rfl, y⟩
  · exact Or.inr ⟨rfl, x⟩
  · exact Or.inr ⟨rfl, Nat.lt_trans x y⟩
def h9_P (n : Nat) (h : Nat → Int32) : Prop := ∀ y, y < n → n9_P (h y)
theorem h9_ad {n y : Nat} {h : Nat → Int32} {w : Int32} (h9 : h9_P n h) (hw : n9_P w) : h9_P n (ad_w h y w) := by
  intro x hx
  unfold ad_w
  by_cases c : x = y
  · subst c; rw [pk_us]; exact n9_or (h9 x hx) hw
  · rw [pk_un c]; exact h9 x hx
theorem h9_go {n y : Nat} {h : Nat → Int32} {w : Int32} {G : Bool} (h9 : h9_P n h) (hw : n9_P w) : h9_P n (go_1 h G y w) := by
  unfold go_1
  cases G with
  | false => rw [if_neg (by decide)]; exact h9
  | true => rw [if_pos rfl]; exact h9_ad h9 hw
theorem mo_fo {h : Nat → Int32} {G J : Bool} {y z n : Nat} {w : Int32} : mo_P h (fo_2 h G J y z w) n := by
  intro x hx b e
  rw [fo_b, e, Bool.true_or]
/-- what the flow of row i (code o, operand a, target t) makes of the heights -/
def gs_B (o n i : Nat) : Bool := decide (o ≠ 12 ∧ o ≠ 21 ∧ o ≠ 22) && decide (i + 1 < n)
def js_B (o : Nat) : Bool := decide (o = 12 ∨ o = 13)
def fo_h (h : Nat → Int32) (n i o t : Nat) (a : Int32) : Nat → Int32 := fo_2 h (gs_B o n i) (js_B o) (i + 1) t (af_w (h i) (st_po o a) (st_pu o a))
section
variable {q tn sl pc wp yd nd : Int32} {he co ca cb fs fc ts tu ux tl ul tm gc ga gp ss st sf tc tr ow ti fd ft fk fn fh fl fv rs nt le kl uy fp fz au : Nat → Int32}
theorem xl_ha {post : Int32 → Prop} {i o : Nat} (hi : i < 64) (ho : o < 24) (eo : co (256 + i) = nI o) (h : post (af_w (he i) (st_po o (ca (256 + i))) (st_pu o (ca (256 + i))))) : wpX_heightsAfter post (q, tn, sl, pc, wp, he, co, ca, cb, fs, fc, ts, tu, ux, tl, ul, tm, gc, ga, gp, ss, st, sf, tc, tr, ow, ti, fd, ft, fk, fn, fh, fl, fv, rs, nt) (nI i) := by
  have e1 : 256 + nI i = nI (256 + i) := ix_a 256 rfl i
  have e2 : (nI (256 + i)).toNatClampNeg = 256 + i := nI_clamp (by omega)
  have v1 : vp_in (256 + nI i) 320 := by rw [e1]; exact vp_in_nI (by omega) (by decide)
  have e3 : (nI i).toNatClampNeg = i := nI_clamp (by omega)
  refine ⟨v1, nm_r (e' := nI o) (by rw [e1, e2, eo]) ⟨v1, nm_r (e' := ca (256 + i)) (by rw [e1, e2]) ⟨vp_in_nI hi (by decide), xl_popped ho (xl_pushed ho ?_)⟩⟩⟩
  rw [e3]
  exact h
theorem xl_gon {post : Int32 → Prop} {o : Nat} (ho : o < 24) (h1 : (o ≠ 12 ∧ o ≠ 21 ∧ o ≠ 22) → post 1) (h0 : ¬ (o ≠ 12 ∧ o ≠ 21 ∧ o ≠ 22) → post 0) : wpX_goesOn post (nI o) := by
  by_cases c1 : o = 12
  · subst c1; exact br_t rfl (h0 (by omega))
  by_cases c2 : o = 21
  · subst c2; exact br_f (by decide) (br_t rfl (h0 (by omega)))
  by_cases c3 : o = 22
  · subst c3; exact br_f (by decide) (br_f (by decide) (br_t rfl (h0 (by omega))))
  exact br_f (ix_ne 12 rfl c1 (by omega) (by decide)) (br_f (ix_ne 21 rfl c2 (by omega) (by decide)) (br_f (ix_ne 22 rfl c3 (by omega) (by decide)) (h1 ⟨c1, c2, c3⟩)))
theorem yl_end2 {post : Int32 → Prop} {o : Nat} (ho : o < 24) (h1 : (o ≠ 12 ∧ o ≠ 21 ∧ o ≠ 22) → post 0) (h0 : ¬ (o ≠ 12 ∧ o ≠ 21 ∧ o ≠ 22) → post 1) : wpY_ends post (q, wp, tn, sl, yd, nd, co, ca, cb, le, he, kl, tu, uy, tl, ul, tm, gc, ga, gp, ss, st, sf, fd, tc, tr, ow, ti, ft, fn, fh, fp, fz, fl, fv, rs, au) (nI o) := by
  by_cases c1 : o = 12
  · subst c1; exact br_t rfl (h0 (by omega))
  by_cases c2 : o = 21
  · subst c2; exact br_f (by decide) (br_t rfl (h0 (by omega)))
  by_cases c3 : o = 22
  · subst c3; exact br_f (by decide) (br_f (by decide) (br_t rfl (h0 (by omega))))
  exact br_f (ix_ne 12 rfl c1 (by omega) (by decide)) (br_f (ix_ne 21 rfl c2 (by omega) (by decide)) (br_f (ix_ne 22 rfl c3 (by omega) (by decide)) (h1 ⟨c1, c2, c3⟩)))
/-- X's second half of a flow -/
theorem xl_85 {post : Int32 → SX → Prop} {n o t : Nat} {w f a : Int32} {base : Nat → Int32} (hn : n ≤ 64) (ho : o < 24) (ht : js_B o = true → a = nI t ∧ t < n) (hw : n9_P w) (hN : nw_P n base he f) (hp : ∀ g : Int32, nw_P n base (go_1 he (js_B o) t w) g → post g (q, tn, sl, pc, wp, go_1 he (js_B o) t w, co, ca, cb, fs, fc, ts, tu, ux, tl, ul, tm, gc, ga, gp, ss, st, sf, tc, tr, ow, ti, fd, ft, fk, fn, fh, fl, fv, rs, nt)) : wX_spreadFrom_85 post (nI o) a w f q tn sl pc wp he co ca cb fs fc ts tu ux tl ul tm gc ga gp ss st sf tc tr ow ti fd ft fk fn fh fl fv rs nt := by
  cases hJ : js_B o with
  | false =>
    have hno : ¬ (o = 12 ∨ o = 13) := by simpa [js_B] using hJ
    have e : go_1 he (js_B o) t w = he := by unfold go_1; rw [hJ, if_neg (by decide)]
    rw [e] at hp
    exact br_f (ix_ne 12 rfl (by omega) (by omega) (by decide)) (br_f (ix_ne 13 rfl (by omega) (by omega) (by decide)) ⟨nb_01 (nw_01 hN), hp f hN⟩)
  | true =>
    have hyes : o = 12 ∨ o = 13 := by simpa [js_B] using hJ
    obtain ⟨ea, htn⟩ := ht hJ
    have e : go_1 he (js_B o) t w = ad_w he t w := by unfold go_1; rw [hJ, if_pos rfl]
    rw [e] at hp
    have et : (nI t).toNatClampNeg = t := nI_clamp (by omega)
    have vt : vp_in (nI t) 64 := vp_in_nI (by omega) (by decide)
    have key : wX_spreadFrom_97 post a w f q tn sl pc wp he co ca cb fs fc ts tu ux tl ul tm gc ga gp ss st sf tc tr ow ti fd ft fk fn fh fl fv rs nt := by
      rw [ea]
      have k121 : ∀ g : Int32, nw_P n base (ad_w he t w) g → wX_spreadFrom_121 post (nI t) w g q tn sl pc wp he co ca cb fs fc ts tu ux tl ul tm gc ga gp ss st sf tc tr ow ti fd ft fk fn fh fl fv rs nt := fun g hg => ⟨vt, vt, nm_r (e' := ad_w he t w) (by rw [et]; rfl) ⟨nb_01 (nw_01 hg), hp g hg⟩⟩
      rcases hN with ⟨rfl, rfl⟩ | ⟨rfl, hlt⟩
      · refine br_t rfl ⟨vt, ?_⟩
        rw [et]
        rcases ad_c (he := he) (n := n) htn hw with ⟨z1, z2⟩ | ⟨z1, z2⟩
        · exact br_t ((bi_sub w (he t)).mpr z1) (k121 0 (Or.inl ⟨rfl, z2⟩))
        · refine br_f (fun z => z1 ((bi_sub w (he t)).mp z)) ?_
          unfold wX_spreadFrom_116
          exact k121 1 (Or.inr ⟨rfl, z2⟩)
      · refine br_f (by decide) ?_
        unfold wX_spreadFrom_116
        exact k121 1 (Or.inr ⟨rfl, Nat.lt_of_lt_of_le hlt (mu_mono (mo_ad he n t w))⟩)
    rcases hyes with rfl | rfl
    · exact br_t rfl key
    · exact br_f (by decide) (br_t rfl key)
theorem xl_sp {post : Int32 → SX → Prop} {n i o t : Nat} (hl : pc = nI n) (hn : n ≤ 64) (hi : i < n) (ho : o < 24) (eo : co (256 + i) = nI o) (ht : js_B o = true → ca (256 + i) = nI t ∧ t < n) (h9 : h9_P n he)
    (hp : ∀ g : Int32, nw_P n he (fo_h he n i o t (ca (256 + i))) g → post g (q, tn, sl, pc, wp, fo_h he n i o t (ca (256 + i)), co, ca, cb, fs, fc, ts, tu, ux, tl, ul, tm, gc, ga, gp, ss, st, sf, tc, tr, ow, ti, fd, ft, fk, fn, fh, fl, fv, rs, nt)) : wpX_spreadFrom post (q, tn, sl, pc, wp, he, co, ca, cb, fs, fc, ts, tu, ux, tl, ul, tm, gc, ga, gp, ss, st, sf, tc, tr, ow, ti, fd, ft, fk, fn, fh, fl, fv, rs, nt) (nI i) := by
  have e1 : 256 + nI i = nI (256 + i) := ix_a 256 rfl i
  have e2 : (nI (256 + i)).toNatClampNeg = 256 + i := nI_clamp (by omega)
  have v1 : vp_in (256 + nI i) 320 := by rw [e1]; exact vp_in_nI (by omega) (by decide)
  have hw : n9_P (af_w (he i) (st_po o (ca (256 + i))) (st_pu o (ca (256 + i)))) := af_9 _ (po_le _ _) (pu_le _ _)
  unfold fo_h fo_2 at hp
  refine ⟨v1, nm_r (e' := nI o) (by rw [e1, e2, eo]) ⟨v1, nm_r (e' := ca (256 + i)) (by rw [e1, e2]) (xl_ha (by omega) ho eo ?_)⟩⟩
  generalize af_w (he i) (st_po o (ca (256 + i))) (st_pu o (ca (256 + i))) = w at hp hw ⊢
  have stay : gs_B o n i = false → wX_spreadFrom_85 post (nI o) (ca (256 + i)) w 0 q tn sl pc wp he co ca cb fs fc ts tu ux tl ul tm gc ga gp ss st sf tc tr ow ti fd ft fk fn fh fl fv rs nt := by
    intro hG
    have e : go_1 he (gs_B o n i) (i + 1) w = he := by unfold go_1; rw [hG, if_neg (by decide)]
    rw [e] at hp
    exact xl_85 (t := t) hn ho ht hw (Or.inl ⟨rfl, rfl⟩) hp
  refine xl_gon ho (fun hg => br_f (by decide) ?_) (fun hg => br_t rfl (stay ?_))
  · by_cases c : i + 1 < n
    · have hG : gs_B o n i = true := by unfold gs_B; rw [decide_eq_true hg, decide_eq_true c]; rfl
      have e : go_1 he (gs_B o n i) (i + 1) w = ad_w he (i + 1) w := by unfold go_1; rw [hG, if_pos rfl]
      rw [e] at hp
      have ei : nI i + 1 = nI (i + 1) := nI_1 i
      have ec : (nI (i + 1)).toNatClampNeg = i + 1 := nI_clamp (by omega)
      have vi : vp_in (nI i + 1) 64 := by rw [ei]; exact vp_in_nI (by omega) (by decide)
      have k70 : ∀ g : Int32, nw_P n he (ad_w he (i + 1) w) g → wX_spreadFrom_70 post (nI i) (nI o) (ca (256 + i)) w g q tn sl pc wp he co ca cb fs fc ts tu ux tl ul tm gc ga gp ss st sf tc tr ow ti fd ft fk fn fh fl fv rs nt := fun g hg' =>
        ⟨vi, vi, nm_r (e' := ad_w he (i + 1) w) (by rw [ei, ec]; rfl) (xl_85 (t := t) hn ho ht hw hg' hp)⟩
      refine br_f (by rw [hl, ei]; exact nI_ge c (by omega)) ⟨vi, ?_⟩
      rw [ei, ec]
      rcases ad_c (he := he) (n := n) c hw with ⟨z1, z2⟩ | ⟨z1, z2⟩
      · exact br_t ((bi_sub w _).mpr z1) (k70 0 (Or.inl ⟨rfl, z2⟩))
      · exact br_f (fun z => z1 ((bi_sub w _).mp z)) (k70 1 (Or.inr ⟨rfl, z2⟩))
    · refine br_t (by rw [hl, nI_1]; exact nI_le (by omega) (by omega)) (stay ?_)
      unfold gs_B
      rw [decide_eq_false c, Bool.and_false]
  · unfold gs_B
    rw [decide_eq_false hg, Bool.false_and]
theorem yl_rc {post : Int32 → SY → Prop} {n y b : Nat} {f : Int32} {base : Nat → Int32} (hy : y < n) (hn : n ≤ 64) (hb : b < 9) (hN : nw_P n base he f)
    (hp : ∀ r : Int32, nw_P n base (ad_w he y ((1 : Int32) <<< (nI b &&& 31))) (f ||| r) → post r (q, wp, tn, sl, yd, nd, co, ca, cb, le, ad_w he y ((1 : Int32) <<< (nI b &&& 31)), kl, tu, uy, tl, ul, tm, gc, ga, gp, ss, st, sf, fd, tc, tr, ow, ti, ft, fn, fh, fp, fz, fl, fv, rs, au)) : wpY_reach post (q, wp, tn, sl, yd, nd, co, ca, cb, le, he, kl, tu, uy, tl, ul, tm, gc, ga, gp, ss, st, sf, fd, tc, tr, ow, ti, ft, fn, fh, fp, fz, fl, fv, rs, au) (nI y) (nI b) := by
  have ey : (nI y).toNatClampNeg = y := nI_clamp (by omega)
  have vy : vp_in (nI y) 64 := vp_in_nI (by omega) (by decide)
  have hw : n9_P ((1 : Int32) <<< (nI b &&& 31)) := fun j h1 h2 => by rw [b_one b (by omega) j h2, decide_eq_false (by omega)]
  have k18 : ∀ r : Int32, nw_P n he (ad_w he y ((1 : Int32) <<< (nI b &&& 31))) r → wY_reach_18 post (nI y) (nI b) r q wp tn sl yd nd co ca cb le he kl tu uy tl ul tm gc ga gp ss st sf fd tc tr ow ti ft fn fh fp fz fl fv rs au := fun r hr =>
    ⟨vy, vy, nm_r (e' := ad_w he y ((1 : Int32) <<< (nI b &&& 31))) (by rw [ey]; rfl) ⟨nb_01 (nw_01 hr), hp r (nw_tr hN hr)⟩⟩
  refine ⟨vy, ?_⟩
  rw [ey]
  have eq : he y ||| ((1 : Int32) <<< (nI b &&& 31)) = he y ↔ bt (he y) b = true := by
    constructor
    · intro h
      have e := congrArg (fun z => bt z b) h
      simp only [b_or, b_one b (by omega) b (by omega), decide_true, Bool.or_true] at e
      exact e.symm
    · intro h
      apply b_ext
      intro j hj
      rw [b_or, b_one b (by omega) j hj]
      by_cases c : j = b
      · subst c; rw [h]; rfl
      · rw [decide_eq_false c, Bool.or_false]
  rcases ad_c (he := he) (n := n) hy hw with ⟨z1, z2⟩ | ⟨z1, z2⟩
  · refine br_f (fun z => ?_) (k18 0 (Or.inl ⟨rfl, z2⟩))
    rw [bi_0 _ (by omega), eq.mp z1] at z
    exact absurd z (by decide)
  · refine br_t ((bi_0 _ (by omega)).mpr ?_) (k18 1 (Or.inr ⟨rfl, z2⟩))
    cases h : bt (he y) b with
    | false => rfl
    | true => exact absurd (eq.mpr h) z1
theorem yl_fit {post : Int32 → Prop} {i o h : Nat} (hi : i < 64) (hh : h < 9) (ho : o < 24) (eo : co (256 + i) = nI o) (h1 : (st_po o (ca (256 + i)) ≤ h ∧ h - st_po o (ca (256 + i)) + st_pu o (ca (256 + i)) ≤ 8) → post 1) (h0 : ¬ (st_po o (ca (256 + i)) ≤ h ∧ h - st_po o (ca (256 + i)) + st_pu o (ca (256 + i)) ≤ 8) → post 0) : wpY_fits post (q, wp, tn, sl, yd, nd, co, ca, cb, le, he, kl, tu, uy, tl, ul, tm, gc, ga, gp, ss, st, sf, fd, tc, tr, ow, ti, ft, fn, fh, fp, fz, fl, fv, rs, au) (nI i) (nI h) := by
  have e1 : 256 + nI i = nI (256 + i) := ix_a 256 rfl i
  have e2 : (nI (256 + i)).toNatClampNeg = 256 + i := nI_clamp (by omega)
  have v1 : vp_in (256 + nI i) 320 := by rw [e1]; exact vp_in_nI (by omega) (by decide)
  have pl := po_le o (ca (256 + i))
  have ql := pu_le o (ca (256 + i))
  refine ⟨v1, v1, ?_⟩
  rw [e1, e2, eo]
  refine yl_pops ho ⟨by rw [← e1]; exact v1, by rw [← e1]; exact v1, yl_pushes ho ?_⟩
  generalize st_po o (ca (256 + i)) = p at h1 h0 pl ⊢
  generalize st_pu o (ca (256 + i)) = r at h1 h0 ql ⊢
  by_cases c1 : h < p
  · exact br_t (nI_lt c1 (by omega)) (h0 (by omega))
  · have e3 : nI h - nI p + nI r = nI (h - p + r) := by rw [pk_sub (by omega), nI_add]
    refine br_f (nI_nlt (by omega) (by omega)) ?_
    rw [e3]
    by_cases c2 : 8 < h - p + r
    · exact br_t (nI_lt (a := 8) c2 (by omega)) (h0 (by omega))
    · exact br_f (nI_nlt (a := 8) (by omega) (by decide)) (h1 (by omega))
theorem ix_by {h p r : Nat} (hp : p ≤ h) : nI h + (nI r - nI p) = nI (h - p + r) := by
  obtain ⟨c, rfl⟩ : ∃ c, h = c + p := ⟨h - p, by omega⟩
  rw [show c + p - p + r = c + r by omega, ← nI_add, ← nI_add]
  grind
theorem yl_118 {post : Int32 → SY → Prop} {J : Int32 → Int32 → Int32 → Int32 → Int32 → Int32 → Int32 → Int32 → (Nat → Int32) → (Nat → Int32) → (Nat → Int32) → (Nat → Int32) → (Nat → Int32) → (Nat → Int32) → (Nat → Int32) → (Nat → Int32) → (Nat → Int32) → (Nat → Int32) → (Nat → Int32) → (Nat → Int32) → (Nat → Int32) → (Nat → Int32) → (Nat → Int32) → (Nat → Int32) → (Nat → Int32) → (Nat → Int32) → (Nat → Int32) → (Nat → Int32) → (Nat → Int32) → (Nat → Int32) → (Nat → Int32) → (Nat → Int32) → (Nat → Int32) → (Nat → Int32) → (Nat → Int32) → (Nat → Int32) → (Nat → Int32) → (Nat → Int32) → (Nat → Int32) → Prop} {n i o t h b : Nat} {f y : Int32} {base : Nat → Int32} (hn : n ≤ 64) (hi : i < n) (ho : o < 24) (ht : js_B o = true → ca (256 + i) = nI t ∧ t < n) (hb : b < 9) (hby : nI h + y = nI b) (hN : nw_P n base he f)
    (hp : ∀ g : Int32, nw_P n base (go_1 he (js_B o) t ((1 : Int32) <<< (nI b &&& 31))) g → J g (nI (h + 1)) q wp tn sl yd nd co ca cb le (go_1 he (js_B o) t ((1 : Int32) <<< (nI b &&& 31))) kl tu uy tl ul tm gc ga gp ss st sf fd tc tr ow ti ft fn fh fp fz fl fv rs au) : wY_flow_118 post J (nI i) f (nI o) y (nI h) q wp tn sl yd nd co ca cb le he kl tu uy tl ul tm gc ga gp ss st sf fd tc tr ow ti ft fn fh fp fz fl fv rs au := by
  cases hJ : js_B o with
  | false =>
    have hno : ¬ (o = 12 ∨ o = 13) := by simpa [js_B] using hJ
    have e : go_1 he (js_B o) t ((1 : Int32) <<< (nI b &&& 31)) = he := by unfold go_1; rw [hJ, if_neg (by decide)]
    rw [e] at hp
    exact br_f (ix_ne 12 rfl (by omega) (by omega) (by decide)) (br_f (ix_ne 13 rfl (by omega) (by omega) (by decide)) (nm_r (nI_1 h) (hp f hN)))
  | true =>
    have hyes : o = 12 ∨ o = 13 := by simpa [js_B] using hJ
    obtain ⟨ea, htn⟩ := ht hJ
    have e : go_1 he (js_B o) t ((1 : Int32) <<< (nI b &&& 31)) = ad_w he t ((1 : Int32) <<< (nI b &&& 31)) := by unfold go_1; rw [hJ, if_pos rfl]
    rw [e] at hp
    have e1 : 256 + nI i = nI (256 + i) := ix_a 256 rfl i
    have e2 : (nI (256 + i)).toNatClampNeg = 256 + i := nI_clamp (by omega)
    have v1 : vp_in (256 + nI i) 320 := by rw [e1]; exact vp_in_nI (by omega) (by decide)
    have key : wY_flow_130 post J (nI i) f (nI o) y (nI h) q wp tn sl yd nd co ca cb le he kl tu uy tl ul tm gc ga gp ss st sf fd tc tr ow ti ft fn fh fp fz fl fv rs au := by
      refine ⟨v1, ?_⟩
      rw [e1, e2, ea, hby]
      exact yl_rc htn hn hb hN (fun r hr => nm_e (nm_r (nI_1 h) (hp _ hr)))
    rcases hyes with rfl | rfl
    · exact br_t rfl key
    · exact br_f (by decide) (br_t rfl key)
theorem yl_fl {n i o t : Nat} (hl : le 4 = nI n) (hn : n ≤ 64) (hi : i < n) (ho : o < 24) (eo : co (256 + i) = nI o) (ht : js_B o = true → ca (256 + i) = nI t ∧ t < n) (h9 : h9_P n he) {post : Int32 → SY → Prop}
    (hp : ∀ g : Int32, nw_P n he (fo_h he n i o t (ca (256 + i))) g → post g (q, wp, tn, sl, yd, nd, co, ca, cb, le, fo_h he n i o t (ca (256 + i)), kl, tu, uy, tl, ul, tm, gc, ga, gp, ss, st, sf, fd, tc, tr, ow, ti, ft, fn, fh, fp, fz, fl, fv, rs, au)) : wpY_flow post (q, wp, tn, sl, yd, nd, co, ca, cb, le, he, kl, tu, uy, tl, ul, tm, gc, ga, gp, ss, st, sf, fd, tc, tr, ow, ti, ft, fn, fh, fp, fz, fl, fv, rs, au) (nI i) := by
  have e1 : 256 + nI i = nI (256 + i) := ix_a 256 rfl i
  have e2 : (nI (256 + i)).toNatClampNeg = 256 + i := nI_clamp (by omega)
  have v1 : vp_in (256 + nI i) 320 := by rw [e1]; exact vp_in_nI (by omega) (by decide)
  have e3 : (nI i).toNatClampNeg = i := nI_clamp (by omega)
  have vi : vp_in (nI i) 64 := vp_in_nI (by omega) (by decide)
  have pl := po_le o (ca (256 + i))
  have ql := pu_le o (ca (256 + i))
  have hx9 := h9 i hi
  unfold fo_h at hp
  rw [← fw_9 hx9 pl ql] at hp
  have key : ∀ m h : Nat, h + m = 9 → ∀ f : Int32, nw_P n he (fo_2 he (gs_B o n i) (js_B o) (i + 1) t (fw_w (he i) (st_po o (ca (256 + i))) (st_pu o (ca (256 + i))) h)) f →
      wY_flow_49 post (nI i) (nI o) (nI (st_pu o (ca (256 + i))) - nI (st_po o (ca (256 + i)))) (m + 1) f (nI h) q wp tn sl yd nd co ca cb le (fo_2 he (gs_B o n i) (js_B o) (i + 1) t (fw_w (he i) (st_po o (ca (256 + i))) (st_pu o (ca (256 + i))) h)) kl tu uy tl ul tm gc ga gp ss st sf fd tc tr ow ti ft fn fh fp fz fl fv rs au := by
    intro m
    induction m with
    | zero =>
      intro h hh f hN
      have : h = 9 := by omega
      subst this
      exact br_t (by decide) ⟨nb_01 (nw_01 hN), hp f hN⟩
    | succ m ih =>
      intro h hh f hN
      have ih' := ih (h + 1) (by omega)
      have self : bt (fo_2 he (gs_B o n i) (js_B o) (i + 1) t (fw_w (he i) (st_po o (ca (256 + i))) (st_pu o (ca (256 + i))) h) i) h = bt (he i) h := by
        rw [fo_b, decide_eq_false (show ¬ i = i + 1 by omega), Bool.and_false, Bool.false_or]
        cases hJ : js_B o with
        | false => rw [Bool.false_and, Bool.false_and, Bool.or_false]
        | true =>
          have hyes : o = 12 ∨ o = 13 := by simpa [js_B] using hJ
          have q0 : st_pu o (ca (256 + i)) = 0 := by
            rcases hyes with rfl | rfl
            · exact pu_12 _
            · exact pu_13 _
          rw [fw_b _ pl ql h (by omega) h (by omega), q0, decide_eq_false (show ¬ (0 ≤ h ∧ h < 9 ∧ st_po o (ca (256 + i)) + (h - 0) < h) by omega), Bool.false_and, Bool.and_false, Bool.or_false]
      refine br_f (ix_ge 9 rfl (by omega) (by decide)) ⟨vi, ?_⟩
      rw [e3]
      cases hb : bt (he i) h with
      | false =>
        refine br_t ((bi_0 _ (by omega)).mpr (by rw [self]; exact hb)) (nm_r (nI_1 h) ?_)
        rw [fw_w, if_neg (by rw [hb]; exact fun z => absurd z.1 (by decide))] at ih'
        exact ih' f hN
      | true =>
        refine br_f (fun z => ?_) ?_
        · rw [bi_0 _ (by omega), self, hb] at z
          exact absurd z (by decide)
        refine yl_fit (by omega) (by omega) ho eo (fun c => br_f (by decide) ?_) (fun c => br_t rfl (nm_r (nI_1 h) ?_))
        · rw [fw_w, if_pos ⟨hb, c⟩, ← fo_s] at ih'
          have hby := ix_by (r := st_pu o (ca (256 + i))) c.1
          generalize fo_2 he (gs_B o n i) (js_B o) (i + 1) t (fw_w (he i) (st_po o (ca (256 + i))) (st_pu o (ca (256 + i))) h) = cur at ih' hN ⊢
          generalize nI (st_pu o (ca (256 + i))) - nI (st_po o (ca (256 + i))) = yy at ih' hby ⊢
          have hb9 : h - st_po o (ca (256 + i)) + st_pu o (ca (256 + i)) < 9 := by omega
          generalize h - st_po o (ca (256 + i)) + st_pu o (ca (256 + i)) = b at ih' hby hb9 ⊢
          unfold fo_2 at ih'
          have stay : gs_B o n i = false → wY_flow_118 post (wY_flow_49 post (nI i) (nI o) yy (m + 1)) (nI i) f (nI o) yy (nI h) q wp tn sl yd nd co ca cb le cur kl tu uy tl ul tm gc ga gp ss st sf fd tc tr ow ti ft fn fh fp fz fl fv rs au := by
            intro hG
            have e : go_1 cur (gs_B o n i) (i + 1) ((1 : Int32) <<< (nI b &&& 31)) = cur := by unfold go_1; rw [hG, if_neg (by decide)]
            rw [e] at ih'
            exact yl_118 (he := cur) (t := t) hn hi ho ht hb9 hby hN ih'
          refine yl_end2 ho (fun hg => br_t rfl ?_) (fun hg => br_f (by decide) (stay ?_))
          · by_cases c' : i + 1 < n
            · have hG : gs_B o n i = true := by unfold gs_B; rw [decide_eq_true hg, decide_eq_true c']; rfl
              have e : go_1 cur (gs_B o n i) (i + 1) ((1 : Int32) <<< (nI b &&& 31)) = ad_w cur (i + 1) ((1 : Int32) <<< (nI b &&& 31)) := by unfold go_1; rw [hG, if_pos rfl]
              rw [e] at ih'
              refine br_f (by rw [hl, nI_1]; exact nI_ge c' (by omega)) ?_
              rw [nI_1, hby]
              exact yl_rc (he := cur) c' hn hb9 hN (fun r hr => nm_e (yl_118 (he := ad_w cur (i + 1) ((1 : Int32) <<< (nI b &&& 31))) (t := t) hn hi ho ht hb9 hby hr ih'))
            · refine br_t (by rw [hl, nI_1]; exact nI_le (by omega) (by omega)) (stay ?_)
              unfold gs_B
              rw [decide_eq_false c', Bool.and_false]
          · unfold gs_B
            rw [decide_eq_false hg, Bool.false_and]
        · rw [fw_w, if_neg (fun z => c z.2)] at ih'
          exact ih' f hN
  have k0 := key 9 0 rfl 0
  rw [fw_w, fo_0] at k0
  refine ⟨v1, nm_r (e' := nI o) (by rw [e1, e2, eo]) ⟨v1, ?_⟩⟩
  rw [e1, e2]
  exact yl_pushes ho ⟨by rw [← e1]; exact v1, yl_pops ho (nm_e ⟨10, k0 (Or.inl ⟨rfl, rfl⟩)⟩)⟩
end
end
section
theorem cf_4 {co ca cb : Nat → Int32} {n : Nat} : ∀ i, (∀ j, j < i → wf_P co ca cb n j) → cf_n co 256 i ≤ 4
  | 0, _ => Nat.zero_le 4
  | i + 1, h => by
    have := cf_4 i (fun j hj => h j (by omega))
    by_cases c : co (256 + i) = 0
    · rw [cf_t c]
      have := (h i (by omega)).2 c
      omega
    · rw [cf_f c]; exact this
def hi_f (co h : Nat → Int32) (n : Nat) : Nat → Int32 := fun y => if y < n then (if co (256 + y) = 0 then 1 else 0) else h y
theorem hi_s (co h : Nat → Int32) (i : Nat) (v : Int32) (hv : v = if co (256 + i) = 0 then 1 else 0) : upd (hi_f co h i) i v = hi_f co h (i + 1) := by
  funext y
  unfold hi_f
  by_cases c : y = i
  · subst c
    rw [pk_us, if_pos (by omega), hv]
  · rw [pk_un c]
    by_cases c2 : y < i
    · have a : y < i + 1 := by omega
      simp only [if_pos c2, if_pos a]
    · have a : ¬ y < i + 1 := by omega
      simp only [if_neg c2, if_neg a]
theorem hi_0 (co h : Nat → Int32) : hi_f co h 0 = h := by
  funext y
  unfold hi_f
  rw [if_neg (Nat.not_lt_zero y)]
def op_n (co : Nat → Int32) (i : Nat) : Nat := (co (256 + i)).toNatClampNeg
def tg_n (ca : Nat → Int32) (i : Nat) : Nat := (ca (256 + i)).toNatClampNeg
theorem op_e {co ca cb : Nat → Int32} {n i : Nat} (h : wf_P co ca cb n i) : op_n co i < 24 ∧ co (256 + i) = nI (op_n co i) := by
  obtain ⟨⟨x, x1, x2⟩, _⟩ := h.1
  have e : op_n co i = x := by unfold op_n; rw [x2]; exact nI_clamp (by omega)
  rw [e]
  exact ⟨x1, x2⟩
theorem tg_e {co ca cb : Nat → Int32} {n i : Nat} (hn : n ≤ 64) (h : wf_P co ca cb n i) : js_B (op_n co i) = true → ca (256 + i) = nI (tg_n ca i) ∧ tg_n ca i < n := by
  intro hJ
  have hyes : op_n co i = 12 ∨ op_n co i = 13 := by simpa [js_B] using hJ
  have e := (op_e h).2
  have hj : wj_P co n i (ca (256 + i)) := h.1.2.2.2.1 (by
    rcases hyes with z | z
    · rw [e, z]; exact Or.inl rfl
    · rw [e, z]; exact Or.inr rfl)
  obtain ⟨x, x1, x2, x3, x4⟩ := hj
  have et : tg_n ca i = x := by unfold tg_n; rw [x1]; exact nI_clamp (by omega)
  rw [et]
  exact ⟨x1, x2⟩
theorem nw_go {n y : Nat} {h : Nat → Int32} {w : Int32} {G : Bool} (hG : G = true → y < n) (hw : n9_P w) : ∃ g : Int32, nw_P n h (go_1 h G y w) g := by
  unfold go_1
  cases G with
  | false => rw [if_neg (by decide)]; exact ⟨0, Or.inl ⟨rfl, rfl⟩⟩
  | true =>
    rw [if_pos rfl]
    rcases ad_c (he := h) (n := n) (hG rfl) hw with ⟨_, z⟩ | ⟨_, z⟩
    · exact ⟨0, Or.inl ⟨rfl, z⟩⟩
    · exact ⟨1, Or.inr ⟨rfl, z⟩⟩
theorem nw_fo {n i o t : Nat} {h : Nat → Int32} {a : Int32} (ht : js_B o = true → t < n) : ∃ g : Int32, nw_P n h (fo_h h n i o t a) g := by
  have hw : n9_P (af_w (h i) (st_po o a) (st_pu o a)) := af_9 _ (po_le _ _) (pu_le _ _)
  unfold fo_h fo_2
  obtain ⟨g1, z1⟩ := nw_go (n := n) (y := i + 1) (h := h) (G := gs_B o n i) (fun z => by
    unfold gs_B at z
    simp only [Bool.and_eq_true, decide_eq_true_eq] at z
    exact z.2) hw
  obtain ⟨g2, z2⟩ := nw_go (n := n) (y := t) (h := go_1 h (gs_B o n i) (i + 1) (af_w (h i) (st_po o a) (st_pu o a))) (G := js_B o) ht hw
  exact ⟨g1 ||| g2, nw_tr z1 z2⟩
theorem h9_fo {n i o t : Nat} {h : Nat → Int32} {a : Int32} (h9 : h9_P n h) : h9_P n (fo_h h n i o t a) := by
  have hw : n9_P (af_w (h i) (st_po o a) (st_pu o a)) := af_9 _ (po_le _ _) (pu_le _ _)
  exact h9_go (h9_go h9 hw) hw
def fi_h (co ca h : Nat → Int32) (n j : Nat) : Nat → Int32 := fo_h h n j (op_n co j) (tg_n ca j) (ca (256 + j))
section
variable {q tn sl pc wp yd nd : Int32} {he co ca cb fs fc ts tu ux tl ul tm gc ga gp ss st sf tc tr ow ti fd ft fk fn fh fl fv rs nt le kl uy fp fz au : Nat → Int32}
theorem fx_loop {n : Nat} (hl : pc = nI n) (hn : n ≤ 64) (h0 : co 256 = 0) {post : Int32 → Prop} (hb : ∀ b, b < n → ¬ wf_P co ca cb n b → (∀ j, j < b → wf_P co ca cb n j) → post (nI b)) (hg : (∀ j, j < n → wf_P co ca cb n j) → post (-1)) :
    ∀ d i s : Nat, i + d = n → (∀ j, j < i → wf_P co ca cb n j) → (i ≠ 0 → s = la_f co (i - 1)) → wX_firstMalformed_32 post (nI (cf_n co 256 n)) q tn sl pc wp he co ca cb fs fc ts tu ux tl ul tm gc ga gp ss st sf tc tr ow ti fd ft fk fn fh fl fv rs nt (d + 1) (nI (cf_n co 256 i)) (nI s) (nI i) := by
  intro d
  induction d with
  | zero =>
    intro i s hi hw _
    have : i = n := by omega
    subst this
    exact br_t (by rw [hl]; exact nI_le (Nat.le_refl _) (by omega)) (hg hw)
  | succ d ih =>
    intro i s hi hw hs
    have c4 := cf_4 i hw
    have e1 : 256 + nI i = nI (256 + i) := ix_a 256 rfl i
    have e2 : (nI (256 + i)).toNatClampNeg = 256 + i := nI_clamp (by omega)
    refine br_f (by rw [hl]; exact nI_ge (by omega) (by omega)) ⟨by rw [e1]; exact vp_in_nI (by omega) (by decide), ?_⟩
    rw [e1, e2]
    have key : ∀ c' : Nat, (co (256 + i) = 0 → cf_n co 256 i < 4) → c' = cf_n co 256 (i + 1) → wX_firstMalformed_61 post (wX_firstMalformed_32 post (nI (cf_n co 256 n)) q tn sl pc wp he co ca cb fs fc ts tu ux tl ul tm gc ga gp ss st sf tc tr ow ti fd ft fk fn fh fl fv rs nt (d + 1)) (nI (cf_n co 256 n)) (nI c') (nI (la_f co i)) (nI i) q tn sl pc wp he co ca cb fs fc ts tu ux tl ul tm gc ga gp ss st sf tc tr ow ti fd ft fk fn fh fl fv rs nt := by
      intro c' h4 ec
      have c5 : c' ≤ 4 := by
        rw [ec]
        by_cases c : co (256 + i) = 0
        · rw [cf_t c]; have := h4 c; omega
        · rw [cf_f c]; exact c4
      refine br_f (nI_nlt (a := 4) (by omega) (by decide)) (xl_hg hl hn h0 (by omega) (fun z => br_f (by decide) (nm_r (nI_1 i) ?_)) (fun z => br_t rfl (hb i (by omega) (fun y => z y.1) hw)))
      rw [ec]
      refine ih (i + 1) (la_f co i) (by omega) (fun j hj => ?_) (fun _ => by rw [Nat.add_sub_cancel])
      by_cases cj : j = i
      · subst cj; exact ⟨z, h4⟩
      · exact hw j (by omega)
    by_cases c : co (256 + i) = 0
    · have el : la_f co i = i := by
        cases i with
        | zero => rfl
        | succ i => simp only [la_f, if_pos c]
      rw [el] at key
      refine br_t c (nm_r (nI_1 _) ?_)
      by_cases q4 : cf_n co 256 i < 4
      · exact key _ (fun _ => q4) (cf_t c).symm
      · refine br_t (nI_lt (a := 4) (by omega) (by omega)) (hb i (by omega) (fun y => q4 (y.2 c)) hw)
    · have hi0 : i ≠ 0 := fun z => c (by rw [z]; exact h0)
      have el : la_f co i = s := by
        rw [hs hi0]
        obtain ⟨j, rfl⟩ : ∃ j, i = j + 1 := ⟨i - 1, by omega⟩
        rw [Nat.add_sub_cancel]
        simp only [la_f, if_neg c]
      rw [el] at key
      exact br_f c (key _ (fun z => absurd z c) (cf_f c).symm)
theorem fy_loop {n : Nat} (hl : le 4 = nI n) (hn : n ≤ 64) (h0 : co 256 = 0) {post : Int32 → SY → Prop} (hb : ∀ b, b < n → ¬ wf_P co ca cb n b → (∀ j, j < b → wf_P co ca cb n j) → post 1 (q, nI b, tn, sl, yd, nd, co, ca, cb, le, he, kl, tu, uy, tl, ul, tm, gc, ga, gp, ss, st, sf, fd, tc, tr, ow, ti, ft, fn, fh, fp, fz, fl, fv, rs, au)) (hg : (∀ j, j < n → wf_P co ca cb n j) → ∃ m : Nat, wY_check_57 post q (nI n) tn sl yd nd m 0 co ca cb le he kl tu uy tl ul tm gc ga gp ss st sf fd tc tr ow ti ft fn fh fp fz fl fv rs au) :
    ∀ d i : Nat, i + d = n → (∀ j, j < i → wf_P co ca cb n j) → wY_check_16 post q tn sl yd nd co ca cb le he kl tu uy tl ul tm gc ga gp ss st sf fd tc tr ow ti ft fn fh fp fz fl fv rs au (d + 1) (nI i) := by
  intro d
  induction d with
  | zero =>
    intro i hi hw
    have : i = n := by omega
    subst this
    exact br_t (by rw [hl]; exact nI_le (Nat.le_refl _) (by omega)) (hg hw)
  | succ d ih =>
    intro i hi hw
    refine br_f (by rw [hl]; exact nI_ge (by omega) (by omega)) ?_
    refine yl_wf hl hn h0 (by omega) (fun z => br_f (by decide) (nm_r (nI_1 i) (ih (i + 1) (by omega) (fun j hj => ?_)))) (fun z => br_t rfl (hb i (by omega) z hw))
    by_cases cj : j = i
    · subst cj; exact z
    · exact hw j (by omega)
theorem xh_loop {n : Nat} (hl : pc = nI n) (hn : n ≤ 64) {post : SX → Prop} (hg : ∃ m : Nat, wX_spreadHeights_44 post m 1 0 q tn sl pc wp (hi_f co he n) co ca cb fs fc ts tu ux tl ul tm gc ga gp ss st sf tc tr ow ti fd ft fk fn fh fl fv rs nt) : ∀ d i : Nat, i + d = n → wX_spreadHeights_2 post q tn sl pc wp (d + 1) (nI i) (hi_f co he i) co ca cb fs fc ts tu ux tl ul tm gc ga gp ss st sf tc tr ow ti fd ft fk fn fh fl fv rs nt := by
  intro d
  induction d with
  | zero =>
    intro i hi
    have : i = n := by omega
    subst this
    exact br_t (by rw [hl]; exact nI_le (Nat.le_refl _) (by omega)) hg
  | succ d ih =>
    intro i hi
    have z := ih (i + 1) (by omega)
    have e1 : 256 + nI i = nI (256 + i) := ix_a 256 rfl i
    have e2 : (nI (256 + i)).toNatClampNeg = 256 + i := nI_clamp (by omega)
    have e3 : (nI i).toNatClampNeg = i := nI_clamp (by omega)
    have vi : vp_in (nI i) 64 := vp_in_nI (by omega) (by decide)
    refine br_f (by rw [hl]; exact nI_ge (by omega) (by omega)) ⟨by rw [e1]; exact vp_in_nI (by omega) (by decide), ?_⟩
    rw [e1, e2]
    by_cases c : co (256 + i) = 0
    · exact br_t c ⟨vi, nm_r (e' := hi_f co he (i + 1)) (by rw [e3]; exact hi_s co he i 1 (by rw [if_pos c])) (nm_r (nI_1 i) z)⟩
    · exact br_f c ⟨vi, nm_r (e' := hi_f co he (i + 1)) (by rw [e3]; exact hi_s co he i 0 (by rw [if_neg c])) (nm_r (nI_1 i) z)⟩
theorem yh_loop {n : Nat} (hl : le 4 = nI n) (hn : n ≤ 64) {post : Int32 → SY → Prop} (hg : ∃ m : Nat, wY_check_99 post m 1 q wp tn sl yd nd co ca cb le (hi_f co he n) kl tu uy tl ul tm gc ga gp ss st sf fd tc tr ow ti ft fn fh fp fz fl fv rs au) : ∀ d i : Nat, i + d = n → wY_check_57 post q wp tn sl yd nd (d + 1) (nI i) co ca cb le (hi_f co he i) kl tu uy tl ul tm gc ga gp ss st sf fd tc tr ow ti ft fn fh fp fz fl fv rs au := by
  intro d
  induction d with
  | zero =>
    intro i hi
    have : i = n := by omega
    subst this
    exact br_t (by rw [hl]; exact nI_le (Nat.le_refl _) (by omega)) hg
  | succ d ih =>
    intro i hi
    have z := ih (i + 1) (by omega)
    have e1 : 256 + nI i = nI (256 + i) := ix_a 256 rfl i
    have e2 : (nI (256 + i)).toNatClampNeg = 256 + i := nI_clamp (by omega)
    have e3 : (nI i).toNatClampNeg = i := nI_clamp (by omega)
    have vi : vp_in (nI i) 64 := vp_in_nI (by omega) (by decide)
    refine br_f (by rw [hl]; exact nI_ge (by omega) (by omega)) ⟨by rw [e1]; exact vp_in_nI (by omega) (by decide), ?_⟩
    rw [e1, e2]
    by_cases c : co (256 + i) = 0
    · exact br_t c ⟨vi, nm_r (e' := hi_f co he (i + 1)) (by rw [e3]; exact hi_s co he i 1 (by rw [if_pos c])) (nm_r (nI_1 i) z)⟩
    · exact br_f c ⟨vi, nm_r (e' := hi_f co he (i + 1)) (by rw [e3]; exact hi_s co he i 0 (by rw [if_neg c])) (nm_r (nI_1 i) z)⟩
theorem ps_loop {n : Nat} {wy : Int32} (hl : pc = nI n) (hl' : le 4 = nI n) (hn : n ≤ 64) (hw : ∀ j, j < n → wf_P co ca cb n j) (base : Nat → Int32) : ∀ (d i : Nat) (he : Nat → Int32) (f : Int32), i + d = n → h9_P n he → nw_P n base he f →
    ∃ (h' : Nat → Int32) (f' : Int32), nw_P n base h' f' ∧ h9_P n h' ∧ mo_P he h' n ∧ (f' = 0 → he = base ∧ ∀ j, i ≤ j → j < n → fi_h co ca base n j = base) ∧
    (∀ (post : SX → Prop) (J : Int32 → Int32 → Int32 → Int32 → Int32 → Int32 → Int32 → (Nat → Int32) → (Nat → Int32) → (Nat → Int32) → (Nat → Int32) → (Nat → Int32) → (Nat → Int32) → (Nat → Int32) → (Nat → Int32) → (Nat → Int32) → (Nat → Int32) → (Nat → Int32) → (Nat → Int32) → (Nat → Int32) → (Nat → Int32) → (Nat → Int32) → (Nat → Int32) → (Nat → Int32) → (Nat → Int32) → (Nat → Int32) → (Nat → Int32) → (Nat → Int32) → (Nat → Int32) → (Nat → Int32) → (Nat → Int32) → (Nat → Int32) → (Nat → Int32) → (Nat → Int32) → (Nat → Int32) → (Nat → Int32) → (Nat → Int32) → (Nat → Int32) → Prop) (m : Nat), J f' (nI (m + 1)) q tn sl pc wp h' co ca cb fs fc ts tu ux tl ul tm gc ga gp ss st sf tc tr ow ti fd ft fk fn fh fl fv rs nt → wX_spreadHeights_59 post J (nI m) (d + 1) f (nI i) q tn sl pc wp he co ca cb fs fc ts tu ux tl ul tm gc ga gp ss st sf tc tr ow ti fd ft fk fn fh fl fv rs nt) ∧
    (∀ (post : Int32 → SY → Prop) (J : Int32 → Int32 → Int32 → Int32 → Int32 → Int32 → Int32 → (Nat → Int32) → (Nat → Int32) → (Nat → Int32) → (Nat → Int32) → (Nat → Int32) → (Nat → Int32) → (Nat → Int32) → (Nat → Int32) → (Nat → Int32) → (Nat → Int32) → (Nat → Int32) → (Nat → Int32) → (Nat → Int32) → (Nat → Int32) → (Nat → Int32) → (Nat → Int32) → (Nat → Int32) → (Nat → Int32) → (Nat → Int32) → (Nat → Int32) → (Nat → Int32) → (Nat → Int32) → (Nat → Int32) → (Nat → Int32) → (Nat → Int32) → (Nat → Int32) → (Nat → Int32) → (Nat → Int32) → (Nat → Int32) → (Nat → Int32) → (Nat → Int32) → Prop), J f' q wy tn sl yd nd co ca cb le h' kl tu uy tl ul tm gc ga gp ss st sf fd tc tr ow ti ft fn fh fp fz fl fv rs au → wY_check_107 post J (d + 1) f (nI i) q wy tn sl yd nd co ca cb le he kl tu uy tl ul tm gc ga gp ss st sf fd tc tr ow ti ft fn fh fp fz fl fv rs au) := by
  intro d
  induction d with
  | zero =>
    intro i he f hi h9 hN
    have : i = n := by omega
    subst this
    refine ⟨he, f, hN, h9, fun y hy b e => e, fun z => ⟨?_, fun j j1 j2 => absurd j1 (by omega)⟩, fun post J m h => br_t (by rw [hl]; exact nI_le (Nat.le_refl _) (by omega)) (nm_r (nI_1 m) h), fun post J h => br_t (by rw [hl']; exact nI_le (Nat.le_refl _) (by omega)) h⟩
    rcases hN with ⟨_, z2⟩ | ⟨z1, _⟩
    · exact z2
    · rw [z1] at z; exact absurd z (by decide)
  | succ d ih =>
    intro i he f hi h9 hN
    obtain ⟨ho, eo⟩ := op_e (hw i (by omega))
    have ht := tg_e hn (hw i (by omega))
    obtain ⟨g, hg⟩ := nw_fo (n := n) (i := i) (o := op_n co i) (t := tg_n ca i) (h := he) (a := ca (256 + i)) (fun z => (ht z).2)
    obtain ⟨h', f', r1, r2, r3, r4, r5, r6⟩ := ih (i + 1) (fo_h he n i (op_n co i) (tg_n ca i) (ca (256 + i))) (f ||| g) (by omega) (h9_fo h9) (nw_tr hN hg)
    refine ⟨h', f', r1, r2, mo_tr mo_fo r3, fun z => ?_, fun post J m h => br_f (by rw [hl]; exact nI_ge (by omega) (by omega)) ?_, fun post J h => br_f (by rw [hl']; exact nI_ge (by omega) (by omega)) ?_⟩
    · obtain ⟨q1, q2⟩ := r4 z
      have hm : mu_h base n ≤ mu_h he n := by
        rcases hN with ⟨_, z2⟩ | ⟨_, z2⟩
        · rw [z2]; exact Nat.le_refl _
        · exact Nat.le_of_lt z2
      have hb : he = base := by
        rcases hN with ⟨_, z2⟩ | ⟨_, z2⟩
        · exact z2
        · have := mu_mono (mo_fo (h := he) (G := gs_B (op_n co i) n i) (J := js_B (op_n co i)) (y := i + 1) (z := tg_n ca i) (n := n) (w := af_w (he i) (st_po (op_n co i) (ca (256 + i))) (st_pu (op_n co i) (ca (256 + i)))))
          rw [show fo_2 he (gs_B (op_n co i) n i) (js_B (op_n co i)) (i + 1) (tg_n ca i) (af_w (he i) (st_po (op_n co i) (ca (256 + i))) (st_pu (op_n co i) (ca (256 + i)))) = base from q1] at this
          exact absurd z2 (by omega)
      refine ⟨hb, fun j j1 j2 => ?_⟩
      by_cases cj : j = i
      · subst cj
        rw [hb] at q1
        exact q1
      · exact q2 j (by omega) j2
    · refine xl_sp hl hn (by omega) ho eo ht h9 (fun g' hg' => ?_)
      rw [nw_u hg' hg]
      have z := r5 post J m h
      rcases nw_01 hg with e | e
      · subst e
        rw [bi_o0] at z
        exact br_t rfl (nm_r (nI_1 i) z)
      · subst e
        have ef : f ||| 1 = 1 := by rcases nw_01 hN with e | e <;> rw [e] <;> rfl
        rw [ef] at z
        exact br_f (by decide) (nm_r (nI_1 i) z)
    · refine yl_fl hl' hn (by omega) ho eo ht h9 (fun g' hg' => ?_)
      rw [nw_u hg' hg]
      exact nm_e (nm_r (nI_1 i) (r6 post J h))
theorem hs_loop {n : Nat} {wy : Int32} (hl : pc = nI n) (hl' : le 4 = nI n) (hn : n ≤ 64) (hw : ∀ j, j < n → wf_P co ca cb n j) : ∀ (d m : Nat) (he : Nat → Int32), m + d = 577 → h9_P n he → m ≤ mu_h he n →
    ∃ h' : Nat → Int32, h9_P n h' ∧ mo_P he h' n ∧ (∀ j, j < n → fi_h co ca h' n j = h') ∧
    (∀ post : SX → Prop, post (q, tn, sl, pc, wp, h', co, ca, cb, fs, fc, ts, tu, ux, tl, ul, tm, gc, ga, gp, ss, st, sf, tc, tr, ow, ti, fd, ft, fk, fn, fh, fl, fv, rs, nt) → wX_spreadHeights_44 post (d + 1) 1 (nI m) q tn sl pc wp he co ca cb fs fc ts tu ux tl ul tm gc ga gp ss st sf tc tr ow ti fd ft fk fn fh fl fv rs nt) ∧ (∀ post : Int32 → SY → Prop, (∃ m : Nat, wY_check_139 post q tn sl yd nd co ca cb le h' kl tu uy tl ul tm gc ga gp ss st sf fd tc tr ow ti ft fn fh fp fz fl fv rs au m 0) → wY_check_99 post (d + 1) 1 q wy tn sl yd nd co ca cb le he kl tu uy tl ul tm gc ga gp ss st sf fd tc tr ow ti ft fn fh fp fz fl fv rs au) := by
  intro d
  induction d with
  | zero =>
    intro m he hm h9 hmu
    have := mu_le he n
    omega
  | succ d ih =>
    intro m he hm h9 hmu
    have hle := mu_le he n
    obtain ⟨h', f', r1, r2, r3, r4, r5, r6⟩ := ps_loop (q := q) (tn := tn) (sl := sl) (pc := pc) (wp := wp) (yd := yd) (nd := nd) (co := co) (ca := ca) (cb := cb) (fs := fs) (fc := fc) (ts := ts) (tu := tu) (ux := ux) (tl := tl) (ul := ul) (tm := tm) (gc := gc) (ga := ga) (gp := gp) (ss := ss) (st := st) (sf := sf) (tc := tc) (tr := tr) (ow := ow) (ti := ti) (fd := fd) (ft := ft) (fk := fk) (fn := fn) (fh := fh) (fl := fl) (fv := fv) (rs := rs) (nt := nt) (le := le) (kl := kl) (uy := uy) (fp := fp) (fz := fz) (au := au) (wy := wy) hl hl' hn hw he n 0 he 0 (by omega) h9 (Or.inl ⟨rfl, rfl⟩)
    have nx : ¬ (577 : Int32) ≤ nI m := ix_ge 577 rfl (by omega) (by decide)
    rcases r1 with ⟨z1, z2⟩ | ⟨z1, z2⟩
    · subst z1 z2
      obtain ⟨_, q2⟩ := r4 rfl
      refine ⟨h', r2, r3, fun j hj => q2 j (by omega) hj, fun post h => br_f nx (br_f (by decide) ⟨n + 1, r5 post _ m ?_⟩), fun post h => br_f (by decide) ⟨n + 1, r6 post _ (br_t rfl h)⟩⟩
      by_cases c : (577 : Int32) ≤ nI (m + 1)
      · exact br_t c h
      · exact br_f c (br_t rfl h)
    · subst z1
      obtain ⟨h2, s1, s2, s3, s4, s5⟩ := ih (m + 1) h' (by omega) r2 (by omega)
      exact ⟨h2, s1, mo_tr r3 s2, s3, fun post h => br_f nx (br_f (by decide) ⟨n + 1, r5 post _ m (s4 post h)⟩), fun post h => br_f (by decide) ⟨n + 1, r6 post _ (s5 post h)⟩⟩
end
end
section
theorem so_d1 : ∀ s, s < 512 → s ≠ 0 → nI s &&& (nI s - 1) = 0 → ∃ h, h < 9 ∧ s = 2 ^ h := by decide +kernel
theorem so_d2 : ∀ h, h < 9 → nI (2 ^ h) &&& (nI (2 ^ h) - 1) = 0 := by decide +kernel
theorem so_d3 : ∀ h, h < 9 → ∀ p, p < 3 → ∀ q, q < 3 → (af_w (nI (2 ^ h)) p q = 0 ↔ ¬ (p ≤ h ∧ h - p + q ≤ 8)) := by decide +kernel
theorem so_d4 : ∀ h, h < 9 → ∀ b, b < 9 → ((nI (2 ^ h) >>> (nI b &&& 31)) &&& 1 = 1 ↔ b = h) := by decide +kernel
theorem so_d5 : ∀ h, h < 9 → ∀ b, b < 32 → bt (nI (2 ^ h)) b = decide (b = h) := by decide +kernel
theorem so_d6 : ∀ h, h < 9 → nI (2 ^ h) ≠ 0 := by decide +kernel
theorem so_d7 : ∀ b, b < 9 → ¬ (((0 : Int32) >>> (nI b &&& 31)) &&& 1 = 1) := by decide +kernel
/-- row i is sound, at one height at most -/
def so_P (co ca h : Nat → Int32) (n i o : Nat) : Prop := h i = 0 ∨ ∃ b : Nat, b < 9 ∧ h i = nI (2 ^ b) ∧ st_po o (ca (256 + i)) ≤ b ∧ b - st_po o (ca (256 + i)) + st_pu o (ca (256 + i)) ≤ 8 ∧ ((o ≠ 12 ∧ o ≠ 21 ∧ o ≠ 22) → i + 1 < n ∧ co (256 + (i + 1)) ≠ 0)
section
variable {q tn sl pc wp yd nd : Int32} {he co ca cb fs fc ts tu ux tl ul tm gc ga gp ss st sf tc tr ow ti fd ft fk fn fh fl fv rs nt le kl uy fp fz au : Nat → Int32}
theorem xl_so {post : Int32 → Prop} {n i o : Nat} (hl : pc = nI n) (hn : n ≤ 64) (hi : i < n) (ho : o < 24) (eo : co (256 + i) = nI o) (h9 : n9_P (he i)) (hz : he i ≠ 0) (h1 : so_P co ca he n i o → post 1) (h0 : ¬ so_P co ca he n i o → post 0) : wpX_isSoundAt post (q, tn, sl, pc, wp, he, co, ca, cb, fs, fc, ts, tu, ux, tl, ul, tm, gc, ga, gp, ss, st, sf, tc, tr, ow, ti, fd, ft, fk, fn, fh, fl, fv, rs, nt) (nI i) := by
  have e1 : 256 + nI i = nI (256 + i) := ix_a 256 rfl i
  have e2 : (nI (256 + i)).toNatClampNeg = 256 + i := nI_clamp (by omega)
  have v1 : vp_in (256 + nI i) 320 := by rw [e1]; exact vp_in_nI (by omega) (by decide)
  have e3 : (nI i).toNatClampNeg = i := nI_clamp (by omega)
  have vi : vp_in (nI i) 64 := vp_in_nI (by omega) (by decide)
  have pl := po_le o (ca (256 + i))
  have ql := pu_le o (ca (256 + i))
  refine ⟨vi, vi, ?_⟩
  rw [e3]
  obtain ⟨s, hs, es⟩ := n9_s h9
  by_cases c1 : he i &&& (he i - 1) = 0
  · refine br_t c1 (br_f (by decide) (xl_ha (by omega) ho eo ?_))
    obtain ⟨b, hb, eb⟩ := so_d1 s hs (fun z => hz (by rw [es, z]; rfl)) (by rw [← es]; exact c1)
    rw [eb] at es
    have d3 := so_d3 b hb (st_po o (ca (256 + i))) (by omega) (st_pu o (ca (256 + i))) (by omega)
    rw [← es] at d3
    have uq : ∀ b', b' < 9 → he i = nI (2 ^ b') → b' = b := by
      intro b' hb' e
      have x1 := so_d5 b hb b' (by omega)
      rw [← es, e, so_d5 b' hb' b' (by omega), decide_eq_true rfl] at x1
      exact of_decide_eq_true x1.symm
    by_cases c2 : af_w (he i) (st_po o (ca (256 + i))) (st_pu o (ca (256 + i))) = 0
    · refine br_t c2 (h0 ?_)
      rintro (z | ⟨b', b1, b2, b3, b4, _⟩)
      · exact hz z
      · have := uq b' b1 b2
        subst this
        exact d3.mp c2 ⟨b3, b4⟩
    · have hf : st_po o (ca (256 + i)) ≤ b ∧ b - st_po o (ca (256 + i)) + st_pu o (ca (256 + i)) ≤ 8 := Classical.byContradiction (fun z => c2 (d3.mpr z))
      refine br_f c2 ⟨v1, ?_⟩
      rw [e1, e2, eo]
      refine xl_gon ho (fun hg => br_f (by decide) ?_) (fun hg => br_t rfl (h1 (Or.inr ⟨b, hb, es, hf.1, hf.2, fun z => absurd z hg⟩)))
      by_cases c3 : i + 1 < n
      · have e5 : nI (256 + i) + 1 = nI (256 + (i + 1)) := nI_1 _
        have e6 : (nI (256 + (i + 1))).toNatClampNeg = 256 + (i + 1) := nI_clamp (by omega)
        refine br_f (by rw [hl, nI_1]; exact nI_ge c3 (by omega)) ⟨by rw [e5]; exact vp_in_nI (by omega) (by decide), ?_⟩
        rw [e5, e6]
        by_cases c4 : co (256 + (i + 1)) = 0
        · refine br_t c4 (h0 ?_)
          rintro (z | ⟨b', b1, b2, b3, b4, b5⟩)
          · exact hz z
          · exact (b5 hg).2 c4
        · exact br_f c4 (h1 (Or.inr ⟨b, hb, es, hf.1, hf.2, fun _ => ⟨c3, c4⟩⟩))
      · refine br_t (by rw [hl, nI_1]; exact nI_le (by omega) (by omega)) (h0 ?_)
        rintro (z | ⟨b', b1, b2, b3, b4, b5⟩)
        · exact hz z
        · exact c3 (b5 hg).1
  · refine br_f c1 (br_t rfl (h0 ?_))
    rintro (z | ⟨b', b1, b2, _⟩)
    · exact hz z
    · rw [b2] at c1
      exact c1 (so_d2 b' b1)
theorem yl_so {post : Int32 → Prop} {n i o : Nat} (hl : le 4 = nI n) (hn : n ≤ 64) (hi : i < n) (ho : o < 24) (eo : co (256 + i) = nI o) (h9 : n9_P (he i)) (h1 : so_P co ca he n i o → post 1) (h0 : ¬ so_P co ca he n i o → post 0) : wpY_sound post (q, wp, tn, sl, yd, nd, co, ca, cb, le, he, kl, tu, uy, tl, ul, tm, gc, ga, gp, ss, st, sf, fd, tc, tr, ow, ti, ft, fn, fh, fp, fz, fl, fv, rs, au) (nI i) := by
  have e1 : 256 + nI i = nI (256 + i) := ix_a 256 rfl i
  have e2 : (nI (256 + i)).toNatClampNeg = 256 + i := nI_clamp (by omega)
  have v1 : vp_in (256 + nI i) 320 := by rw [e1]; exact vp_in_nI (by omega) (by decide)
  have e3 : (nI i).toNatClampNeg = i := nI_clamp (by omega)
  have vi : vp_in (nI i) 64 := vp_in_nI (by omega) (by decide)
  have pl := po_le o (ca (256 + i))
  have ql := pu_le o (ca (256 + i))
  refine ⟨vi, nm_r (e' := he i) (by rw [e3]) ?_⟩
  by_cases hz : he i = 0
  · refine br_t (by rw [hz]; decide) ⟨10, ?_⟩
    rw [hz]
    have key : ∀ m b : Nat, b + m = 9 → wY_sound_19 post (nI i) 0 q wp tn sl yd nd co ca cb le he kl tu uy tl ul tm gc ga gp ss st sf fd tc tr ow ti ft fn fh fp fz fl fv rs au (m + 1) (nI b) := by
      intro m
      induction m with
      | zero =>
        intro b hb
        have : b = 9 := by omega
        subst this
        exact br_t (by decide) (br_t rfl (h1 (Or.inl hz)))
      | succ m ih =>
        intro b hb
        exact br_f (ix_ge 9 rfl (by omega) (by decide)) (br_f (so_d7 b (by omega)) (nm_r (nI_1 b) (ih (b + 1) (by omega))))
    exact key 9 0 rfl
  · obtain ⟨s, hs, es⟩ := n9_s h9
    by_cases c1 : he i &&& (he i - 1) = 0
    · obtain ⟨b, hb, eb⟩ := so_d1 s hs (fun z => hz (by rw [es, z]; rfl)) (by rw [← es]; exact c1)
      rw [eb] at es
      refine br_t c1 ⟨10, ?_⟩
      have uq : ∀ b', b' < 9 → he i = nI (2 ^ b') → b' = b := by
        intro b' hb' e
        have x1 := so_d5 b hb b' (by omega)
        rw [← es, e, so_d5 b' hb' b' (by omega), decide_eq_true rfl] at x1
        exact of_decide_eq_true x1.symm
      have key : ∀ m x : Nat, x + m = 9 → (b < x → st_po o (ca (256 + i)) ≤ b ∧ b - st_po o (ca (256 + i)) + st_pu o (ca (256 + i)) ≤ 8) → wY_sound_19 post (nI i) (he i) q wp tn sl yd nd co ca cb le he kl tu uy tl ul tm gc ga gp ss st sf fd tc tr ow ti ft fn fh fp fz fl fv rs au (m + 1) (nI x) := by
        intro m
        induction m with
        | zero =>
          intro x hx hf
          have : x = 9 := by omega
          subst this
          have hf' := hf hb
          refine br_t (by decide) (br_f hz ⟨v1, ?_⟩)
          rw [e1, e2, eo]
          refine yl_end2 ho (fun hg => br_t rfl ?_) (fun hg => br_f (by decide) (h1 (Or.inr ⟨b, hb, es, hf'.1, hf'.2, fun z => absurd z hg⟩)))
          by_cases c3 : i + 1 < n
          · have e5 : nI (256 + i) + 1 = nI (256 + (i + 1)) := nI_1 _
            have e6 : (nI (256 + (i + 1))).toNatClampNeg = 256 + (i + 1) := nI_clamp (by omega)
            refine br_f (by rw [hl, nI_1]; exact nI_ge c3 (by omega)) ⟨by rw [e5]; exact vp_in_nI (by omega) (by decide), ?_⟩
            rw [e5, e6]
            by_cases c4 : co (256 + (i + 1)) = 0
            · refine br_t c4 (h0 ?_)
              rintro (z | ⟨b', b1, b2, b3, b4, b5⟩)
              · exact hz z
              · exact (b5 hg).2 c4
            · exact br_f c4 (h1 (Or.inr ⟨b, hb, es, hf'.1, hf'.2, fun _ => ⟨c3, c4⟩⟩))
          · refine br_t (by rw [hl, nI_1]; exact nI_le (by omega) (by omega)) (h0 ?_)
            rintro (z | ⟨b', b1, b2, b3, b4, b5⟩)
            · exact hz z
            · exact c3 (b5 hg).1
        | succ m ih =>
          intro x hx hf
          have d4 := so_d4 b hb x (by omega)
          rw [← es] at d4
          refine br_f (ix_ge 9 rfl (by omega) (by decide)) ?_
          by_cases cx : x = b
          · refine br_t (d4.mpr cx) (yl_fit (by omega) (by omega) ho eo (fun z => br_f (by decide) (nm_r (nI_1 x) (ih (x + 1) (by omega) (fun _ => by rw [cx] at z; exact z)))) (fun z => br_t rfl (h0 ?_)))
            rintro (z' | ⟨b', b1, b2, b3, b4, _⟩)
            · exact hz z'
            · have := uq b' b1 b2
              subst this
              rw [cx] at z
              exact z ⟨b3, b4⟩
          · exact br_f (fun z => cx (d4.mp z)) (nm_r (nI_1 x) (ih (x + 1) (by omega) (fun z => hf (by omega))))
      exact key 9 0 rfl (fun z => absurd z (Nat.not_lt_zero b))
    · refine br_f c1 (h0 ?_)
      rintro (z | ⟨b', b1, b2, _⟩)
      · exact hz z
      · rw [b2] at c1
        exact c1 (so_d2 b' b1)
/-- both look for the first unsound row -/
theorem ul_loop {n : Nat} (hl : pc = nI n) (hl' : le 4 = nI n) (hn : n ≤ 64) (hw : ∀ j, j < n → wf_P co ca cb n j) (h9 : h9_P n he) : ∀ d i : Nat, i + d = n → (∀ j, j < i → so_P co ca he n j (op_n co j)) →
    (∃ b : Nat, b < n ∧ (∀ post : Int32 → Prop, post (nI b) → wX_firstUnsound_2 post q tn sl pc wp he co ca cb fs fc ts tu ux tl ul tm gc ga gp ss st sf tc tr ow ti fd ft fk fn fh fl fv rs nt (d + 1) (nI i)) ∧ (∀ post : Int32 → SY → Prop, post 2 (q, nI b, tn, sl, yd, nd, co, ca, cb, le, he, kl, tu, uy, tl, ul, tm, gc, ga, gp, ss, st, sf, fd, tc, tr, ow, ti, ft, fn, fh, fp, fz, fl, fv, rs, au) → wY_check_139 post q tn sl yd nd co ca cb le he kl tu uy tl ul tm gc ga gp ss st sf fd tc tr ow ti ft fn fh fp fz fl fv rs au (d + 1) (nI i))) ∨
    ((∀ j, j < n → so_P co ca he n j (op_n co j)) ∧ (∀ post : Int32 → Prop, post (-1) → wX_firstUnsound_2 post q tn sl pc wp he co ca cb fs fc ts tu ux tl ul tm gc ga gp ss st sf tc tr ow ti fd ft fk fn fh fl fv rs nt (d + 1) (nI i)) ∧ (∀ post : Int32 → SY → Prop, post 0 (q, -1, tn, sl, yd, nd, co, ca, cb, le, he, kl, tu, uy, tl, ul, tm, gc, ga, gp, ss, st, sf, fd, tc, tr, ow, ti, ft, fn, fh, fp, fz, fl, fv, rs, au) → wY_check_139 post q tn sl yd nd co ca cb le he kl tu uy tl ul tm gc ga gp ss st sf fd tc tr ow ti ft fn fh fp fz fl fv rs au (d + 1) (nI i))) := by
  intro d
  induction d with
  | zero =>
    intro i hi hs
    have : i = n := by omega
    subst this
    exact Or.inr ⟨hs, fun _ h => br_t (by rw [hl]; exact nI_le (Nat.le_refl _) (by omega)) h, fun _ h => br_t (by rw [hl']; exact nI_le (Nat.le_refl _) (by omega)) h⟩
  | succ d ih =>
    intro i hi hs
    obtain ⟨ho, eo⟩ := op_e (hw i (by omega))
    have nX : ¬ pc ≤ nI i := by rw [hl]; exact nI_ge (by omega) (by omega)
    have nY : ¬ le 4 ≤ nI i := by rw [hl']; exact nI_ge (by omega) (by omega)
    have e3 : (nI i).toNatClampNeg = i := nI_clamp (by omega)
    have vi : vp_in (nI i) 64 := vp_in_nI (by omega) (by decide)
    by_cases c : so_P co ca he n i (op_n co i)
    · have stepX : ∀ post : Int32 → Prop, wX_firstUnsound_2 post q tn sl pc wp he co ca cb fs fc ts tu ux tl ul tm gc ga gp ss st sf tc tr ow ti fd ft fk fn fh fl fv rs nt (d + 1) (nI (i + 1)) → wX_firstUnsound_2 post q tn sl pc wp he co ca cb fs fc ts tu ux tl ul tm gc ga gp ss st sf tc tr ow ti fd ft fk fn fh fl fv rs nt (d + 1 + 1) (nI i) := by
        intro post h
        refine br_f nX ⟨vi, ?_⟩
        rw [e3]
        by_cases hz : he i = 0
        · exact br_t hz (nm_r (nI_1 i) h)
        · exact br_f hz (xl_so hl hn (by omega) ho eo (h9 i (by omega)) hz (fun _ => br_f (by decide) (nm_r (nI_1 i) h)) (fun z => absurd c z))
      have stepY : ∀ post : Int32 → SY → Prop, wY_check_139 post q tn sl yd nd co ca cb le he kl tu uy tl ul tm gc ga gp ss st sf fd tc tr ow ti ft fn fh fp fz fl fv rs au (d + 1) (nI (i + 1)) → wY_check_139 post q tn sl yd nd co ca cb le he kl tu uy tl ul tm gc ga gp ss st sf fd tc tr ow ti ft fn fh fp fz fl fv rs au (d + 1 + 1) (nI i) := by
        intro post h
        exact br_f nY (yl_so hl' hn (by omega) ho eo (h9 i (by omega)) (fun _ => br_f (by decide) (nm_r (nI_1 i) h)) (fun z => absurd c z))
      rcases ih (i + 1) (by omega) (fun j hj => by
        by_cases cj : j = i
        · subst cj; exact c
        · exact hs j (by omega)) with ⟨b, h1, h2, h3⟩ | ⟨h1, h2, h3⟩
      · exact Or.inl ⟨b, h1, fun post h => stepX post (h2 post h), fun post h => stepY post (h3 post h)⟩
      · exact Or.inr ⟨h1, fun post h => stepX post (h2 post h), fun post h => stepY post (h3 post h)⟩
    · refine Or.inl ⟨i, by omega, fun post h => br_f nX ⟨vi, ?_⟩, fun post h => br_f nY (yl_so hl' hn (by omega) ho eo (h9 i (by omega)) (fun z => absurd z c) (fun _ => br_t rfl h))⟩
      rw [e3]
      have hz : he i ≠ 0 := fun z => c (Or.inl z)
      exact br_f hz (xl_so hl hn (by omega) ho eo (h9 i (by omega)) hz (fun z => absurd z c) (fun _ => br_t rfl h))
theorem ls_w {P : Nat → Prop} : ∀ n, (¬ ∀ j, j < n → P j) → ∃ b, b < n ∧ ¬ P b ∧ ∀ j, j < b → P j
  | 0, h => absurd (fun j hj => absurd hj (Nat.not_lt_zero j)) h
  | n + 1, h => by
    by_cases c : ∀ j, j < n → P j
    · refine ⟨n, by omega, fun z => h (fun j hj => ?_), c⟩
      by_cases cj : j = n
      · rw [cj]; exact z
      · exact c j (by omega)
    · obtain ⟨b, b1, b2, b3⟩ := ls_w n c
      exact ⟨b, by omega, b2, b3⟩
/-- the judgement of the pending bundle: one answer on both sides -/
theorem jd_all {n : Nat} (hl : pc = nI n) (hl' : le 4 = nI n) (hn : n ≤ 64) : ∃ (r wp' : Int32) (h' : Nat → Int32),
    (∀ post : Int32 → SX → Prop, post r (q, tn, sl, pc, wp', h', co, ca, cb, fs, fc, ts, tu, ux, tl, ul, tm, gc, ga, gp, ss, st, sf, tc, tr, ow, ti, fd, ft, fk, fn, fh, fl, fv, rs, nt) → wpX_judgePending post (q, tn, sl, pc, wp, he, co, ca, cb, fs, fc, ts, tu, ux, tl, ul, tm, gc, ga, gp, ss, st, sf, tc, tr, ow, ti, fd, ft, fk, fn, fh, fl, fv, rs, nt)) ∧ (∀ post : Int32 → SY → Prop, post r (q, wp', tn, sl, yd, nd, co, ca, cb, le, h', kl, tu, uy, tl, ul, tm, gc, ga, gp, ss, st, sf, fd, tc, tr, ow, ti, ft, fn, fh, fp, fz, fl, fv, rs, au) → wpY_check post (q, wp, tn, sl, yd, nd, co, ca, cb, le, he, kl, tu, uy, tl, ul, tm, gc, ga, gp, ss, st, sf, fd, tc, tr, ow, ti, ft, fn, fh, fp, fz, fl, fv, rs, au)) ∧
    (r = 0 → n ≠ 0 ∧ co 256 = 0 ∧ (∀ j, j < n → wf_P co ca cb n j) ∧ (∀ j, j < n → co (256 + j) = 0 → bt (h' j) 0 = true) ∧ (∀ j, j < n → fi_h co ca h' n j = h') ∧ (∀ j, j < n → so_P co ca h' n j (op_n co j))) := by
  by_cases c0 : n = 0
  · subst c0
    refine ⟨1, 0, he, fun post h => ?_, fun post h => br_t hl' h, fun z => absurd z (by decide)⟩
    unfold wpX_judgePending; dsimp only
    exact (show wpX_firstMalformed _ _ from br_t hl (br_f (by decide) h))
  have pn : ¬ pc = 0 := by rw [hl]; exact nI_ne0 (by omega) (by omega)
  have ln : ¬ le 4 = 0 := by rw [hl']; exact nI_ne0 (by omega) (by omega)
  by_cases h0 : co 256 = 0
  · have hX : ∀ post : Int32 → Prop, (∃ m : Nat, wX_firstMalformed_32 post (nI (cf_n co 256 n)) q tn sl pc wp he co ca cb fs fc ts tu ux tl ul tm gc ga gp ss st sf tc tr ow ti fd ft fk fn fh fl fv rs nt m 0 0 0) → wpX_firstMalformed post (q, tn, sl, pc, wp, he, co, ca, cb, fs, fc, ts, tu, ux, tl, ul, tm, gc, ga, gp, ss, st, sf, tc, tr, ow, ti, fd, ft, fk, fn, fh, fl, fv, rs, nt) := fun post h => br_f pn (br_t h0 (xl_fns hl hn h))
    by_cases hw : ∀ j, j < n → wf_P co ca cb n j
    · have h9 : h9_P n (hi_f co he n) := by
        intro y hy
        unfold hi_f
        rw [if_pos hy]
        by_cases c : co (256 + y) = 0
        · rw [if_pos c]; exact fun b h1 h2 => by rw [b_1 b h2, decide_eq_false (by omega)]
        · rw [if_neg c]; exact fun b _ _ => b_0 b
      obtain ⟨h', r1, r2, r3, r4, r5⟩ := hs_loop (q := q) (tn := tn) (sl := sl) (pc := pc) (yd := yd) (nd := nd) (co := co) (ca := ca) (cb := cb) (fs := fs) (fc := fc) (ts := ts) (tu := tu) (ux := ux) (tl := tl) (ul := ul) (tm := tm) (gc := gc) (ga := ga) (gp := gp) (ss := ss) (st := st) (sf := sf) (tc := tc) (tr := tr) (ow := ow) (ti := ti) (fd := fd) (ft := ft) (fk := fk) (fn := fn) (fh := fh) (fl := fl) (fv := fv) (rs := rs) (nt := nt) (le := le) (kl := kl) (uy := uy) (fp := fp) (fz := fz) (au := au) (wp := -1) (wy := nI n) hl hl' hn hw 577 0 (hi_f co he n) rfl h9 (Nat.zero_le _)
      have hbit : ∀ j, j < n → co (256 + j) = 0 → bt (h' j) 0 = true := by
        intro j hj ej
        refine r2 j hj 0 ?_
        unfold hi_f
        rw [if_pos hj, if_pos ej]
        rfl
      have goX : ∀ (r w : Int32) (post : Int32 → SX → Prop), (∀ post' : Int32 → Prop, post' w → wX_firstUnsound_2 post' q tn sl pc (-1) h' co ca cb fs fc ts tu ux tl ul tm gc ga gp ss st sf tc tr ow ti fd ft fk fn fh fl fv rs nt (n + 1) (nI 0)) → ((w = -1 ∧ r = 0) ∨ (w ≠ -1 ∧ r = 2)) → post r (q, tn, sl, pc, w, h', co, ca, cb, fs, fc, ts, tu, ux, tl, ul, tm, gc, ga, gp, ss, st, sf, tc, tr, ow, ti, fd, ft, fk, fn, fh, fl, fv, rs, nt) → wpX_judgePending post (q, tn, sl, pc, wp, he, co, ca, cb, fs, fc, ts, tu, ux, tl, ul, tm, gc, ga, gp, ss, st, sf, tc, tr, ow, ti, fd, ft, fk, fn, fh, fl, fv, rs, nt) := by
        intro r w post hU hr hp
        unfold wpX_judgePending; dsimp only
        refine (show wpX_firstMalformed _ _ from hX _ ⟨n + 1, fx_loop hl hn h0 (fun b hb z _ => absurd (hw b hb) z) (fun _ => br_t rfl ?_) n 0 0 (by omega) (fun j hj => absurd hj (Nat.not_lt_zero j)) (fun z => absurd rfl z)⟩)
        have k := xh_loop (q := q) (tn := tn) (sl := sl) (pc := pc) (he := he) (co := co) (ca := ca) (cb := cb) (fs := fs) (fc := fc) (ts := ts) (tu := tu) (ux := ux) (tl := tl) (ul := ul) (tm := tm) (gc := gc) (ga := ga) (gp := gp) (ss := ss) (st := st) (sf := sf) (tc := tc) (tr := tr) (ow := ow) (ti := ti) (fd := fd) (ft := ft) (fk := fk) (fn := fn) (fh := fh) (fl := fl) (fv := fv) (rs := rs) (nt := nt) (wp := -1) hl hn ⟨578, r4 (fun u => match u with | (q, tn, sl, pc, wp, he, co, ca, cb, fs, fc, ts, tu, ux, tl, ul, tm, gc, ga, gp, ss, st, sf, tc, tr, ow, ti, fd, ft, fk, fn, fh, fl, fv, rs, nt) => (wpX_firstUnsound (fun r_76 => (((r_76 = (-1) → (post 0 (q, tn, sl, pc, r_76, he, co, ca, cb, fs, fc, ts, tu, ux, tl, ul, tm, gc, ga, gp, ss, st, sf, tc, tr, ow, ti, fd, ft, fk, fn, fh, fl, fv, rs, nt))) ∧ (¬ r_76 = (-1) → (post 2 (q, tn, sl, pc, r_76, he, co, ca, cb, fs, fc, ts, tu, ux, tl, ul, tm, gc, ga, gp, ss, st, sf, tc, tr, ow, ti, fd, ft, fk, fn, fh, fl, fv, rs, nt)))))) (q, tn, sl, pc, wp, he, co, ca, cb, fs, fc, ts, tu, ux, tl, ul, tm, gc, ga, gp, ss, st, sf, tc, tr, ow, ti, fd, ft, fk, fn, fh, fl, fv, rs, nt))) ⟨n + 1, hU _ (by
          rcases hr with ⟨z1, z2⟩ | ⟨z1, z2⟩
          · subst z2; exact br_t z1 hp
          · subst z2; exact br_f z1 hp)⟩⟩ n 0 (by omega)
        rw [hi_0] at k
        exact ⟨n + 1, k⟩
      have goY : ∀ (r w : Int32) (post : Int32 → SY → Prop), (∀ post' : Int32 → SY → Prop, post' r (q, w, tn, sl, yd, nd, co, ca, cb, le, h', kl, tu, uy, tl, ul, tm, gc, ga, gp, ss, st, sf, fd, tc, tr, ow, ti, ft, fn, fh, fp, fz, fl, fv, rs, au) → wY_check_139 post' q tn sl yd nd co ca cb le h' kl tu uy tl ul tm gc ga gp ss st sf fd tc tr ow ti ft fn fh fp fz fl fv rs au (n + 1) (nI 0)) → post r (q, w, tn, sl, yd, nd, co, ca, cb, le, h', kl, tu, uy, tl, ul, tm, gc, ga, gp, ss, st, sf, fd, tc, tr, ow, ti, ft, fn, fh, fp, fz, fl, fv, rs, au) → wpY_check post (q, wp, tn, sl, yd, nd, co, ca, cb, le, he, kl, tu, uy, tl, ul, tm, gc, ga, gp, ss, st, sf, fd, tc, tr, ow, ti, ft, fn, fh, fp, fz, fl, fv, rs, au) := by
        intro r w post hU hp
        refine br_f ln ⟨n + 1, fy_loop hl' hn h0 (fun b hb z _ => absurd (hw b hb) z) (fun _ => ?_) n 0 (by omega) (fun j hj => absurd hj (Nat.not_lt_zero j))⟩
        have k := yh_loop (q := q) (tn := tn) (sl := sl) (yd := yd) (nd := nd) (co := co) (ca := ca) (cb := cb) (le := le) (he := he) (kl := kl) (tu := tu) (uy := uy) (tl := tl) (ul := ul) (tm := tm) (gc := gc) (ga := ga) (gp := gp) (ss := ss) (st := st) (sf := sf) (fd := fd) (tc := tc) (tr := tr) (ow := ow) (ti := ti) (ft := ft) (fn := fn) (fh := fh) (fp := fp) (fz := fz) (fl := fl) (fv := fv) (rs := rs) (au := au) (wp := nI n) hl' hn ⟨578, r5 post ⟨n + 1, hU post hp⟩⟩ n 0 (by omega)
        rw [hi_0] at k
        exact ⟨n + 1, k⟩
      rcases ul_loop (q := q) (tn := tn) (sl := sl) (pc := pc) (yd := yd) (nd := nd) (co := co) (ca := ca) (cb := cb) (fs := fs) (fc := fc) (ts := ts) (tu := tu) (ux := ux) (tl := tl) (ul := ul) (tm := tm) (gc := gc) (ga := ga) (gp := gp) (ss := ss) (st := st) (sf := sf) (tc := tc) (tr := tr) (ow := ow) (ti := ti) (fd := fd) (ft := ft) (fk := fk) (fn := fn) (fh := fh) (fl := fl) (fv := fv) (rs := rs) (nt := nt) (le := le) (kl := kl) (uy := uy) (fp := fp) (fz := fz) (au := au) (wp := -1) (he := h') hl hl' hn hw r1 n 0 (by omega) (fun j hj => absurd hj (Nat.not_lt_zero j)) with ⟨b, b1, b2, b3⟩ | ⟨b1, b2, b3⟩
      · exact ⟨2, nI b, h', fun post h => goX 2 (nI b) post b2 (Or.inr ⟨ix_neg b (by omega), rfl⟩) h, fun post h => goY 2 (nI b) post b3 h, fun z => absurd z (by decide)⟩
      · exact ⟨0, -1, h', fun post h => goX 0 (-1) post b2 (Or.inl ⟨rfl, rfl⟩) h, fun post h => goY 0 (-1) post b3 h, fun _ => ⟨c0, h0, hw, hbit, r3, b1⟩⟩
    · obtain ⟨b, b1, b2, b3⟩ := ls_w n hw
      have uq : ∀ b', ¬ wf_P co ca cb n b' → (∀ j, j < b' → wf_P co ca cb n j) → b' = b := by
        intro b' x1 x2
        rcases Nat.lt_trichotomy b' b with z | z | z
        · exact absurd (b3 b' z) x1
        · exact z
        · exact absurd (x2 b z) b2
      refine ⟨1, nI b, he, fun post h => ?_, fun post h => ?_, fun z => absurd z (by decide)⟩
      · unfold wpX_judgePending; dsimp only
        exact (show wpX_firstMalformed _ _ from hX _ ⟨n + 1, fx_loop hl hn h0 (fun b' hb' x1 x2 => by rw [uq b' x1 x2]; exact br_f (ix_neg b (by omega)) h) (fun z => absurd z hw) n 0 0 (by omega) (fun j hj => absurd hj (Nat.not_lt_zero j)) (fun z => absurd rfl z)⟩)
      · exact br_f ln ⟨n + 1, fy_loop hl' hn h0 (fun b' hb' x1 x2 => by rw [uq b' x1 x2]; exact h) (fun z => absurd z hw) n 0 (by omega) (fun j hj => absurd hj (Nat.not_lt_zero j))⟩
  · refine ⟨1, 0, he, fun post h => ?_, fun post h => ?_, fun z => absurd z (by decide)⟩
    · unfold wpX_judgePending; dsimp only
      exact (show wpX_firstMalformed _ _ from br_f pn (br_f h0 (br_f (by decide) h)))
    · have e : ((256 : Int32) + 0).toNatClampNeg = 256 := by decide
      have v : vp_in ((256 : Int32) + 0) 320 := vp_in_iff.mpr (by decide)
      refine br_f ln ⟨1, br_f (by rw [hl']; exact nI_nle (by omega) (by omega)) ?_⟩
      exact (show wpY_wellFormed _ _ _ from ⟨v, nm_r (e' := co 256) (by rw [e]) ⟨v, nm_e (br_t rfl (br_f h0 (br_t rfl h)))⟩⟩)
end
end
section
def cp_f (g : Nat → Int32) (t n : Nat) : Nat → Int32 := fun y => if 64 * t ≤ y ∧ y < 64 * t + n then g (256 + (y - 64 * t)) else g y
theorem cp_0 (g : Nat → Int32) (t : Nat) : cp_f g t 0 = g := by
  funext y
  unfold cp_f
  rw [if_neg (by omega)]
theorem cp_in {g : Nat → Int32} {t n i : Nat} (hi : i < n) : cp_f g t n (64 * t + i) = g (256 + i) := by
  unfold cp_f
  rw [if_pos (by omega), show 64 * t + i - 64 * t = i by omega]
theorem cp_un {g : Nat → Int32} {t n y : Nat} (h : y < 64 * t ∨ 64 * t + n ≤ y) : cp_f g t n y = g y := by
  unfold cp_f
  rw [if_neg (by omega)]
theorem cp_s (g : Nat → Int32) {t i : Nat} (ht : t < 4) (hi : i < 64) : upd (cp_f g t i) (64 * t + i) (cp_f g t i (256 + i)) = cp_f g t (i + 1) := by
  funext y
  rw [cp_un (by omega)]
  by_cases c : y = 64 * t + i
  · subst c
    rw [pk_us, cp_in (by omega)]
  · rw [pk_un c]
    unfold cp_f
    by_cases c2 : 64 * t ≤ y ∧ y < 64 * t + i
    · have a : 64 * t ≤ y ∧ y < 64 * t + (i + 1) := by omega
      simp only [if_pos c2, if_pos a]
    · have a : ¬ (64 * t ≤ y ∧ y < 64 * t + (i + 1)) := by omega
      simp only [if_neg c2, if_neg a]
theorem cp_cf {co : Nat → Int32} {t n : Nat} : ∀ i, i ≤ n → cf_n (cp_f co t n) (64 * t) i = cf_n co 256 i := by
  intro i
  induction i with
  | zero => intro _; rfl
  | succ i ih =>
    intro h
    simp only [cf_n]
    rw [ih (by omega), cp_in (by omega)]
/-- what the starts of a tenant's functions say of the first i rows -/
def fn_P (co fs fs0 : Nat → Int32) (t i : Nat) : Prop := (∀ f, f < cf_n co 256 i → ∃ j : Nat, j < i ∧ fs (4 * t + f) = nI j ∧ co (256 + j) = 0 ∧ cf_n co 256 j = f) ∧ ∀ y, (y < 4 * t ∨ 4 * t + 4 ≤ y) → fs y = fs0 y
section
variable {q tn sl pc wp yd nd : Int32} {he co ca cb fs fc ts tu ux tl ul tm gc ga gp ss st sf tc tr ow ti fd ft fk fn fh fl fv rs nt le kl uy fp fz au : Nat → Int32}
theorem xn_loop {n t : Nat} {fs0 : Nat → Int32} (hl : pc = nI n) (hn : n ≤ 64) (ht : t < 4) (hw : ∀ j, j < n → wf_P co ca cb n j) : ∀ (d i : Nat) (fs : Nat → Int32), i + d = n → fn_P co fs fs0 t i → ∃ fs' : Nat → Int32, fn_P co fs' fs0 t n ∧
    (∀ post : SX → Prop, post (q, tn, sl, pc, wp, he, cp_f co t n, cp_f ca t n, cp_f cb t n, fs', upd fc t (nI (cf_n co 256 n)), upd ts t 1, upd tu t 0, upd ux t 0, tl, ul, tm, gc, ga, gp, ss, st, sf, tc, tr, ow, ti, fd, ft, fk, fn, fh, fl, fv, rs, nt) → wX_install_10 post (nI t) (nI (64 * t)) q tn sl pc wp (d + 1) (nI (cf_n co 256 i)) (nI i) he (cp_f co t i) (cp_f ca t i) (cp_f cb t i) fs fc ts tu ux tl ul tm gc ga gp ss st sf tc tr ow ti fd ft fk fn fh fl fv rs nt) := by
  have et : (nI t).toNatClampNeg = t := nI_clamp (by omega)
  have vt : vp_in (nI t) 4 := vp_in_nI ht (by decide)
  intro d
  induction d with
  | zero =>
    intro i fs hi hf
    have : i = n := by omega
    subst this
    exact ⟨fs, hf, fun post h => br_t (by rw [hl]; exact nI_le (Nat.le_refl _) (by omega)) ⟨vt, nm_r (by rw [et]) ⟨vt, nm_r (by rw [et]) ⟨vt, nm_r (by rw [et]) ⟨vt, nm_r (by rw [et]) h⟩⟩⟩⟩⟩
  | succ d ih =>
    intro i fs hi hf
    have e1 : 256 + nI i = nI (256 + i) := ix_a 256 rfl i
    have e2 : (nI (256 + i)).toNatClampNeg = 256 + i := nI_clamp (by omega)
    have v1 : vp_in (256 + nI i) 320 := by rw [e1]; exact vp_in_nI (by omega) (by decide)
    have e3 : nI (64 * t) + nI i = nI (64 * t + i) := nI_add _ _
    have e4 : (nI (64 * t + i)).toNatClampNeg = 64 * t + i := nI_clamp (by omega)
    have v2 : vp_in (nI (64 * t) + nI i) 320 := by rw [e3]; exact vp_in_nI (by omega) (by decide)
    have c4 := cf_4 i (fun j hj => hw j (by omega))
    have es : ∀ g : Nat → Int32, upd (cp_f g t i) (nI (64 * t) + nI i).toNatClampNeg (cp_f g t i (256 + nI i).toNatClampNeg) = cp_f g t (i + 1) := fun g => by rw [e3, e4, e1, e2]; exact cp_s g ht (by omega)
    have ec : cp_f co t (i + 1) (nI (64 * t) + nI i).toNatClampNeg = co (256 + i) := by rw [e3, e4]; exact cp_in (by omega)
    have nx : ¬ pc ≤ nI i := by rw [hl]; exact nI_ge (by omega) (by omega)
    by_cases c : co (256 + i) = 0
    · have q4 : cf_n co 256 i < 4 := (hw i (by omega)).2 c
      have e5 : nI t * 4 + nI (cf_n co 256 i) = nI (4 * t + cf_n co 256 i) := ix_r 4 rfl t _
      have e6 : (nI (4 * t + cf_n co 256 i)).toNatClampNeg = 4 * t + cf_n co 256 i := nI_clamp (by omega)
      obtain ⟨fs', r1, r2⟩ := ih (i + 1) (upd fs (4 * t + cf_n co 256 i) (nI i)) (by omega) ⟨fun f hf' => by
        rw [cf_t c] at hf'
        by_cases cf : f = cf_n co 256 i
        · subst cf
          exact ⟨i, by omega, pk_us, c, rfl⟩
        · obtain ⟨j, j1, j2, j3, j4⟩ := hf.1 f (by omega)
          exact ⟨j, by omega, by rw [pk_un (by omega)]; exact j2, j3, j4⟩, fun y hy => by rw [pk_un (by omega)]; exact hf.2 y hy⟩
      refine ⟨fs', r1, fun post h => br_f nx ⟨v1, v2, nm_r (es co) ⟨v1, v2, nm_r (es ca) ⟨v1, v2, nm_r (es cb) ⟨v2, br_t (by rw [ec]; exact c) (br_f (ix_ge 4 rfl q4 (by decide)) ⟨by rw [e5]; exact vp_in_nI (by omega) (by decide), nm_r (e' := upd fs (4 * t + cf_n co 256 i) (nI i)) (by rw [e5, e6]) (nm_r (nI_1 _) (nm_r (nI_1 i) ?_))⟩)⟩⟩⟩⟩⟩
      have z := r2 post h
      rw [cf_t c] at z
      exact z
    · obtain ⟨fs', r1, r2⟩ := ih (i + 1) fs (by omega) ⟨fun f hf' => by
        rw [cf_f c] at hf'
        obtain ⟨j, j1, j2, j3, j4⟩ := hf.1 f hf'
        exact ⟨j, by omega, j2, j3, j4⟩, hf.2⟩
      refine ⟨fs', r1, fun post h => br_f nx ⟨v1, v2, nm_r (es co) ⟨v1, v2, nm_r (es ca) ⟨v1, v2, nm_r (es cb) ⟨v2, br_f (by rw [ec]; exact c) (nm_r (nI_1 i) ?_)⟩⟩⟩⟩⟩
      have z := r2 post h
      rw [cf_f c] at z
      exact z
theorem yn_loop {n t : Nat} (hn : n ≤ 64) (ht : t < 4) {post : Int32 → SY → Prop} (h : post 0 (q, wp, tn, sl, yd, nd, cp_f co t n, cp_f ca t n, cp_f cb t n, upd le t (nI n), he, upd kl t 0, upd tu t 0, upd uy t 0, tl, ul, tm, gc, ga, gp, ss, st, sf, fd, tc, tr, ow, ti, ft, fn, fh, fp, fz, fl, fv, rs, au)) : ∀ d i : Nat, i + d = n → wY_deploy_55 post (nI t) (nI n) q wp tn sl yd nd (d + 1) (nI i) (cp_f co t i) (cp_f ca t i) (cp_f cb t i) le he kl tu uy tl ul tm gc ga gp ss st sf fd tc tr ow ti ft fn fh fp fz fl fv rs au := by
  have et : (nI t).toNatClampNeg = t := nI_clamp (by omega)
  have vt : vp_in (nI t) 4 := vp_in_nI ht (by decide)
  have vt5 : vp_in (nI t) 5 := vp_in_nI (by omega) (by decide)
  intro d
  induction d with
  | zero =>
    intro i hi
    have : i = n := by omega
    subst this
    exact br_t (nI_le (Nat.le_refl _) (by omega)) ⟨vt5, nm_r (by rw [et]) ⟨vt, nm_r (by rw [et, ix_bn0]) ⟨vt, nm_r (by rw [et]) ⟨vt, nm_r (by rw [et]) h⟩⟩⟩⟩
  | succ d ih =>
    intro i hi
    have e1 : 256 + nI i = nI (256 + i) := ix_a 256 rfl i
    have e2 : (nI (256 + i)).toNatClampNeg = 256 + i := nI_clamp (by omega)
    have v1 : vp_in (256 + nI i) 320 := by rw [e1]; exact vp_in_nI (by omega) (by decide)
    have e3 : 64 * nI t + nI i = nI (64 * t + i) := ix_l 64 rfl t i
    have e4 : (nI (64 * t + i)).toNatClampNeg = 64 * t + i := nI_clamp (by omega)
    have v2 : vp_in (64 * nI t + nI i) 320 := by rw [e3]; exact vp_in_nI (by omega) (by decide)
    have es : ∀ g : Nat → Int32, upd (cp_f g t i) (64 * nI t + nI i).toNatClampNeg (cp_f g t i (256 + nI i).toNatClampNeg) = cp_f g t (i + 1) := fun g => by rw [e3, e4, e1, e2]; exact cp_s g ht (by omega)
    exact br_f (nI_ge (by omega) (by omega)) ⟨v1, v2, nm_r (es co) ⟨v1, v2, nm_r (es ca) ⟨v1, v2, nm_r (es cb) (nm_r (nI_1 i) (ih (i + 1) (by omega)))⟩⟩⟩
end
theorem bu_mo {co ca cb co' ca' cb' : Nat → Int32} {b n c i h : Nat} {P Q : Nat → Nat → Prop} (z : bu_ok co ca cb b n c P i h) (hPQ : ∀ i h, P i h → Q i h) (e1 : co' (b + i) = co (b + i)) (e2 : ca' (b + i) = ca (b + i)) (e3 : cb' (b + i) = cb (b + i)) : bu_ok co' ca' cb' b n c Q i h := by
  unfold bu_ok at z ⊢
  rw [e1, e2, e3]
  obtain ⟨z1, z2, o, z3, z4, z5, z6, z7, z8, z9, z10, z11, z12⟩ := z
  exact ⟨z1, z2, o, z3, z4, z5, z6, z7, z8, z9, z10, fun x y w => ⟨(z11 x y w).1, hPQ _ _ (z11 x y w).2⟩, fun x => by
    obtain ⟨j, j1, j2⟩ := z12 x
    exact ⟨j, j1, hPQ _ _ j2⟩⟩
def hn_P (h : Nat → Int32) (n i b : Nat) : Prop := i < n ∧ b < 9 ∧ bt (h i) b = true
/-- a judged bundle is sound at the heights that were found -/
theorem bu_new {co ca cb h : Nat → Int32} {n t : Nat} (hn : n ≤ 64) (h0 : co 256 = 0) (hw : ∀ j, j < n → wf_P co ca cb n j) (hfix : ∀ j, j < n → fi_h co ca h n j = h) (hso : ∀ j, j < n → so_P co ca h n j (op_n co j)) {i b : Nat} (hH : hn_P h n i b) :
    bu_ok (cp_f co t n) (cp_f ca t n) (cp_f cb t n) (64 * t) n (cf_n co 256 n) (hn_P h n) i b := by
  obtain ⟨hi, hb, hbt⟩ := hH
  obtain ⟨ho, eo⟩ := op_e (hw i hi)
  have ht := tg_e hn (hw i hi)
  have wg := (hw i hi).1
  have hfx := hfix i hi
  have pl := po_le (op_n co i) (ca (256 + i))
  have ql := pu_le (op_n co i) (ca (256 + i))
  have ll := la_le co i
  rcases hso i hi with z | ⟨b', b1, b2, b3, b4, b5⟩
  · rw [z, b_0] at hbt
    exact absurd hbt (by decide)
  have eb : b = b' := by
    rw [b2, so_d5 b' b1 b (by omega)] at hbt
    exact of_decide_eq_true hbt
  subst eb
  have hwbit : bt (af_w (h i) (st_po (op_n co i) (ca (256 + i))) (st_pu (op_n co i) (ca (256 + i)))) (b - st_po (op_n co i) (ca (256 + i)) + st_pu (op_n co i) (ca (256 + i))) = true := by
    rw [af_b _ pl ql (by omega), decide_eq_true (by omega), decide_eq_true (by omega), Bool.true_and, Bool.true_and, show st_po (op_n co i) (ca (256 + i)) + (b - st_po (op_n co i) (ca (256 + i)) + st_pu (op_n co i) (ca (256 + i)) - st_pu (op_n co i) (ca (256 + i))) = b by omega]
    exact hbt
  have hdest : ∀ y, ((gs_B (op_n co i) n i && decide (y = i + 1)) || (js_B (op_n co i) && decide (y = tg_n ca i))) = true → bt (h y) (b - st_po (op_n co i) (ca (256 + i)) + st_pu (op_n co i) (ca (256 + i))) = true := by
    intro y hy
    have e := congrArg (fun g => bt (g y) (b - st_po (op_n co i) (ca (256 + i)) + st_pu (op_n co i) (ca (256 + i)))) hfx
    simp only [fi_h, fo_h] at e
    rw [fo_b, hy, hwbit, Bool.true_and, Bool.or_true] at e
    exact e.symm
  have key : bu_ok (cp_f co t n) (cp_f ca t n) (cp_f cb t n) (64 * t) n (cf_n co 256 n) (hn_P h n) i b := by
    unfold bu_ok
    rw [cp_in hi, cp_in hi, cp_in hi]
    refine ⟨hi, by omega, op_n co i, ho, eo, fun z => ?_, fun z => ?_, fun z => ?_, fun z => ?_, b3, b4, fun x y w => ?_, fun z => ?_⟩
    · have g := wg.2.2.1 (by rcases z with z | z <;> rw [eo, z] <;> decide)
      obtain ⟨x, hx, ex⟩ := nI_of g.1
      have g4 := ((hw (la_f co i) (by omega)).1.2.1 (la_0 h0 i)).2
      refine ⟨x, ?_, ex⟩
      have l1 : ca (256 + i) < ca (256 + la_f co i) := Int32.not_le.mp g.2
      have l2 : ca (256 + la_f co i) ≤ 4 := Int32.not_lt.mp g4
      have l3 : nI x < nI 4 := by rw [← ex]; exact Int32.lt_of_lt_of_le l1 l2
      exact (nI_ltI hx (by decide)).mp l3
    · have g := wg.2.2.2.2.1 (by rcases z with z | z | z <;> rw [eo, z] <;> decide)
      obtain ⟨x, hx, ex⟩ := nI_of g.1
      have cl := cf_le co 256 n
      refine ⟨x, ?_, ex⟩
      have l1 : nI x < nI (cf_n co 256 n) := by rw [← ex]; exact Int32.not_le.mp g.2
      exact (nI_ltI hx (by omega)).mp l1
    · have g := wg.2.2.2.2.2.1 (by rw [eo, z]; decide)
      obtain ⟨x, hx, ex⟩ := nI_of g.1
      refine ⟨x, ?_, ex⟩
      have l1 : nI x < nI 4 := by rw [← ex]; exact Int32.not_le.mp g.2
      exact (nI_ltI hx (by decide)).mp l1
    · have g := wg.2.2.2.2.2.2 (by rw [eo, z]; decide)
      obtain ⟨x, hx, ex⟩ := nI_of g.1.1
      obtain ⟨y, hy, ey⟩ := nI_of g.2.1
      have l1 : nI x < nI 4 := by rw [← ex]; exact Int32.not_le.mp g.1.2
      have l2 : nI y < nI 84 := by rw [← ey]; exact Int32.not_le.mp g.2.2
      exact ⟨⟨x, (nI_ltI hx (by decide)).mp l1, ex⟩, ⟨y, (nI_ltI hy (by decide)).mp l2, ey⟩⟩
    · have g := b5 ⟨x, y, w⟩
      refine ⟨g.1, g.1, by omega, hdest (i + 1) ?_⟩
      unfold gs_B
      rw [decide_eq_true (show op_n co i ≠ 12 ∧ op_n co i ≠ 21 ∧ op_n co i ≠ 22 from ⟨x, y, w⟩), decide_eq_true g.1, decide_eq_true rfl]
      rfl
    · have hJ : js_B (op_n co i) = true := by unfold js_B; exact decide_eq_true z
      obtain ⟨q1, q2⟩ := ht hJ
      refine ⟨tg_n ca i, q1, q2, by omega, hdest (tg_n ca i) ?_⟩
      rw [hJ, decide_eq_true rfl, Bool.true_and, Bool.or_true]
  exact key
theorem th_H {H H' : Nat → Nat → Nat → Prop} {ft fn fh fz tc fd : Nat → Int32} {t k : Nat} (hk : k < 6) (hnf : nf_t fd ft t) (hHH : ∀ s i h, s ≠ t → H s i h → H' s i h) (h : th_ok H ft fn fh fz tc fd k) : th_ok H' ft fn fh fz tc fd k := by
  obtain ⟨d, d1, d2, d3, d4⟩ := h
  have fr : ∀ j e, j < d → fr_ok H ft fn fh (6 * k + j) e → fr_ok H' ft fn fh (6 * k + j) e := by
    rintro j e hj ⟨s, i, hh, s1, s2, s3, s4, s5⟩
    refine ⟨s, i, hh, s1, s2, s3, s4, hHH s i _ (fun z => ?_) s5⟩
    subst z
    exact hnf k hk d d1 d2 j hj s2
  refine ⟨d, d1, d2, d3, fun h0 => ?_⟩
  obtain ⟨⟨y1, y2⟩, y3⟩ := d4 h0
  exact ⟨⟨y1, fun j hj => fr j _ (by omega) (y2 j hj)⟩, fr (d - 1) 0 (by omega) y3⟩
end
section
section
variable {q tn sl pc wp yd nd : Int32} {he co ca cb fs fc ts tu ux tl ul tm gc ga gp ss st sf tc tr ow ti fd ft fk fn fh fl fv rs nt le kl uy fp fz au : Nat → Int32}
theorem dp_no {M N : Nat} {H : Nat → Nat → Nat → Prop} {wp' : Int32} {h' : Nat → Int32} (hMN : M ≤ N) (R : rl_R M H q tn sl pc wp yd nd he co ca cb fs fc ts tu ux tl ul tm gc ga gp ss st sf tc tr ow ti fd ft fk fn fh fl fv rs nt le kl uy fp fz au) : rl_R N H q tn sl 0 wp' yd nd h' co ca cb fs fc ts tu ux tl ul tm gc ga gp ss st sf tc tr ow ti fd ft fk fn fh fl fv rs nt (upd le 4 0) kl uy fp fz au := by
  obtain ⟨a1, a2, a3, a4, a5, a6, a7, a8, a9, a10⟩ := R
  refine ⟨a1, a2, ⟨0, by decide, rfl, pk_us⟩, fun t ht => ?_, a5, a6, a7, a8, a9, rl_nU a10 hMN⟩
  obtain ⟨n, c, b1, b2, b⟩ := a4 t ht
  exact ⟨n, c, b1, by rw [pk_un (by omega)]; exact b2, b⟩
theorem dp_ok {M N n t : Nat} {H : Nat → Nat → Nat → Prop} {wp' : Int32} {h' fs' : Nat → Int32} (hMN : M ≤ N) (R : rl_R M H q tn sl pc wp yd nd he co ca cb fs fc ts tu ux tl ul tm gc ga gp ss st sf tc tr ow ti fd ft fk fn fh fl fv rs nt le kl uy fp fz au) (hn : n ≤ 64) (n0 : n ≠ 0) (ht : t < 4) (hnf : nf_t fd ft t) (h0 : co 256 = 0) (hw : ∀ j, j < n → wf_P co ca cb n j) (hbit : ∀ j, j < n → co (256 + j) = 0 → bt (h' j) 0 = true)
    (hfix : ∀ j, j < n → fi_h co ca h' n j = h') (hso : ∀ j, j < n → so_P co ca h' n j (op_n co j)) (hfs : fn_P co fs' fs t n) :
    rl_R N (fun s i b => (s = t ∧ hn_P h' n i b) ∨ (s ≠ t ∧ H s i b)) q tn sl 0 wp' yd nd h' (cp_f co t n) (cp_f ca t n) (cp_f cb t n) fs' (upd fc t (nI (cf_n co 256 n))) (upd ts t 1) (upd tu t 0) (upd ux t 0) tl ul tm gc ga gp ss st sf tc tr ow ti fd ft fk fn fh fl fv rs nt (upd (upd le 4 0) t (nI n)) (upd kl t 0) (upd uy t 0) fp fz au := by
  obtain ⟨a1, a2, a3, a4, a5, a6, a7, a8, a9, a10⟩ := R
  refine ⟨a1, a2, ⟨0, by decide, rfl, by rw [pk_un (by omega), pk_us]; rfl⟩, fun s hs => ?_, a5, a6, fun k hk => ?_, a8, fun s hs => ?_, rl_nU a10 hMN⟩
  · by_cases cs : s = t
    · subst cs
      have mono : ∀ i b, hn_P h' n i b → ((s = s ∧ hn_P h' n i b) ∨ (s ≠ s ∧ H s i b)) := fun i b z => Or.inl ⟨rfl, z⟩
      refine ⟨n, cf_n co 256 n, hn, pk_us, cf_4 n hw, pk_us, (cp_cf n (Nat.le_refl _)).symm, Or.inl pk_us, fun z => absurd z n0, ?_, fun f hf => ?_, fun i hi e => ?_, fun i b hH => ?_⟩
      · rw [pk_us, pk_us, if_neg n0, if_pos rfl]
      · obtain ⟨j, j1, j2, j3, j4⟩ := hfs.1 f hf
        exact ⟨j, j1, j2, by rw [cp_in j1]; exact j3, by rw [cp_cf j (by omega)]; exact j4⟩
      · rw [cp_in hi] at e
        exact mono i 0 ⟨hi, by decide, hbit i hi e⟩
      · have z : hn_P h' n i b := hH.elim (fun x => x.2) (fun x => absurd rfl x.1)
        exact bu_mo (bu_new hn h0 hw hfix hso z) mono rfl rfl rfl
    · obtain ⟨m, c, b1, b2, b3, b4, b5, b6, b7, b8, b9, b10, b11⟩ := a4 s hs
      have g : ∀ (f : Nat → Int32) (i : Nat), i < m → cp_f f t n (64 * s + i) = f (64 * s + i) := fun f i hi => cp_un (by omega)
      have gcf : ∀ j, j ≤ m → cf_n (cp_f co t n) (64 * s) j = cf_n co (64 * s) j := by
        intro j
        induction j with
        | zero => intro _; rfl
        | succ j ih => intro hj; simp only [cf_n]; rw [ih (by omega), g _ _ (by omega)]
      refine ⟨m, c, b1, by rw [pk_un cs, pk_un (by omega)]; exact b2, b3, by rw [pk_un cs]; exact b4, by rw [gcf m (Nat.le_refl _)]; exact b5, by rw [pk_un cs]; exact b6, by rw [pk_un cs]; exact b7, by rw [pk_un cs, pk_un cs]; exact b8, fun f hf => ?_, fun i hi e => ?_, fun i b hH => ?_⟩
      · obtain ⟨i, h1, h2, h3, h4⟩ := b9 f hf
        exact ⟨i, h1, by rw [hfs.2 _ (by omega)]; exact h2, by rw [g _ _ h1]; exact h3, by rw [gcf i (by omega)]; exact h4⟩
      · rw [g _ _ hi] at e
        exact Or.inr ⟨cs, b10 i hi e⟩
      · have z : H s i b := hH.elim (fun x => absurd x.1 cs) (fun x => x.2)
        have z' := b11 i b z
        exact bu_mo z' (fun i b y => Or.inr ⟨cs, y⟩) (g _ _ z'.1) (g _ _ z'.1) (g _ _ z'.1)
  · exact th_H hk hnf (fun s i b hst z => Or.inr ⟨hst, z⟩) (a7 k hk)
  · obtain ⟨u1, u2⟩ := a9 s hs
    by_cases cs : s = t
    · subst cs
      exact ⟨fun z => absurd pk_us z, fun _ => by rw [pk_us, pk_us]⟩
    · refine ⟨fun z1 z2 => ?_, fun z => ?_⟩
      · rw [pk_un cs] at z1
        rw [pk_un cs]
        exact u1 z1 z2
      · rw [pk_un cs] at z
        rw [pk_un cs, pk_un cs]
        exact u2 z
theorem i_vc_deploy {k : Nat} {u : SX} {v : SY} (I : i_Rel k u v) (hk : k + 5 ≤ 2561) (v1 : Int32) : wpX_deploy (fun r u' => wpY_deploy (fun r' v' => r' = r ∧ i_Rel (k + 5) u' v') v v1) u v1 := by
  obtain ⟨H, q, tn, sl, pc, wp, yd, nd, he, co, ca, cb, fs, fc, ts, tu, ux, tl, ul, tm, gc, ga, gp, ss, st, sf, tc, tr, ow, ti, fd, ft, fk, fn, fh, fl, fv, rs, nt, le, kl, uy, fp, fz, au, rfl, rfl, a1, a2, a3, a4, a5, a6, a7, a8, a9, a10⟩ := I
  have n0 : ¬ (1 : Int32) = 0 := by decide
  have fin : ∀ (r : Int32) (u' : SX) (v' : SY), i_Rel (k + 5) u' v' → (∀ post : Int32 → SX → Prop, post r u' → wpX_deploy post (q, tn, sl, pc, wp, he, co, ca, cb, fs, fc, ts, tu, ux, tl, ul, tm, gc, ga, gp, ss, st, sf, tc, tr, ow, ti, fd, ft, fk, fn, fh, fl, fv, rs, nt) v1) → (∀ post : Int32 → SY → Prop, post r v' → wpY_deploy post (q, wp, tn, sl, yd, nd, co, ca, cb, le, he, kl, tu, uy, tl, ul, tm, gc, ga, gp, ss, st, sf, fd, tc, tr, ow, ti, ft, fn, fh, fp, fz, fl, fv, rs, au) v1) →
      wpX_deploy (fun r u' => wpY_deploy (fun r' v' => r' = r ∧ i_Rel (k + 5) u' v') (q, wp, tn, sl, yd, nd, co, ca, cb, le, he, kl, tu, uy, tl, ul, tm, gc, ga, gp, ss, st, sf, fd, tc, tr, ow, ti, ft, fn, fh, fp, fz, fl, fv, rs, au) v1) (q, tn, sl, pc, wp, he, co, ca, cb, fs, fc, ts, tu, ux, tl, ul, tm, gc, ga, gp, ss, st, sf, tc, tr, ow, ti, fd, ft, fk, fn, fh, fl, fv, rs, nt) v1 := fun r u' v' h1 h2 h3 => h2 _ (h3 _ ⟨rfl, h1⟩)
  rcases ten_c v1 with c | ⟨t, ht, rfl⟩
  · refine fin (-1) (q, tn, sl, pc, -1, he, co, ca, cb, fs, fc, ts, tu, ux, tl, ul, tm, gc, ga, gp, ss, st, sf, tc, tr, ow, ti, fd, ft, fk, fn, fh, fl, fv, rs, nt) (q, -1, tn, sl, yd, nd, co, ca, cb, le, he, kl, tu, uy, tl, ul, tm, gc, ga, gp, ss, st, sf, fd, tc, tr, ow, ti, ft, fn, fh, fp, fz, fl, fv, rs, au) (mk_rel ⟨a1, a2, a3, a4, a5, a6, a7, a8, a9, rl_nU a10 (by omega)⟩) (fun post h => ?_) (fun post h => ?_)
    · unfold wpX_deploy; dsimp only
      exact xl_ten0 c (br_t rfl h)
    · unfold wpY_deploy; dsimp only
      exact yl_ten0 c (br_t rfl h)
  have hd := rl_td a7
  obtain ⟨n, hn, hpc, hle⟩ := id a3
  have fl1 := fr_cl fd ft (nI t) 36
  by_cases cf : fr_c fd ft (nI t) 36 = 0
  · have hnf := (fr_nf hd t).mp cf
    obtain ⟨r, wp', h', jx, jy, jr⟩ := jd_all (q := q) (tn := tn) (sl := sl) (pc := pc) (yd := yd) (nd := nd) (he := he) (co := co) (ca := ca) (cb := cb) (fs := fs) (fc := fc) (ts := ts) (tu := tu) (ux := ux) (tl := tl) (ul := ul) (tm := tm) (gc := gc) (ga := ga) (gp := gp) (ss := ss) (st := st) (sf := sf) (tc := tc) (tr := tr) (ow := ow) (ti := ti) (fd := fd) (ft := ft) (fk := fk) (fn := fn) (fh := fh) (fl := fl) (fv := fv) (rs := rs) (nt := nt) (le := le) (kl := kl) (uy := uy) (fp := fp) (fz := fz) (au := au) (wp := -1) hpc hle hn
    by_cases cr : r = 0
    · obtain ⟨m0, h0, hw, hbit, hfix, hso⟩ := jr cr
      subst cr
      obtain ⟨fs', q1, q2⟩ := xn_loop (q := q) (tn := tn) (sl := sl) (pc := pc) (co := co) (ca := ca) (cb := cb) (fc := fc) (ts := ts) (tu := tu) (ux := ux) (tl := tl) (ul := ul) (tm := tm) (gc := gc) (ga := ga) (gp := gp) (ss := ss) (st := st) (sf := sf) (tc := tc) (tr := tr) (ow := ow) (ti := ti) (fd := fd) (ft := ft) (fk := fk) (fn := fn) (fh := fh) (fl := fl) (fv := fv) (rs := rs) (nt := nt) (wp := wp') (he := h') (fs0 := fs) hpc hn ht hw n 0 fs (by omega) ⟨fun f hf => absurd hf (Nat.not_lt_zero f), fun _ _ => rfl⟩
      refine fin 0 (q, tn, sl, 0, wp', h', cp_f co t n, cp_f ca t n, cp_f cb t n, fs', upd fc t (nI (cf_n co 256 n)), upd ts t 1, upd tu t 0, upd ux t 0, tl, ul, tm, gc, ga, gp, ss, st, sf, tc, tr, ow, ti, fd, ft, fk, fn, fh, fl, fv, rs, nt) (q, wp', tn, sl, yd, nd, cp_f co t n, cp_f ca t n, cp_f cb t n, upd (upd le 4 0) t (nI n), h', upd kl t 0, upd tu t 0, upd uy t 0, tl, ul, tm, gc, ga, gp, ss, st, sf, fd, tc, tr, ow, ti, ft, fn, fh, fp, fz, fl, fv, rs, au) (mk_rel (dp_ok (wp := wp) (he := he) (M := 40 * k) (wp' := wp') (by omega) ⟨a1, a2, a3, a4, a5, a6, a7, a8, a9, a10⟩ hn m0 ht hnf h0 hw hbit hfix hso q1)) (fun post h => ?_) (fun post h => ?_)
      · unfold wpX_deploy; dsimp only
        refine xl_ten1 ht (br_f n0 (xl_frames hd ?_))
        rw [cf]
        refine br_t rfl (jx _ (br_t rfl ?_))
        have k2 := q2 (fun u => match u with | (q, tn, sl, pc, wp, he, co, ca, cb, fs, fc, ts, tu, ux, tl, ul, tm, gc, ga, gp, ss, st, sf, tc, tr, ow, ti, fd, ft, fk, fn, fh, fl, fv, rs, nt) => post 0 (q, tn, sl, 0, wp, he, co, ca, cb, fs, fc, ts, tu, ux, tl, ul, tm, gc, ga, gp, ss, st, sf, tc, tr, ow, ti, fd, ft, fk, fn, fh, fl, fv, rs, nt)) h
        rw [cp_0, cp_0, cp_0] at k2
        exact nm_r (ix_m 64 rfl t) ⟨n + 1, k2⟩
      · unfold wpY_deploy; dsimp only
        refine yl_ten1 ht (br_f n0 (yl_frames hd ?_))
        rw [cf]
        have k2 := yn_loop (q := q) (tn := tn) (sl := sl) (yd := yd) (nd := nd) (co := co) (ca := ca) (cb := cb) (kl := kl) (tu := tu) (uy := uy) (tl := tl) (ul := ul) (tm := tm) (gc := gc) (ga := ga) (gp := gp) (ss := ss) (st := st) (sf := sf) (fd := fd) (tc := tc) (tr := tr) (ow := ow) (ti := ti) (ft := ft) (fn := fn) (fh := fh) (fp := fp) (fz := fz) (fl := fl) (fv := fv) (rs := rs) (au := au) (wp := wp') (he := h') (le := upd le 4 0) hn ht (post := post) h n 0 (by omega)
        rw [cp_0, cp_0, cp_0] at k2
        exact br_t (by decide) (jy _ (nm_r hle (nm_e (br_t rfl ⟨n + 1, k2⟩))))
    · refine fin r (q, tn, sl, 0, wp', h', co, ca, cb, fs, fc, ts, tu, ux, tl, ul, tm, gc, ga, gp, ss, st, sf, tc, tr, ow, ti, fd, ft, fk, fn, fh, fl, fv, rs, nt) (q, wp', tn, sl, yd, nd, co, ca, cb, upd le 4 0, h', kl, tu, uy, tl, ul, tm, gc, ga, gp, ss, st, sf, fd, tc, tr, ow, ti, ft, fn, fh, fp, fz, fl, fv, rs, au) (mk_rel (dp_no (wp := wp) (he := he) (pc := pc) (le := le) (M := 40 * k) (wp' := wp') (h' := h') (by omega) ⟨a1, a2, a3, a4, a5, a6, a7, a8, a9, a10⟩)) (fun post h => ?_) (fun post h => ?_)
      · unfold wpX_deploy; dsimp only
        refine xl_ten1 ht (br_f n0 (xl_frames hd ?_))
        rw [cf]
        exact br_t rfl (jx _ (br_f cr h))
      · unfold wpY_deploy; dsimp only
        refine yl_ten1 ht (br_f n0 (yl_frames hd ?_))
        rw [cf]
        exact br_t (by decide) (jy _ (nm_r hle (nm_e (br_f cr h))))
  · refine fin 3 (q, tn, sl, 0, -1, he, co, ca, cb, fs, fc, ts, tu, ux, tl, ul, tm, gc, ga, gp, ss, st, sf, tc, tr, ow, ti, fd, ft, fk, fn, fh, fl, fv, rs, nt) (q, -1, tn, sl, yd, nd, co, ca, cb, upd le 4 0, he, kl, tu, uy, tl, ul, tm, gc, ga, gp, ss, st, sf, fd, tc, tr, ow, ti, ft, fn, fh, fp, fz, fl, fv, rs, au) (mk_rel (dp_no (wp := wp) (he := he) (pc := pc) (le := le) (M := 40 * k) (wp' := -1) (h' := he) (by omega) ⟨a1, a2, a3, a4, a5, a6, a7, a8, a9, a10⟩)) (fun post h => ?_) (fun post h => ?_)
    · unfold wpX_deploy; dsimp only
      exact xl_ten1 ht (br_f n0 (xl_frames hd (br_f (nI_ne0 (by omega) (by omega)) (br_f (by decide) h))))
    · unfold wpY_deploy; dsimp only
      exact yl_ten1 ht (br_f n0 (yl_frames hd (br_f (nI_nle (by omega) (by omega)) (nm_e (nm_e (br_f (by decide) h))))))
end
end
