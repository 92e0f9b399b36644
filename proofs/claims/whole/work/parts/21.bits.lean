def bt (x : Int32) (i : Nat) : Bool := x.toBitVec.getLsbD i
theorem b_ext {x y : Int32} (h : ∀ i, i < 32 → bt x i = bt y i) : x = y := Int32.toBitVec_inj.mp (BitVec.eq_of_getLsbD_eq (fun i hi => h i hi))
theorem b_or (x y : Int32) (i : Nat) : bt (x ||| y) i = (bt x i || bt y i) := by unfold bt; rw [Int32.toBitVec_or, BitVec.getLsbD_or]
theorem b_and (x y : Int32) (i : Nat) : bt (x &&& y) i = (bt x i && bt y i) := by unfold bt; rw [Int32.toBitVec_and, BitVec.getLsbD_and]
theorem b_xor (x y : Int32) (i : Nat) : bt (x ^^^ y) i = (bt x i ^^ bt y i) := by unfold bt; rw [Int32.toBitVec_xor, BitVec.getLsbD_xor]
theorem b_big {x : Int32} {i : Nat} (h : 32 ≤ i) : bt x i = false := BitVec.getLsbD_of_ge _ _ h
theorem b_m1 : ∀ i, i < 32 → bt (-1) i = true := by decide +kernel
theorem b_0 (i : Nat) : bt 0 i = false := BitVec.getLsbD_zero
theorem s_l : ∀ n, n < 32 → ((nI n &&& 31).toBitVec.smod 32).toNat = n := by decide +kernel
theorem b_shl (n : Nat) (hn : n < 32) (x : Int32) {i : Nat} (hi : i < 32) : bt (x <<< (nI n &&& 31)) i = (decide (n ≤ i) && bt x (i - n)) := by
  unfold bt
  rw [Int32.toBitVec_shiftLeft]
  show (x.toBitVec <<< ((nI n &&& 31).toBitVec.smod 32).toNat).getLsbD i = _
  rw [s_l n hn, BitVec.getLsbD_shiftLeft]
  rcases Nat.lt_or_ge i n with h | h
  · simp [h, Nat.not_le.mpr h]
  · simp [hi, h, Nat.not_lt.mpr h]
theorem b_sshr (n : Nat) (hn : n < 32) (x : Int32) {i : Nat} (hi : i < 32) : bt (x >>> (nI n &&& 31)) i = if n + i < 32 then bt x (n + i) else bt x 31 := by
  unfold bt
  rw [Int32.toBitVec_shiftRight]
  show (x.toBitVec.sshiftRight ((nI n &&& 31).toBitVec.smod 32).toNat).getLsbD i = _
  rw [s_l n hn, BitVec.getLsbD_sshiftRight, BitVec.msb_eq_getLsbD_last]
  simp [hi]
theorem b_1 : ∀ i, i < 32 → bt 1 i = decide (i = 0) := by decide +kernel
theorem b_511 : ∀ i, i < 32 → bt 511 i = decide (i < 9) := by decide +kernel
theorem b_one : ∀ m, m < 32 → ∀ b, b < 32 → bt ((1 : Int32) <<< (nI m &&& 31)) b = decide (b = m) := by decide +kernel
theorem bi_v (x : Int32) {b : Nat} (hb : b < 32) : (x >>> (nI b &&& 31)) &&& 1 = if bt x b = true then 1 else 0 := by
  apply b_ext
  intro i hi
  rw [b_and, b_1 i hi, b_sshr b hb x hi]
  by_cases c : i = 0
  · subst c
    rw [Nat.add_zero, if_pos hb]
    by_cases cx : bt x b = true
    · rw [if_pos cx, cx, b_1 0 (by decide)]; rfl
    · rw [if_neg cx, b_0]
      rw [Bool.not_eq_true] at cx
      rw [cx]; rfl
  · rw [decide_eq_false c, Bool.and_false]
    by_cases cx : bt x b = true
    · rw [if_pos cx, b_1 i hi, decide_eq_false c]
    · rw [if_neg cx, b_0]
theorem bi_0 (x : Int32) {b : Nat} (hb : b < 32) : ((x >>> (nI b &&& 31)) &&& 1 = 0) ↔ bt x b = false := by
  rw [bi_v x hb]
  by_cases c : bt x b = true
  · rw [if_pos c, c]; exact ⟨fun z => absurd z (by decide), fun z => absurd z (by decide)⟩
  · rw [if_neg c]
    rw [Bool.not_eq_true] at c
    exact ⟨fun _ => c, fun _ => rfl⟩
theorem bi_1 (x : Int32) {b : Nat} (hb : b < 32) : ((x >>> (nI b &&& 31)) &&& 1 = 1) ↔ bt x b = true := by
  rw [bi_v x hb]
  by_cases c : bt x b = true
  · rw [if_pos c]; exact ⟨fun _ => c, fun _ => rfl⟩
  · rw [if_neg c]; exact ⟨fun z => absurd z (by decide), fun z => absurd z c⟩
theorem bi_sub (w y : Int32) : (w &&& (y ^^^ (-1)) = 0) ↔ y ||| w = y := by
  constructor
  · intro h
    apply b_ext
    intro i hi
    have e := congrArg (fun z => bt z i) h
    simp only [b_and, b_xor, b_m1 i hi, b_0, Bool.xor_true] at e
    rw [b_or]
    cases hy : bt y i <;> cases hw : bt w i <;> simp_all
  · intro h
    apply b_ext
    intro i hi
    have e := congrArg (fun z => bt z i) h
    simp only [b_or] at e
    rw [b_and, b_xor, b_m1 i hi, b_0]
    cases hy : bt y i <;> cases hw : bt w i <;> simp_all
theorem bi_oa (a b c : Int32) : a ||| b ||| c = a ||| (b ||| c) := b_ext (fun i hi => by simp only [b_or, Bool.or_assoc])
theorem bi_oo (a b c : Int32) : (a ||| b ||| b) ||| c ||| c = a ||| (b ||| c) := b_ext (fun i hi => by simp only [b_or]; cases bt a i <;> cases bt b i <;> cases bt c i <;> rfl)
theorem bi_o0 (a : Int32) : a ||| 0 = a := b_ext (fun i hi => by rw [b_or, b_0, Bool.or_false])
theorem bi_oi (a b : Int32) : a ||| b ||| b = a ||| b := b_ext (fun i hi => by simp only [b_or]; cases bt a i <;> cases bt b i <;> rfl)
/-- nine bits -/
def n9_P (x : Int32) : Prop := ∀ b, 9 ≤ b → b < 32 → bt x b = false
theorem n9_or {x y : Int32} (hx : n9_P x) (hy : n9_P y) : n9_P (x ||| y) := fun b h1 h2 => by rw [b_or, hx b h1 h2, hy b h1 h2]; rfl
theorem n9_s {x : Int32} (h : n9_P x) : ∃ s : Nat, s < 512 ∧ x = nI s := by
  have e : x &&& 511 = x := b_ext (fun i hi => by
    rw [b_and, b_511 i hi]
    by_cases c : i < 9
    · rw [decide_eq_true c, Bool.and_true]
    · rw [h i (by omega) hi, Bool.false_and])
  obtain ⟨j, hj, ej⟩ := pk_andE x (m := 511) 9 (by decide)
  exact ⟨j, hj, by rw [← e]; exact ej⟩
def af_w (x : Int32) (p q : Nat) : Int32 := ((x >>> (nI p &&& 31)) <<< (nI q &&& 31)) &&& 511
theorem af_b (x : Int32) {p q b : Nat} (hp : p ≤ 2) (hq : q ≤ 2) (hb : b < 32) : bt (af_w x p q) b = (decide (b < 9) && (decide (q ≤ b) && bt x (p + (b - q)))) := by
  unfold af_w
  rw [b_and, b_511 b hb, b_shl q (by omega) _ hb]
  by_cases c9 : b < 9
  · rw [b_sshr p (by omega) x (by omega), if_pos (by omega), decide_eq_true c9, Bool.and_true, Bool.true_and]
  · rw [decide_eq_false c9, Bool.and_false, Bool.false_and]
theorem af_9 (x : Int32) {p q : Nat} (hp : p ≤ 2) (hq : q ≤ 2) : n9_P (af_w x p q) := fun b h1 h2 => by
  rw [af_b x hp hq h2, decide_eq_false (by omega), Bool.false_and]
def fw_w (x : Int32) (p q : Nat) : Nat → Int32
  | 0 => 0
  | h + 1 => if bt x h = true ∧ p ≤ h ∧ h - p + q ≤ 8 then fw_w x p q h ||| ((1 : Int32) <<< (nI (h - p + q) &&& 31)) else fw_w x p q h
theorem fw_b (x : Int32) {p q : Nat} (hp : p ≤ 2) (hq : q ≤ 2) : ∀ h, h ≤ 9 → ∀ b, b < 32 → bt (fw_w x p q h) b = (decide (q ≤ b ∧ b < 9 ∧ p + (b - q) < h) && bt x (p + (b - q))) := by
  intro h
  induction h with
  | zero =>
    intro _ b hb
    rw [fw_w, b_0, decide_eq_false (by omega), Bool.false_and]
  | succ h ih =>
    intro hh b hb
    have e := ih (by omega) b hb
    rw [fw_w]
    by_cases c : bt x h = true ∧ p ≤ h ∧ h - p + q ≤ 8
    · rw [if_pos c, b_or, e, b_one (h - p + q) (by omega) b hb]
      by_cases cb : b = h - p + q
      · rw [decide_eq_true cb, Bool.or_true, show p + (b - q) = h by omega, c.1, decide_eq_true (by omega)]; rfl
      · rw [decide_eq_false cb, Bool.or_false]
        by_cases c2 : q ≤ b ∧ b < 9 ∧ p + (b - q) < h
        · rw [decide_eq_true c2, decide_eq_true (by omega)]
        · rw [decide_eq_false c2, decide_eq_false (by omega)]
    · rw [if_neg c, e]
      by_cases c2 : q ≤ b ∧ b < 9 ∧ p + (b - q) < h
      · rw [decide_eq_true c2, decide_eq_true (by omega)]
      · rw [decide_eq_false c2, Bool.false_and]
        by_cases c3 : q ≤ b ∧ b < 9 ∧ p + (b - q) < h + 1
        · have e1 : p + (b - q) = h := by omega
          rw [decide_eq_true c3, e1, Bool.true_and]
          cases hx : bt x h with
          | false => rfl
          | true => exact absurd ⟨hx, by omega, by omega⟩ c
        · rw [decide_eq_false c3, Bool.false_and]
theorem fw_9 {x : Int32} (hx : n9_P x) {p q : Nat} (hp : p ≤ 2) (hq : q ≤ 2) : fw_w x p q 9 = af_w x p q := by
  apply b_ext
  intro b hb
  rw [fw_b x hp hq 9 (Nat.le_refl _) b hb, af_b x hp hq hb]
  by_cases c9 : b < 9
  · by_cases cq : q ≤ b
    · rw [decide_eq_true c9, decide_eq_true cq, Bool.true_and, Bool.true_and]
      by_cases c : p + (b - q) < 9
      · rw [decide_eq_true ⟨cq, c9, c⟩, Bool.true_and]
      · rw [decide_eq_false (fun z => c z.2.2), Bool.false_and, hx _ (by omega) (by omega)]
    · rw [decide_eq_false (fun z => cq z.1), decide_eq_false cq]; simp
  · rw [decide_eq_false (fun z => c9 z.2.1), decide_eq_false c9, Bool.false_and, Bool.false_and]
def ct_b (f : Nat → Bool) : Nat → Nat
  | 0 => 0
  | n + 1 => ct_b f n + (if f n = true then 1 else 0)
theorem ct_le (f : Nat → Bool) : ∀ n, ct_b f n ≤ n
  | 0 => Nat.le_refl 0
  | n + 1 => by
    have := ct_le f n
    simp only [ct_b]
    split <;> omega
theorem ct_mono {f g : Nat → Bool} : ∀ {n : Nat}, (∀ z, z < n → f z = true → g z = true) → ct_b f n ≤ ct_b g n
  | 0, _ => Nat.le_refl 0
  | n + 1, h => by
    have a := ct_mono (f := f) (g := g) (n := n) (fun z hz => h z (by omega))
    have b := h n (by omega)
    simp only [ct_b]
    by_cases c : f n = true
    · rw [if_pos c, if_pos (b c)]; omega
    · rw [if_neg c]; omega
theorem ct_lt {f g : Nat → Bool} {a : Nat} (ha : f a = false) (hb : g a = true) : ∀ {n : Nat}, (∀ z, z < n → f z = true → g z = true) → a < n → ct_b f n < ct_b g n
  | 0, _, h => by omega
  | n + 1, h, hn => by
    have b := h n (by omega)
    simp only [ct_b]
    by_cases c : a = n
    · subst c
      have := ct_mono (f := f) (g := g) (n := a) (fun z hz => h z (by omega))
      rw [ha, hb, if_pos rfl, if_neg (by decide)]; omega
    · have := ct_lt ha hb (n := n) (fun z hz => h z (by omega)) (by omega)
      by_cases cf : f n = true
      · rw [if_pos cf, if_pos (b cf)]; omega
      · rw [if_neg cf]; omega
def mu_h (he : Nat → Int32) (n : Nat) : Nat := ct_b (fun z => bt (he (z / 9)) (z % 9)) (9 * n)
theorem mu_le (he : Nat → Int32) (n : Nat) : mu_h he n ≤ 9 * n := ct_le _ _
def mo_P (he he' : Nat → Int32) (n : Nat) : Prop := ∀ y, y < n → ∀ b, bt (he y) b = true → bt (he' y) b = true
theorem mu_mono {he he' : Nat → Int32} {n : Nat} (h : mo_P he he' n) : mu_h he n ≤ mu_h he' n := ct_mono (fun z hz e => h (z / 9) (by omega) (z % 9) e)
theorem mu_lt {he he' : Nat → Int32} {n y b : Nat} (h : mo_P he he' n) (hy : y < n) (hb : b < 9) (h0 : bt (he y) b = false) (h1 : bt (he' y) b = true) : mu_h he n < mu_h he' n := by
  refine ct_lt (a := 9 * y + b) ?_ ?_ (fun z hz e => h (z / 9) (by omega) (z % 9) e) (by omega)
  · show bt (he ((9 * y + b) / 9)) ((9 * y + b) % 9) = false
    rw [show (9 * y + b) / 9 = y by omega, show (9 * y + b) % 9 = b by omega]
    exact h0
  · show bt (he' ((9 * y + b) / 9)) ((9 * y + b) % 9) = true
    rw [show (9 * y + b) / 9 = y by omega, show (9 * y + b) % 9 = b by omega]
    exact h1
theorem mo_ad (he : Nat → Int32) (n y : Nat) (w : Int32) : mo_P he (upd he y (he y ||| w)) n := by
  intro z hz b e
  by_cases c : z = y
  · subst c; rw [pk_us, b_or, e]; rfl
  · rw [pk_un c]; exact e
theorem mo_tr {a b c : Nat → Int32} {n : Nat} (h1 : mo_P a b n) (h2 : mo_P b c n) : mo_P a c n := fun y hy z e => h2 y hy z (h1 y hy z e)
/-- adding w at y: nothing new, or the measure grows -/
theorem ad_c {he : Nat → Int32} {n y : Nat} {w : Int32} (hy : y < n) (hw : n9_P w) : (he y ||| w = he y ∧ upd he y (he y ||| w) = he) ∨ (¬ he y ||| w = he y ∧ mu_h he n < mu_h (upd he y (he y ||| w)) n) := by
  by_cases c : he y ||| w = he y
  · refine Or.inl ⟨c, ?_⟩
    rw [c, ix_self]
  · refine Or.inr ⟨c, ?_⟩
    have hx : ∃ b, b < 32 ∧ ¬ (bt (he y ||| w) b = bt (he y) b) := Classical.byContradiction (fun z => c (b_ext (fun i hi => Classical.byContradiction (fun y => z ⟨i, hi, y⟩))))
    obtain ⟨b, hb, hn⟩ := hx
    rw [b_or] at hn
    have h0 : bt (he y) b = false := by
      cases h : bt (he y) b with
      | false => rfl
      | true => rw [h] at hn; exact absurd rfl hn
    have h1 : bt w b = true := by
      cases h : bt w b with
      | true => rfl
      | false => rw [h, h0] at hn; exact absurd rfl hn
    have h9 : b < 9 := Nat.lt_of_not_le (fun z => by rw [hw b z hb] at h1; exact absurd h1 (by decide))
    refine mu_lt (mo_ad he n y w) hy h9 h0 ?_
    rw [pk_us, b_or, h1, Bool.or_true]
