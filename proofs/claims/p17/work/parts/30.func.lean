/-! The class's rows and the reference's are the same bytes. -/
abbrev Eq16 (f g : Nat → Int32) : Prop := ∀ i, i < 16 → f i = g i
-- ===== closed forms
theorem xorM_at {g f : Nat → Int32} {fr : Nat} : ∀ k i, xorM g fr f k i = if i < k then f i ^^^ g (fr + i) else f i
  | 0, i => by rw [if_neg (Nat.not_lt_zero i)]; rfl
  | k + 1, i => by
    show upd (xorM g fr f k) k (xorM g fr f k k ^^^ g (fr + k)) i = _
    by_cases h : i = k
    · subst h
      rw [pk_us, xorM_at i i, if_neg (Nat.lt_irrefl i), if_pos (Nat.lt_succ_self i)]
    · rw [pk_un h, xorM_at k i]
      by_cases h2 : i < k
      · rw [if_pos h2, if_pos (by omega)]
      · rw [if_neg h2, if_neg (by omega)]
theorem cpM_at {m f : Nat → Int32} : ∀ k i, cpM m f k i = if i < k then m i else f i
  | 0, i => by rw [if_neg (Nat.not_lt_zero i)]; rfl
  | k + 1, i => by
    show upd (cpM m f k) k (m k) i = _
    by_cases h : i = k
    · subst h
      rw [pk_us, if_pos (Nat.lt_succ_self i)]
    · rw [pk_un h, cpM_at k i]
      by_cases h2 : i < k
      · rw [if_pos h2, if_pos (by omega)]
      · rw [if_neg h2, if_neg (by omega)]
theorem fillM_at {x : Int32} {f : Nat → Int32} : ∀ k i, fillM x f k i = if i < k then x else f i
  | 0, i => by rw [if_neg (Nat.not_lt_zero i)]; rfl
  | k + 1, i => by
    show upd (fillM x f k) k x i = _
    by_cases h : i = k
    · subst h
      rw [pk_us, if_pos (Nat.lt_succ_self i)]
    · rw [pk_un h, fillM_at k i]
      by_cases h2 : i < k
      · rw [if_pos h2, if_pos (by omega)]
      · rw [if_neg h2, if_neg (by omega)]
theorem xrM_at {a b f : Nat → Int32} : ∀ k i, xrM a b f k i = if i < k then a i ^^^ b i else f i
  | 0, i => by rw [if_neg (Nat.not_lt_zero i)]; rfl
  | k + 1, i => by
    show upd (xrM a b f k) k (a k ^^^ b k) i = _
    by_cases h : i = k
    · subst h
      rw [pk_us, if_pos (Nat.lt_succ_self i)]
    · rw [pk_un h, xrM_at k i]
      by_cases h2 : i < k
      · rw [if_pos h2, if_pos (by omega)]
      · rw [if_neg h2, if_neg (by omega)]
theorem subM_at {f g : Nat → Int32} : ∀ k i, subM f g k i = if i < k then fS (f (srcM i)).toNatClampNeg else g i
  | 0, i => by rw [if_neg (Nat.not_lt_zero i)]; rfl
  | k + 1, i => by
    show upd (subM f g k) k (fS (f (srcM k)).toNatClampNeg) i = _
    by_cases h : i = k
    · subst h
      rw [pk_us, if_pos (Nat.lt_succ_self i)]
    · rw [pk_un h, subM_at k i]
      by_cases h2 : i < k
      · rw [if_pos h2, if_pos (by omega)]
      · rw [if_neg h2, if_neg (by omega)]
theorem subR_at {s f g : Nat → Int32} : ∀ k i, subR s f g k i = if i < k then s (f (srcR i)).toNatClampNeg else g i
  | 0, i => by rw [if_neg (Nat.not_lt_zero i)]; rfl
  | k + 1, i => by
    show upd (subR s f g k) k (s (f (srcR k)).toNatClampNeg) i = _
    by_cases h : i = k
    · subst h
      rw [pk_us, if_pos (Nat.lt_succ_self i)]
    · rw [pk_un h, subR_at k i]
      by_cases h2 : i < k
      · rw [if_pos h2, if_pos (by omega)]
      · rw [if_neg h2, if_neg (by omega)]
theorem colM_at {a b c d : Int32} {f g : Nat → Int32} : ∀ k i, colM a b c d f g k i = if i < k then tmR (f i) a ^^^ tmR (f (i - i % 4 + (i + 1) % 4)) b ^^^ tmR (f (i - i % 4 + (i + 2) % 4)) c ^^^ tmR (f (i - i % 4 + (i + 3) % 4)) d else g i
  | 0, i => by rw [if_neg (Nat.not_lt_zero i)]; rfl
  | k + 1, i => by
    show upd (colM a b c d f g k) k _ i = _
    by_cases h : i = k
    · subst h
      rw [pk_us, if_pos (Nat.lt_succ_self i)]
    · rw [pk_un h, colM_at k i]
      by_cases h2 : i < k
      · rw [if_pos h2, if_pos (by omega)]
      · rw [if_neg h2, if_neg (by omega)]
theorem cpy16 {f g : Nat → Int32} {i : Nat} (h : i < 16) : va_cpy f g 0 0 16 i = f i := by
  rw [pk_cpy_in (Nat.zero_le _) (by omega)]
  simp
theorem src_eq : ∀ i, i < 16 → srcM i = srcR i := by decide
-- ===== the field
theorem nat_dbl_xor (a b : Nat) : 2 * (a ^^^ b) = 2 * a ^^^ 2 * b := by
  have h := Nat.shiftLeft_xor_distrib (a := a) (b := b) (i := 1)
  simp only [Nat.shiftLeft_eq, Nat.pow_one] at h
  rw [Nat.mul_comm 2 (a ^^^ b), Nat.mul_comm 2 a, Nat.mul_comm 2 b]
  exact h
def twN (a : Nat) : Nat := 2 * a ^^^ 283 * (a / 128)
theorem twM_N : ∀ j, j < 256 → twM (nI j) = nI (twN j) := by decide +kernel
theorem div128_xor {a b : Nat} (ha : a < 256) (hb : b < 256) : (a ^^^ b) / 128 = a / 128 ^^^ b / 128 := by
  have h := Nat.shiftRight_xor_distrib (a := a) (b := b) (i := 7)
  simp only [Nat.shiftRight_eq_div_pow] at h
  exact h
theorem m283 {x y : Nat} (hx : x < 2) (hy : y < 2) : 283 * (x ^^^ y) = 283 * x ^^^ 283 * y := by
  have h1 : x = 0 ∨ x = 1 := by omega
  have h2 : y = 0 ∨ y = 1 := by omega
  rcases h1 with rfl | rfl <;> rcases h2 with rfl | rfl <;> decide
theorem twN_xor {a b : Nat} (ha : a < 256) (hb : b < 256) : twN (a ^^^ b) = twN a ^^^ twN b := by
  unfold twN
  rw [nat_dbl_xor, div128_xor ha hb, m283 (by omega) (by omega)]
  ac_rfl
theorem twM_xor {x y : Int32} (hx : By x) (hy : By y) : twM (x ^^^ y) = twM x ^^^ twM y := by
  obtain ⟨a, ha, rfl⟩ := hx.ex
  obtain ⟨b, hb, rfl⟩ := hy.ex
  rw [nI_xor, twM_N _ (Nat.xor_lt_two_pow (n := 8) ha hb), twM_N _ ha, twM_N _ hb, twN_xor ha hb, nI_xor]
theorem tm_1 {x : Int32} (h : By x) : tmR x 1 = x := by_all (P := fun z => tmR z 1 = z) (by decide +kernel) h
theorem tm_2 {x : Int32} (h : By x) : tmR x 2 = twM x := by_all (P := fun z => tmR z 2 = twM z) (by decide +kernel) h
theorem tm_3 {x : Int32} (h : By x) : tmR x 3 = twM x ^^^ x := by_all (P := fun z => tmR z 3 = twM z ^^^ z) (by decide +kernel) h
theorem tm_9 {x : Int32} (h : By x) : tmR x 9 = twM (twM (twM x)) ^^^ x := by_all (P := fun z => tmR z 9 = twM (twM (twM z)) ^^^ z) (by decide +kernel) h
theorem tm_11 {x : Int32} (h : By x) : tmR x 11 = twM (twM (twM x)) ^^^ twM x ^^^ x := by_all (P := fun z => tmR z 11 = twM (twM (twM z)) ^^^ twM z ^^^ z) (by decide +kernel) h
theorem tm_13 {x : Int32} (h : By x) : tmR x 13 = twM (twM (twM x)) ^^^ twM (twM x) ^^^ x := by_all (P := fun z => tmR z 13 = twM (twM (twM z)) ^^^ twM (twM z) ^^^ z) (by decide +kernel) h
theorem tm_14 {x : Int32} (h : By x) : tmR x 14 = twM (twM (twM x)) ^^^ twM (twM x) ^^^ twM x := by_all (P := fun z => tmR z 14 = twM (twM (twM z)) ^^^ twM (twM z) ^^^ twM z) (by decide +kernel) h
theorem xa (x y z : Int32) : x ^^^ y ^^^ z = x ^^^ (y ^^^ z) := Int32.xor_assoc x y z
theorem xc (x y : Int32) : x ^^^ y = y ^^^ x := Int32.xor_comm x y
theorem xl (x y z : Int32) : x ^^^ (y ^^^ z) = y ^^^ (x ^^^ z) := by rw [← xa, xc x y, xa]
theorem xs0 (x : Int32) : x ^^^ x = 0 := Int32.xor_self
theorem xs1 (x y : Int32) : x ^^^ (x ^^^ y) = y := by rw [← xa, xs0, Int32.zero_xor]
theorem x0r (x : Int32) : x ^^^ 0 = x := Int32.xor_zero
theorem x0l (x : Int32) : 0 ^^^ x = x := Int32.zero_xor
theorem mxE_lin {a b c d : Int32} (ha : By a) (hb : By b) : mxE a b c d = twM a ^^^ (twM b ^^^ b) ^^^ c ^^^ d := by
  unfold mxE
  rw [twM_xor ha hb]
  simp only [xa]
-- ===== mix, four places of it
theorem mixM_at {f : Nat → Int32} : ∀ k i, mixM f k i = if i < 4 * k then mxE (f i) (f (i - i % 4 + (i + 1) % 4)) (f (i - i % 4 + (i + 2) % 4)) (f (i - i % 4 + (i + 3) % 4)) else f i
  | 0, i => by rw [if_neg (by omega)]; rfl
  | k + 1, i => by
    have e0 : mixM f k (4 * k) = f (4 * k) := by rw [mixM_at k, if_neg (by omega)]
    have e1 : mixM f k (4 * k + 1) = f (4 * k + 1) := by rw [mixM_at k, if_neg (by omega)]
    have e2 : mixM f k (4 * k + 2) = f (4 * k + 2) := by rw [mixM_at k, if_neg (by omega)]
    have e3 : mixM f k (4 * k + 3) = f (4 * k + 3) := by rw [mixM_at k, if_neg (by omega)]
    show upd (upd (upd (upd (mixM f k) (4 * k) _) (4 * k + 1) _) (4 * k + 2) _) (4 * k + 3) _ i = _
    rw [e0, e1, e2, e3]
    by_cases h3 : i = 4 * k + 3
    · subst h3
      rw [pk_us, if_pos (by omega), show 4 * k + 3 - (4 * k + 3) % 4 + (4 * k + 3 + 1) % 4 = 4 * k by omega, show 4 * k + 3 - (4 * k + 3) % 4 + (4 * k + 3 + 2) % 4 = 4 * k + 1 by omega, show 4 * k + 3 - (4 * k + 3) % 4 + (4 * k + 3 + 3) % 4 = 4 * k + 2 by omega]
    · rw [pk_un h3]
      by_cases h2 : i = 4 * k + 2
      · subst h2
        rw [pk_us, if_pos (by omega), show 4 * k + 2 - (4 * k + 2) % 4 + (4 * k + 2 + 1) % 4 = 4 * k + 3 by omega, show 4 * k + 2 - (4 * k + 2) % 4 + (4 * k + 2 + 2) % 4 = 4 * k by omega, show 4 * k + 2 - (4 * k + 2) % 4 + (4 * k + 2 + 3) % 4 = 4 * k + 1 by omega]
      · rw [pk_un h2]
        by_cases h1 : i = 4 * k + 1
        · subst h1
          rw [pk_us, if_pos (by omega), show 4 * k + 1 - (4 * k + 1) % 4 + (4 * k + 1 + 1) % 4 = 4 * k + 2 by omega, show 4 * k + 1 - (4 * k + 1) % 4 + (4 * k + 1 + 2) % 4 = 4 * k + 3 by omega, show 4 * k + 1 - (4 * k + 1) % 4 + (4 * k + 1 + 3) % 4 = 4 * k by omega]
        · rw [pk_un h1]
          by_cases h0 : i = 4 * k
          · subst h0
            rw [pk_us, if_pos (by omega), show 4 * k - 4 * k % 4 + (4 * k + 1) % 4 = 4 * k + 1 by omega, show 4 * k - 4 * k % 4 + (4 * k + 2) % 4 = 4 * k + 2 by omega, show 4 * k - 4 * k % 4 + (4 * k + 3) % 4 = 4 * k + 3 by omega]
          · rw [pk_un h0, mixM_at k]
            by_cases hh : i < 4 * k
            · rw [if_pos hh, if_pos (by omega)]
            · rw [if_neg hh, if_neg (by omega)]
theorem mix_col {f g h : Nat → Int32} (hf : ∀ i, i < 16 → By (f i)) : Eq16 (mixW f) (colM 2 3 1 1 f g 16) := by
  intro i hi
  show mixM f 4 i = _
  rw [mixM_at 4 i, colM_at 16 i, if_pos (by omega), if_pos hi, mxE_lin (hf _ (by omega)) (hf _ (by omega)), tm_2 (hf _ (by omega)), tm_3 (hf _ (by omega)), tm_1 (hf _ (by omega)), tm_1 (hf _ (by omega))]
/-- three mixings on four bytes -/
theorem mix3 {a b c d : Int32} (ha : By a) (hb : By b) (hc : By c) (hd : By d) :
    mxE (mxE (mxE a b c d) (mxE b c d a) (mxE c d a b) (mxE d a b c)) (mxE (mxE b c d a) (mxE c d a b) (mxE d a b c) (mxE a b c d)) (mxE (mxE c d a b) (mxE d a b c) (mxE a b c d) (mxE b c d a)) (mxE (mxE d a b c) (mxE a b c d) (mxE b c d a) (mxE c d a b)) = tmR a 14 ^^^ tmR b 11 ^^^ tmR c 13 ^^^ tmR d 9 := by
  have y1 := mxE_by ha hb hc hd
  have y2 := mxE_by hb hc hd ha
  have y3 := mxE_by hc hd ha hb
  have y4 := mxE_by hd ha hb hc
  have ta := twM_by ha
  have tb := twM_by hb
  have tc := twM_by hc
  have td := twM_by hd
  have ua := twM_by ta
  have ub := twM_by tb
  have uc := twM_by tc
  have ud := twM_by td
  have z1 := mxE_by y1 y2 y3 y4
  have z2 := mxE_by y2 y3 y4 y1
  have two : ∀ {a b c d : Int32}, By a → By b → By c → By d → mxE (mxE a b c d) (mxE b c d a) (mxE c d a b) (mxE d a b c) = twM (twM a) ^^^ a ^^^ twM (twM c) := by
    intro a b c d ha hb hc hd
    have ta := twM_by ha
    have tb := twM_by hb
    have tc := twM_by hc
    have td := twM_by hd
    rw [mxE_lin (mxE_by ha hb hc hd) (mxE_by hb hc hd ha), mxE_lin ha hb, mxE_lin hb hc, mxE_lin hc hd, mxE_lin hd ha]
    rw [twM_xor (((ta.xor (tb.xor hb)).xor hc)) hd, twM_xor (ta.xor (tb.xor hb)) hc, twM_xor ta (tb.xor hb), twM_xor tb hb, twM_xor ((tb.xor (tc.xor hc)).xor hd) ha, twM_xor (tb.xor (tc.xor hc)) hd, twM_xor tb (tc.xor hc), twM_xor tc hc]
    simp only [xa, xc, xl, xs0, xs1, x0r, x0l]
  rw [two ha hb hc hd, two hb hc hd ha, two hc hd ha hb, two hd ha hb hc]
  have ha2 : By (twM (twM a) ^^^ a ^^^ twM (twM c)) := (ua.xor ha).xor uc
  have hb2 : By (twM (twM b) ^^^ b ^^^ twM (twM d)) := (ub.xor hb).xor ud
  rw [mxE_lin ha2 hb2, twM_xor (ua.xor ha) uc, twM_xor ua ha, twM_xor (ub.xor hb) ud, twM_xor ub hb, tm_14 ha, tm_11 hb, tm_13 hc, tm_9 hd]
  simp only [xa, xc, xl, xs0, xs1, x0r, x0l]
