/-! Bytes and small numbers. -/
def By (x : Int32) : Prop := x = nI x.toNatClampNeg ∧ x.toNatClampNeg < 256
theorem By.of {j : Nat} (h : j < 256) : By (nI j) := by
  unfold By
  rw [nI_clamp (by omega)]
  exact ⟨rfl, h⟩
theorem By.ex {x : Int32} (h : By x) : ∃ j : Nat, j < 256 ∧ x = nI j := ⟨_, h.2, h.1⟩
theorem by_all {P : Int32 → Prop} (h : ∀ j : Nat, j < 256 → P (nI j)) {x : Int32} (hx : By x) : P x := by
  rw [hx.1]
  exact h _ hx.2
theorem nI_xor (a b : Nat) : nI a ^^^ nI b = nI (a ^^^ b) := by
  apply Int32.toBitVec_inj.mp
  show BitVec.ofNat 32 a ^^^ BitVec.ofNat 32 b = BitVec.ofNat 32 (a ^^^ b)
  rw [BitVec.ofNat_xor]
theorem By.xor {x y : Int32} (hx : By x) (hy : By y) : By (x ^^^ y) := by
  rw [hx.1, hy.1, nI_xor]
  exact By.of (Nat.xor_lt_two_pow (n := 8) hx.2 hy.2)
theorem By.upd {f : Nat → Int32} {n k : Nat} {x : Int32} (hf : ∀ i, i < n → By (f i)) (hx : By x) : ∀ i, i < n → By (upd f k x i) := by
  intro i hi
  by_cases h : i = k
  · rw [h, pk_us]; exact hx
  · rw [pk_un h]; exact hf i hi
theorem By.cpy {f g : Nat → Int32} {n0 n1 N : Nat} (hN : N ≤ n0) (hf : ∀ i, i < n0 → By (f i)) (hg : ∀ i, i < n1 → By (g i)) : ∀ i, i < n1 → By (va_cpy f g 0 0 N i) := by
  intro i hi
  by_cases h : i < N
  · rw [pk_cpy_in (Nat.zero_le _) (by omega)]; exact hf _ (by omega)
  · rw [pk_cpy_out (by omega)]; exact hg i hi
theorem by0 {n : Nat} : ∀ i, i < n → By ((fun _ : Nat => (0 : Int32)) i) := fun _ _ => By.of (j := 0) (by decide)
theorem na_add {x y : Int32} {a b : Nat} (hx : x = nI a) (hy : y = nI b) : x + y = nI (a + b) := by rw [hx, hy, nI_add]
theorem na_sub {x y : Int32} {a b : Nat} (hx : x = nI a) (hy : y = nI b) (h : b ≤ a) : x - y = nI (a - b) := by rw [hx, hy, pk_sub h]
theorem na_mul {x y : Int32} {a b : Nat} (hx : x = nI a) (hy : y = nI b) : x * y = nI (a * b) := by rw [hx, hy, pk_mul]
theorem na_rem {x y : Int32} {a b : Nat} (hx : x = nI a) (hy : y = nI b) (ha : a < 2 ^ 31) (h0 : 0 < b) (hb : b < 2 ^ 31) : x - x / y * y = nI (a % b) := by rw [hx, hy, pk_rem ha h0 hb]
theorem na_div {x y : Int32} {a b : Nat} (hx : x = nI a) (hy : y = nI b) (ha : a < 2 ^ 31) (h0 : 0 < b) (hb : b < 2 ^ 31) : x / y = nI (a / b) := by rw [hx, hy, pk_div ha h0 hb]
theorem ii_1 (i : Nat) : nI i + Int32.ofInt 1 = nI (i + 1) := nI_1 i
theorem ii_n (d i : Nat) (hd : Int32.ofInt (d : Int) = nI d) : nI i + Int32.ofInt (d : Int) = nI (i + d) := by rw [hd, nI_add]
theorem ge_t {a b : Nat} (h : nI b ≤ nI a) (ha : a < 2 ^ 31) (hb : b < 2 ^ 31) : b ≤ a := (nI_leI hb ha).mp h
theorem ge_f {a b : Nat} (h : ¬ nI b ≤ nI a) (ha : a < 2 ^ 31) (hb : b < 2 ^ 31) : a < b := Nat.not_le.mp (fun q => h ((nI_leI hb ha).mpr q))
theorem lt_t {a b : Nat} (h : nI a < nI b) (ha : a < 2 ^ 31) (hb : b < 2 ^ 31) : a < b := (nI_ltI ha hb).mp h
theorem lt_f {a b : Nat} (h : ¬ nI a < nI b) (ha : a < 2 ^ 31) (hb : b < 2 ^ 31) : b ≤ a := Nat.not_lt.mp (fun q => h ((nI_ltI ha hb).mpr q))
theorem fS_by : ∀ j, j < 256 → By (fS j) := by
  have h : ∀ j : Nat, j < 256 → (fS j = nI (fS j).toNatClampNeg ∧ (fS j).toNatClampNeg < 256) := by decide +kernel
  exact h
theorem fU_by : ∀ j, j < 256 → By (fU j) := by
  have h : ∀ j : Nat, j < 256 → (fU j = nI (fU j).toNatClampNeg ∧ (fU j).toNatClampNeg < 256) := by decide +kernel
  exact h
/-! What the class's methods do to their arrays, place by place as the code does it. -/
/-- xor: sixteen places of f with those of g from fr on -/
def xorM (g : Nat → Int32) (fr : Nat) (f : Nat → Int32) : Nat → Nat → Int32
  | 0 => f
  | i + 1 => upd (xorM g fr f i) i (xorM g fr f i i ^^^ g (fr + i))
theorem xorM_by {g f : Nat → Int32} {fr n : Nat} (hg : ∀ i, i < n → By (g i)) (hf : ∀ i, i < 16 → By (f i)) : ∀ k, k ≤ 16 → fr + k ≤ n → ∀ i, i < 16 → By (xorM g fr f k i)
  | 0, _, _ => hf
  | k + 1, h1, h2 => By.upd (xorM_by hg hf k (by omega) (by omega)) ((xorM_by hg hf k (by omega) (by omega) k (by omega)).xor (hg _ (by omega)))
def plainM (a : Nat) (f : Nat → Int32) : Nat → Nat → Int32
  | 0 => f
  | r + 1 => upd (plainM a f r) (a + r) (plainM a f r (a - 16 + r) ^^^ plainM a f r (a - 4 + r))
theorem plainM_by {a : Nat} {f : Nat → Int32} {n : Nat} (ha : a + 4 ≤ n) (hf : ∀ i, i < n → By (f i)) : ∀ k, k ≤ 4 → ∀ i, i < n → By (plainM a f k i)
  | 0, _ => hf
  | k + 1, h => By.upd (plainM_by ha hf k (by omega)) ((plainM_by ha hf k (by omega) _ (by omega)).xor (plainM_by ha hf k (by omega) _ (by omega)))
def turnM (a : Nat) (f : Nat → Int32) : Nat → Nat → Int32
  | 0 => f
  | r + 1 => upd (turnM a f r) (a + r) (turnM a f r (a - 16 + r) ^^^ fS (turnM a f r (a - 4 + (r + 1) % 4)).toNatClampNeg)
theorem turnM_by {a : Nat} {f : Nat → Int32} {n : Nat} (ha : a + 4 ≤ n) (ha4 : 4 ≤ a) (hf : ∀ i, i < n → By (f i)) : ∀ k, k ≤ 4 → ∀ i, i < n → By (turnM a f k i)
  | 0, _ => hf
  | k + 1, h => By.upd (turnM_by ha ha4 hf k (by omega)) ((turnM_by ha ha4 hf k (by omega) _ (by omega)).xor (fS_by _ (turnM_by ha ha4 hf k (by omega) _ (by omega)).2))
def turnW (a : Nat) (pw : Int32) (f : Nat → Int32) : Nat → Int32 := upd (turnM a f 4) a (turnM a f 4 a ^^^ pw)
def twM (a : Int32) : Int32 := if 128 ≤ a then (a <<< ((1 : Int32) &&& 31)) ^^^ 283 else a <<< ((1 : Int32) &&& 31)
theorem twM_by {x : Int32} (h : By x) : By (twM x) := by
  have k : ∀ j : Nat, j < 256 → (twM (nI j) = nI (twM (nI j)).toNatClampNeg ∧ (twM (nI j)).toNatClampNeg < 256) := by decide +kernel
  exact by_all (P := fun z => By (twM z)) k h
/-- the words: 4 j places more, and the next power -/
def wordM (f : Nat → Int32) : Nat → (Nat → Int32) × Int32
  | 0 => (f, 1)
  | j + 1 => if (16 + 4 * j) % 16 = 0 then (turnW (16 + 4 * j) (wordM f j).2 (wordM f j).1, twM (wordM f j).2) else (plainM (16 + 4 * j) (wordM f j).1 4, (wordM f j).2)
theorem wordM_by {f : Nat → Int32} (hf : ∀ i, i < 176 → By (f i)) : ∀ j, j ≤ 40 → (∀ i, i < 176 → By ((wordM f j).1 i)) ∧ By (wordM f j).2
  | 0, _ => ⟨hf, By.of (j := 1) (by decide)⟩
  | j + 1, h => by
    obtain ⟨h1, h2⟩ := wordM_by hf j (by omega)
    unfold wordM
    split
    · exact ⟨By.upd (turnM_by (by omega) (by omega) h1 4 (by decide)) ((turnM_by (by omega) (by omega) h1 4 (by decide) _ (by omega)).xor h2), twM_by h2⟩
    · exact ⟨plainM_by (by omega) h1 4 (by decide), h2⟩
def foldM (f : Nat → Int32) : Int32 := if f 0 < 128 then 0 else 135
def dblE (x y : Int32) : Int32 := (x <<< ((1 : Int32) &&& 31) &&& 255) ||| y >>> ((7 : Int32) &&& 31)
theorem and255_by (x : Int32) : By (x &&& 255) := by
  obtain ⟨j, hj, e⟩ := pk_andE x (m := 255) 8 (by decide)
  rw [e]
  exact By.of hj
theorem nI_or (a b : Nat) : nI a ||| nI b = nI (a ||| b) := by
  apply Int32.toBitVec_inj.mp
  show BitVec.ofNat 32 a ||| BitVec.ofNat 32 b = BitVec.ofNat 32 (a ||| b)
  rw [BitVec.ofNat_or]
theorem By.or {x y : Int32} (hx : By x) (hy : By y) : By (x ||| y) := by
  rw [hx.1, hy.1, nI_or]
  exact By.of (Nat.or_lt_two_pow (n := 8) hx.2 hy.2)
theorem dblE_by {x y : Int32} (hy : By y) : By (dblE x y) := by
  refine (and255_by _).or ?_
  have k : ∀ j : Nat, j < 256 → ((nI j >>> ((7 : Int32) &&& 31)) = nI (nI j >>> ((7 : Int32) &&& 31)).toNatClampNeg ∧ (nI j >>> ((7 : Int32) &&& 31)).toNatClampNeg < 256) := by decide +kernel
  exact by_all (P := fun z => By (z >>> ((7 : Int32) &&& 31))) k hy
/-- doubled into another row -/
def dblM (f : Nat → Int32) (g : Nat → Int32) : Nat → Nat → Int32
  | 0 => g
  | i + 1 => upd (dblM f g i) i (dblE (f i) (f (i + 1)))
def dblW (f g : Nat → Int32) : Nat → Int32 := upd (dblM f g 15) 15 ((f 15 <<< ((1 : Int32) &&& 31) &&& 255) ^^^ foldM f)
/-- doubled into itself -/
def dblS (f : Nat → Int32) : Nat → Nat → Int32
  | 0 => f
  | i + 1 => upd (dblS f i) i (dblE (dblS f i i) (dblS f i (i + 1)))
def dblA (f : Nat → Int32) : Nat → Int32 := upd (dblS f 15) 15 ((dblS f 15 15 <<< ((1 : Int32) &&& 31) &&& 255) ^^^ foldM f)
theorem foldM_by (f : Nat → Int32) : By (foldM f) := by
  unfold foldM
  split
  · exact By.of (j := 0) (by decide)
  · exact By.of (j := 135) (by decide)
theorem dblM_by {f g : Nat → Int32} (hf : ∀ i, i < 16 → By (f i)) (hg : ∀ i, i < 16 → By (g i)) : ∀ k, k ≤ 15 → ∀ i, i < 16 → By (dblM f g k i)
  | 0, _ => hg
  | k + 1, h => By.upd (dblM_by hf hg k (by omega)) (dblE_by (hf _ (by omega)))
theorem dblW_by {f g : Nat → Int32} (hf : ∀ i, i < 16 → By (f i)) (hg : ∀ i, i < 16 → By (g i)) : ∀ i, i < 16 → By (dblW f g i) := By.upd (dblM_by hf hg 15 (by decide)) ((and255_by _).xor (foldM_by f))
theorem dblS_by {f : Nat → Int32} (hf : ∀ i, i < 16 → By (f i)) : ∀ k, k ≤ 15 → ∀ i, i < 16 → By (dblS f k i)
  | 0, _ => hf
  | k + 1, h => By.upd (dblS_by hf k (by omega)) (dblE_by (dblS_by hf k (by omega) _ (by omega)))
theorem dblA_by {f : Nat → Int32} (hf : ∀ i, i < 16 → By (f i)) : ∀ i, i < 16 → By (dblA f i) := By.upd (dblS_by hf 15 (by decide)) ((and255_by _).xor (foldM_by f))
def srcM (i : Nat) : Nat := (i + 4 * (i % 4)) % 16
theorem srcM_lt (i : Nat) : srcM i < 16 := Nat.mod_lt _ (by decide)
/-- replaceAndMove's row of moved bytes -/
def subM (f g : Nat → Int32) : Nat → Nat → Int32
  | 0 => g
  | i + 1 => upd (subM f g i) i (fS (f (srcM i)).toNatClampNeg)
theorem subM_by {f g : Nat → Int32} (hf : ∀ i, i < 16 → By (f i)) (hg : ∀ i, i < 16 → By (g i)) : ∀ k, k ≤ 16 → ∀ i, i < 16 → By (subM f g k i)
  | 0, _ => hg
  | k + 1, h => By.upd (subM_by hf hg k (by omega)) (fS_by _ (hf _ (Nat.mod_lt _ (by decide))).2)
def unsM (f g : Nat → Int32) : Nat → Nat → Int32
  | 0 => g
  | i + 1 => upd (unsM f g i) (srcM i) (fU (f i).toNatClampNeg)
theorem unsM_by {f g : Nat → Int32} (hf : ∀ i, i < 16 → By (f i)) (hg : ∀ i, i < 16 → By (g i)) : ∀ k, k ≤ 16 → ∀ i, i < 16 → By (unsM f g k i)
  | 0, _ => hg
  | k + 1, h => By.upd (unsM_by hf hg k (by omega)) (fU_by _ (hf _ (by omega)).2)
def mxE (a b c d : Int32) : Int32 := twM (a ^^^ b) ^^^ b ^^^ c ^^^ d
theorem mxE_by {a b c d : Int32} (ha : By a) (hb : By b) (hc : By c) (hd : By d) : By (mxE a b c d) := ((twM_by (ha.xor hb)).xor hb |>.xor hc).xor hd
/-- mix: four places at a time -/
def mixM (f : Nat → Int32) : Nat → Nat → Int32
  | 0 => f
  | q + 1 => upd (upd (upd (upd (mixM f q) (4 * q) (mxE (mixM f q (4 * q)) (mixM f q (4 * q + 1)) (mixM f q (4 * q + 2)) (mixM f q (4 * q + 3)))) (4 * q + 1) (mxE (mixM f q (4 * q + 1)) (mixM f q (4 * q + 2)) (mixM f q (4 * q + 3)) (mixM f q (4 * q)))) (4 * q + 2) (mxE (mixM f q (4 * q + 2)) (mixM f q (4 * q + 3)) (mixM f q (4 * q)) (mixM f q (4 * q + 1)))) (4 * q + 3) (mxE (mixM f q (4 * q + 3)) (mixM f q (4 * q)) (mixM f q (4 * q + 1)) (mixM f q (4 * q + 2)))
theorem mixM_by {f : Nat → Int32} (hf : ∀ i, i < 16 → By (f i)) : ∀ k, k ≤ 4 → ∀ i, i < 16 → By (mixM f k i)
  | 0, _ => hf
  | k + 1, h => by
    have h0 := mixM_by hf k (by omega)
    have a0 := h0 (4 * k) (by omega)
    have a1 := h0 (4 * k + 1) (by omega)
    have a2 := h0 (4 * k + 2) (by omega)
    have a3 := h0 (4 * k + 3) (by omega)
    exact By.upd (By.upd (By.upd (By.upd h0 (mxE_by a0 a1 a2 a3)) (mxE_by a1 a2 a3 a0)) (mxE_by a2 a3 a0 a1)) (mxE_by a3 a0 a1 a2)
abbrev mixW (f : Nat → Int32) : Nat → Int32 := mixM f 4
/-- forth: (the block, the moved row) after k rounds -/
def forM (w : Nat → Int32) (f g : Nat → Int32) : Nat → (Nat → Int32) × (Nat → Int32)
  | 0 => (xorM w 0 f 16, g)
  | k + 1 => (xorM w (16 * (k + 1)) (if k + 1 < 10 then mixW (va_cpy (subM (forM w f g k).1 (forM w f g k).2 16) (forM w f g k).1 0 0 16) else va_cpy (subM (forM w f g k).1 (forM w f g k).2 16) (forM w f g k).1 0 0 16) 16, subM (forM w f g k).1 (forM w f g k).2 16)
theorem forM_by {w f g : Nat → Int32} (hw : ∀ i, i < 176 → By (w i)) (hf : ∀ i, i < 16 → By (f i)) (hg : ∀ i, i < 16 → By (g i)) : ∀ k, k ≤ 10 → (∀ i, i < 16 → By ((forM w f g k).1 i)) ∧ ∀ i, i < 16 → By ((forM w f g k).2 i)
  | 0, _ => ⟨xorM_by hw hf 16 (by decide) (by decide), hg⟩
  | k + 1, h => by
    obtain ⟨h1, h2⟩ := forM_by hw hf hg k (by omega)
    have h3 := subM_by h1 h2 16 (by decide)
    have h4 := By.cpy (N := 16) (by decide) h3 h1
    unfold forM
    refine ⟨xorM_by hw ?_ 16 (by decide) (by omega), h3⟩
    split
    · exact mixM_by h4 4 (by decide)
    · exact h4
/-- back: after j rounds from the last -/
def bckM (w : Nat → Int32) (f g : Nat → Int32) : Nat → (Nat → Int32) × (Nat → Int32)
  | 0 => (f, g)
  | j + 1 => (va_cpy (unsM (if 10 - j < 10 then mixW (mixW (mixW (xorM w (16 * (10 - j)) (bckM w f g j).1 16))) else xorM w (16 * (10 - j)) (bckM w f g j).1 16) (bckM w f g j).2 16) (if 10 - j < 10 then mixW (mixW (mixW (xorM w (16 * (10 - j)) (bckM w f g j).1 16))) else xorM w (16 * (10 - j)) (bckM w f g j).1 16) 0 0 16, unsM (if 10 - j < 10 then mixW (mixW (mixW (xorM w (16 * (10 - j)) (bckM w f g j).1 16))) else xorM w (16 * (10 - j)) (bckM w f g j).1 16) (bckM w f g j).2 16)
def bckW (w f g : Nat → Int32) : Nat → Int32 := xorM w 0 (bckM w f g 10).1 16
theorem bckM_by {w f g : Nat → Int32} (hw : ∀ i, i < 176 → By (w i)) (hf : ∀ i, i < 16 → By (f i)) (hg : ∀ i, i < 16 → By (g i)) : ∀ k, k ≤ 10 → (∀ i, i < 16 → By ((bckM w f g k).1 i)) ∧ ∀ i, i < 16 → By ((bckM w f g k).2 i)
  | 0, _ => ⟨hf, hg⟩
  | k + 1, h => by
    obtain ⟨h1, h2⟩ := bckM_by hw hf hg k (by omega)
    have h3 := xorM_by (fr := 16 * (10 - k)) hw h1 16 (by decide) (by omega)
    have h4 : ∀ i, i < 16 → By ((if 10 - k < 10 then mixW (mixW (mixW (xorM w (16 * (10 - k)) (bckM w f g k).1 16))) else xorM w (16 * (10 - k)) (bckM w f g k).1 16) i) := by
      split
      · exact mixM_by (mixM_by (mixM_by h3 4 (by decide)) 4 (by decide)) 4 (by decide)
      · exact h3
    have h5 := unsM_by h4 h2 16 (by decide)
    unfold bckM
    exact ⟨By.cpy (N := 16) (by decide) h5 h4, h5⟩
theorem bckW_by {w f g : Nat → Int32} (hw : ∀ i, i < 176 → By (w i)) (hf : ∀ i, i < 16 → By (f i)) (hg : ∀ i, i < 16 → By (g i)) : ∀ i, i < 16 → By (bckW w f g i) := xorM_by hw (bckM_by hw hf hg 10 (by decide)).1 16 (by decide) (by decide)
