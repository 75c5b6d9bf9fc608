theorem tm2 {x : Int32} (h : By x) : By (if 128 ≤ x then (2 * x - 256) ^^^ 27 else 2 * x) := by
  have k : ∀ j : Nat, j < 256 → ((if 128 ≤ nI j then (2 * nI j - 256) ^^^ 27 else 2 * nI j) = nI (if 128 ≤ nI j then (2 * nI j - 256) ^^^ 27 else 2 * nI j).toNatClampNeg ∧ (if 128 ≤ nI j then (2 * nI j - 256) ^^^ 27 else 2 * nI j).toNatClampNeg < 256) := by decide +kernel
  exact by_all (P := fun z => By (if 128 ≤ z then (2 * z - 256) ^^^ 27 else 2 * z)) k h
theorem tmM_by {a : Int32} (b : Int32) (ha : By a) : ∀ k, By (tmM a b k).1 ∧ By (tmM a b k).2
  | 0 => ⟨by_0, ha⟩
  | k + 1 => by
    obtain ⟨h1, h2⟩ := tmM_by b ha k
    refine ⟨?_, tm2 h2⟩
    show By (if (b >>> (nI k &&& 31)) &&& 1 = 1 then (tmM a b k).1 ^^^ (tmM a b k).2 else (tmM a b k).1)
    split
    · exact h1.xor h2
    · exact h1
theorem tmR_by {a : Int32} (b : Int32) (ha : By a) : By (tmR a b) := (tmM_by b ha 8).1
def colM (a b c d : Int32) (f g : Nat → Int32) : Nat → Nat → Int32
  | 0 => g
  | k + 1 => upd (colM a b c d f g k) k (tmR (f k) a ^^^ tmR (f (k - k % 4 + (k + 1) % 4)) b ^^^ tmR (f (k - k % 4 + (k + 2) % 4)) c ^^^ tmR (f (k - k % 4 + (k + 3) % 4)) d)
theorem colM_by {a b c d : Int32} {f g : Nat → Int32} (hf : ∀ i, i < 16 → By (f i)) (hg : ∀ i, i < 16 → By (g i)) : ∀ k, k ≤ 16 → ∀ i, i < 16 → By (colM a b c d f g k i)
  | 0, _ => hg
  | k + 1, h => By.upd (colM_by hf hg k (by omega)) ((((tmR_by a (hf _ (by omega))).xor (tmR_by b (hf _ (by omega)))).xor (tmR_by c (hf _ (by omega)))).xor (tmR_by d (hf _ (by omega))))
/-- place by place copied -/
def cpM (m f : Nat → Int32) : Nat → Nat → Int32
  | 0 => f
  | k + 1 => upd (cpM m f k) k (m k)
theorem cpM_by {m f : Nat → Int32} (hm : ∀ i, i < 16 → By (m i)) (hf : ∀ i, i < 16 → By (f i)) : ∀ k, k ≤ 16 → ∀ i, i < 16 → By (cpM m f k i)
  | 0, _ => hf
  | k + 1, h => By.upd (cpM_by hm hf k (by omega)) (hm k (by omega))
def srcR (k : Nat) : Nat := (k / 4 + k % 4) % 4 * 4 + k % 4
theorem srcR_lt (k : Nat) : srcR k < 16 := by unfold srcR; omega
def subR (s f g : Nat → Int32) : Nat → Nat → Int32
  | 0 => g
  | k + 1 => upd (subR s f g k) k (s (f (srcR k)).toNatClampNeg)
theorem subR_by {s f g : Nat → Int32} (hs : ∀ i, i < 256 → By (s i)) (hf : ∀ i, i < 16 → By (f i)) (hg : ∀ i, i < 16 → By (g i)) : ∀ k, k ≤ 16 → ∀ i, i < 16 → By (subR s f g k i)
  | 0, _ => hg
  | k + 1, h => By.upd (subR_by hs hf hg k (by omega)) (hs _ (hf _ (srcR_lt k)).2)
def unsR (u f g : Nat → Int32) : Nat → Nat → Int32
  | 0 => g
  | k + 1 => upd (unsR u f g k) (srcR k) (u (f k).toNatClampNeg)
theorem unsR_by {u f g : Nat → Int32} (hu : ∀ i, i < 256 → By (u i)) (hf : ∀ i, i < 16 → By (f i)) (hg : ∀ i, i < 16 → By (g i)) : ∀ k, k ≤ 16 → ∀ i, i < 16 → By (unsR u f g k i)
  | 0, _ => hg
  | k + 1, h => By.upd (unsR_by hu hf hg k (by omega)) (hu _ (hf _ (by omega)).2)
/-- the columns: (the state, the moved row) -/
def colW (a b c d : Int32) (f g : Nat → Int32) : (Nat → Int32) × (Nat → Int32) := (cpM (colM a b c d f g 16) f 16, colM a b c d f g 16)
theorem colW_by {a b c d : Int32} {f g : Nat → Int32} (hf : ∀ i, i < 16 → By (f i)) (hg : ∀ i, i < 16 → By (g i)) : (∀ i, i < 16 → By ((colW a b c d f g).1 i)) ∧ ∀ i, i < 16 → By ((colW a b c d f g).2 i) := ⟨cpM_by (colM_by hf hg 16 (by decide)) hf 16 (by decide), colM_by hf hg 16 (by decide)⟩
def subP (s : Nat → Int32) (t : (Nat → Int32) × (Nat → Int32)) : (Nat → Int32) × (Nat → Int32) := (cpM (subR s t.1 t.2 16) t.1 16, subR s t.1 t.2 16)
def mxP (q : Prop) [Decidable q] (a b c d : Int32) (t : (Nat → Int32) × (Nat → Int32)) : (Nat → Int32) × (Nat → Int32) := if q then colW a b c d t.1 t.2 else t
def forR (s w f g : Nat → Int32) : Nat → (Nat → Int32) × (Nat → Int32)
  | 0 => (xorM w 0 f 16, g)
  | k + 1 => (xorM w (16 * (k + 1)) (mxP (k + 1 < 10) 2 3 1 1 (subP s (forR s w f g k))).1 16, (mxP (k + 1 < 10) 2 3 1 1 (subP s (forR s w f g k))).2)
def unsP (u : Nat → Int32) (t : (Nat → Int32) × (Nat → Int32)) : (Nat → Int32) × (Nat → Int32) := (cpM (unsR u t.1 t.2 16) t.1 16, unsR u t.1 t.2 16)
def bckR (u w f g : Nat → Int32) : Nat → (Nat → Int32) × (Nat → Int32)
  | 0 => (f, g)
  | k + 1 => unsP u (mxP (10 - k < 10) 14 11 13 9 (xorM w (16 * (10 - k)) (bckR u w f g k).1 16, (bckR u w f g k).2))
abbrev B2 (t : (Nat → Int32) × (Nat → Int32)) : Prop := (∀ i, i < 16 → By (t.1 i)) ∧ ∀ i, i < 16 → By (t.2 i)
theorem subP_by {s : Nat → Int32} {t : (Nat → Int32) × (Nat → Int32)} (hs : ∀ i, i < 256 → By (s i)) (h : B2 t) : B2 (subP s t) := ⟨cpM_by (subR_by hs h.1 h.2 16 (by decide)) h.1 16 (by decide), subR_by hs h.1 h.2 16 (by decide)⟩
theorem unsP_by {s : Nat → Int32} {t : (Nat → Int32) × (Nat → Int32)} (hs : ∀ i, i < 256 → By (s i)) (h : B2 t) : B2 (unsP s t) := ⟨cpM_by (unsR_by hs h.1 h.2 16 (by decide)) h.1 16 (by decide), unsR_by hs h.1 h.2 16 (by decide)⟩
theorem mxP_by {q : Prop} [Decidable q] {a b c d : Int32} {t : (Nat → Int32) × (Nat → Int32)} (h : B2 t) : B2 (mxP q a b c d t) := by
  unfold mxP
  split
  · exact colW_by h.1 h.2
  · exact h
theorem forR_by {s w f g : Nat → Int32} (hs : ∀ i, i < 256 → By (s i)) (hw : ∀ i, i < 176 → By (w i)) (hf : ∀ i, i < 16 → By (f i)) (hg : ∀ i, i < 16 → By (g i)) : ∀ k, k ≤ 10 → B2 (forR s w f g k)
  | 0, _ => ⟨xorM_by hw hf 16 (by decide) (by decide), hg⟩
  | k + 1, h => by
    have h1 := mxP_by (q := k + 1 < 10) (a := 2) (b := 3) (c := 1) (d := 1) (subP_by hs (forR_by hs hw hf hg k (by omega)))
    exact ⟨xorM_by hw h1.1 16 (by decide) (by omega), h1.2⟩
theorem bckR_by {u w f g : Nat → Int32} (hu : ∀ i, i < 256 → By (u i)) (hw : ∀ i, i < 176 → By (w i)) (hf : ∀ i, i < 16 → By (f i)) (hg : ∀ i, i < 16 → By (g i)) : ∀ k, k ≤ 10 → B2 (bckR u w f g k)
  | 0, _ => ⟨hf, hg⟩
  | k + 1, h => by
    have h0 := bckR_by hu hw hf hg k (by omega)
    exact unsP_by hu (mxP_by ⟨xorM_by hw h0.1 16 (by decide) (by omega), h0.2⟩)
def bckX (u w f g : Nat → Int32) : Nat → Int32 := xorM w 0 (bckR u w f g 10).1 16
theorem bckX_by {u w f g : Nat → Int32} (hu : ∀ i, i < 256 → By (u i)) (hw : ∀ i, i < 176 → By (w i)) (hf : ∀ i, i < 16 → By (f i)) (hg : ∀ i, i < 16 → By (g i)) : ∀ i, i < 16 → By (bckX u w f g i) := xorM_by hw (bckR_by hu hw hf hg 10 (by decide)).1 16 (by decide) (by decide)
