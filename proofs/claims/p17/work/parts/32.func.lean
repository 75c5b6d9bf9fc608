-- ===== S as the reference makes it
def xtN (x : Nat) : Nat := if 128 ≤ x then (2 * x - 256) ^^^ 27 else 2 * x
theorem xt_N : ∀ x, x < 256 → ((if 128 ≤ nI x then (2 * nI x - 256) ^^^ 27 else 2 * nI x) = nI (xtN x) ∧ xtN x < 256) := by decide +kernel
def stN (b k : Nat) (t : Nat × Nat) : Nat × Nat := (if b / 2 ^ k % 2 = 1 then t.1 ^^^ t.2 else t.1, xtN t.2)
def tN (a b : Nat) : Nat → Nat × Nat
  | 0 => (0, a)
  | k + 1 => stN b k (tN a b k)
theorem sh_N : ∀ k, k < 8 → ((nI k &&& 31).toBitVec.smod 32).toNat = k := by decide +kernel
theorem bit_N {b k : Nat} (hb : b < 2 ^ 31) (hk : k < 8) : (nI b >>> (nI k &&& 31)) &&& 1 = nI (b / 2 ^ k % 2) := by
  rw [pk_shrN hb _ k (sh_N k hk)]
  have h : b / 2 ^ k ≤ b := Nat.div_le_self _ _
  exact pk_andN (by omega) 1 (by decide)
theorem tm_N {a b : Nat} (ha : a < 256) (hb : b < 2 ^ 31) : ∀ k, k ≤ 8 → tmM (nI a) (nI b) k = (nI (tN a b k).1, nI (tN a b k).2) ∧ (tN a b k).1 < 256 ∧ (tN a b k).2 < 256
  | 0, _ => ⟨rfl, by show 0 < 256; decide, ha⟩
  | k + 1, hk => by
    obtain ⟨e, h1, h2⟩ := tm_N ha hb k (by omega)
    have hx := xt_N _ h2
    have hbit := bit_N (k := k) hb (by omega)
    refine ⟨?_, ?_, hx.2⟩
    · show ((if (nI b >>> (nI k &&& 31)) &&& 1 = 1 then (tmM (nI a) (nI b) k).1 ^^^ (tmM (nI a) (nI b) k).2 else (tmM (nI a) (nI b) k).1), (if 128 ≤ (tmM (nI a) (nI b) k).2 then (2 * (tmM (nI a) (nI b) k).2 - 256) ^^^ 27 else 2 * (tmM (nI a) (nI b) k).2)) = (nI (if b / 2 ^ k % 2 = 1 then (tN a b k).1 ^^^ (tN a b k).2 else (tN a b k).1), nI (xtN (tN a b k).2))
      rw [e]
      dsimp only
      rw [hx.1, hbit]
      by_cases h : b / 2 ^ k % 2 = 1
      · rw [if_pos h, if_pos (show nI (b / 2 ^ k % 2) = 1 by rw [h]; rfl), nI_xor]
      · rw [if_neg h, if_neg (show ¬ nI (b / 2 ^ k % 2) = (1 : Int32) from fun q => h ((nI_eq (b := 1) (by omega) (by decide)).mp q))]
    · show (if b / 2 ^ k % 2 = 1 then (tN a b k).1 ^^^ (tN a b k).2 else (tN a b k).1) < 256
      split
      · exact Nat.xor_lt_two_pow (n := 8) h1 h2
      · exact h1
def cN (b : Nat) : Nat → Nat
  | 0 => 0
  | j + 1 => if cN b j = 0 then (if b = 0 then 0 else if (tN b (j + 1) 8).1 = 1 then j + 1 else 0) else cN b j
theorem cN_le (b : Nat) : ∀ j, cN b j ≤ j
  | 0 => Nat.le_refl 0
  | j + 1 => by
    have := cN_le b j
    unfold cN
    split
    · split
      · omega
      · split <;> omega
    · omega
theorem cM_N {b : Nat} (hb : b < 256) : ∀ j, j ≤ 255 → cM (nI b) j = nI (cN b j)
  | 0, _ => rfl
  | j + 1, hj => by
    have e := cM_N hb j (by omega)
    have hl := cN_le b j
    obtain ⟨t1, t2, -⟩ := tm_N (b := j + 1) hb (by omega) 8 (Nat.le_refl 8)
    show (if cM (nI b) j = 0 then (if nI b ≤ 0 then 0 else if tmR (nI b) (nI (j + 1)) = 1 then nI (j + 1) else 0) else cM (nI b) j) = nI (if cN b j = 0 then (if b = 0 then 0 else if (tN b (j + 1) 8).1 = 1 then j + 1 else 0) else cN b j)
    rw [e, show tmR (nI b) (nI (j + 1)) = nI (tN b (j + 1) 8).1 by unfold tmR; rw [t1]]
    by_cases h : cN b j = 0
    · rw [if_pos h, if_pos (show nI (cN b j) = 0 by rw [h]; rfl)]
      by_cases h0 : b = 0
      · rw [if_pos h0, if_pos (show nI b ≤ 0 by rw [h0]; decide)]; rfl
      · rw [if_neg h0, if_neg (fun q => h0 (nI_le0 q (by omega)))]
        by_cases h1 : (tN b (j + 1) 8).1 = 1
        · rw [if_pos h1, if_pos (show nI (tN b (j + 1) 8).1 = 1 by rw [h1]; rfl)]
        · rw [if_neg h1, if_neg (show ¬ nI (tN b (j + 1) 8).1 = (1 : Int32) from fun q => h1 ((nI_eq (b := 1) (by omega) (by decide)).mp q))]; rfl
    · rw [if_neg h, if_neg (show ¬ nI (cN b j) = (0 : Int32) from fun q => h ((nI_eq (b := 0) (by omega) (by decide)).mp q))]
theorem vc_0 : ∀ b, b < 64 → vM (nI (cN b 255)) 8 = fS b := by decide +kernel
theorem vc_1 : ∀ b, b < 64 → vM (nI (cN (64 + b) 255)) 8 = fS (64 + b) := by decide +kernel
theorem vc_2 : ∀ b, b < 64 → vM (nI (cN (128 + b) 255)) 8 = fS (128 + b) := by decide +kernel
theorem vc_3 : ∀ b, b < 64 → vM (nI (cN (192 + b) 255)) 8 = fS (192 + b) := by decide +kernel
theorem sM_eq {b : Nat} (hb : b < 256) : sM b = fS b := by
  unfold sM
  rw [cM_N hb 255 (by decide)]
  rcases (show b < 64 ∨ (64 ≤ b ∧ b < 128) ∨ (128 ≤ b ∧ b < 192) ∨ 192 ≤ b by omega) with h | h | h | h
  · exact vc_0 b h
  · have := vc_1 (b - 64) (by omega)
    rwa [show 64 + (b - 64) = b by omega] at this
  · have := vc_2 (b - 128) (by omega)
    rwa [show 128 + (b - 128) = b by omega] at this
  · have := vc_3 (b - 192) (by omega)
    rwa [show 192 + (b - 192) = b by omega] at this
theorem sA_at : ∀ k i, i < k → sA k i = sM i
  | 0, i, h => absurd h (Nat.not_lt_zero i)
  | k + 1, i, h => by
    show upd (sA k) k (sM k) i = _
    by_cases hh : i = k
    · subst hh
      rw [pk_us]
    · rw [pk_un hh]
      exact sA_at k i (by omega)
theorem sA_eq : ∀ j, j < 256 → sA 256 j = fS j := fun j hj => by rw [sA_at 256 j hj, sM_eq hj]
theorem us_1 : ∀ k, k < 256 → fU (fS k).toNatClampNeg = nI k := by decide +kernel
theorem us_2 : ∀ j, j < 256 → (fS (fU j).toNatClampNeg).toNatClampNeg = j := by decide +kernel
theorem uA_at : ∀ k, k ≤ 256 → ∀ j, j < 256 → uA k j = if (fU j).toNatClampNeg < k then fU j else 0
  | 0, _, j, _ => by rw [if_neg (Nat.not_lt_zero _)]; rfl
  | k + 1, hk, j, hj => by
    show upd (uA k) (sM k).toNatClampNeg (nI k) j = _
    rw [sM_eq (show k < 256 by omega)]
    by_cases h : j = (fS k).toNatClampNeg
    · rw [h, pk_us, us_1 k (by omega), nI_clamp (by omega), if_pos (by omega)]
    · rw [pk_un h, uA_at k (by omega) j hj]
      have hne : ¬ (fU j).toNatClampNeg = k := fun q => h (by rw [← q]; exact (us_2 j hj).symm)
      by_cases hq : (fU j).toNatClampNeg < k
      · rw [if_pos hq, if_pos (by omega)]
      · rw [if_neg hq, if_neg (by omega)]
theorem uA_eq : ∀ j, j < 256 → uA 256 j = fU j := fun j hj => by rw [uA_at 256 (by decide) j hj, if_pos (fU_by j hj).2]
