-- ===== the words
def PW : Nat → Int32
  | 0 => 1
  | n + 1 => twM (PW n)
/-- a byte of the words out of the earlier ones -/
def wR (w : Nat → Int32) (i : Nat) : Int32 := if i % 16 < 4 then w (i - 16) ^^^ fS (w (if i % 4 < 3 then i - 3 else i - 7)).toNatClampNeg ^^^ (if i % 16 = 0 then PW (i / 16 - 1) else 0) else w (i - 16) ^^^ w (i - 4)
theorem wR_cg {w w' : Nat → Int32} {i : Nat} (h16 : 16 ≤ i) (h : ∀ q, q < i → w q = w' q) : wR w i = wR w' i := by
  unfold wR
  rw [h (i - 16) (by omega), h (i - 4) (by omega), h (if i % 4 < 3 then i - 3 else i - 7) (by split <;> omega)]
theorem rec_eq {w w' : Nat → Int32} (h0 : ∀ i, i < 16 → w i = w' i) (h1 : ∀ i, 16 ≤ i → i < 176 → w i = wR w i) (h2 : ∀ i, 16 ≤ i → i < 176 → w' i = wR w' i) : ∀ n i, i < n → i < 176 → w i = w' i
  | 0, i, h, _ => absurd h (Nat.not_lt_zero i)
  | n + 1, i, h, hi => by
    rcases Nat.lt_or_ge i 16 with q | q
    · exact h0 i q
    · rw [h1 i q hi, h2 i q hi]
      exact wR_cg q (fun k hk => rec_eq h0 h1 h2 n k (by omega) (by omega))
theorem plainM_at {a : Nat} {f : Nat → Int32} (h16 : 16 ≤ a) : ∀ k, k ≤ 4 → ∀ i, plainM a f k i = if a ≤ i ∧ i < a + k then f (i - 16) ^^^ f (i - 4) else f i
  | 0, _, i => by rw [if_neg (by omega)]; rfl
  | k + 1, hk, i => by
    show upd (plainM a f k) (a + k) (plainM a f k (a - 16 + k) ^^^ plainM a f k (a - 4 + k)) i = _
    rw [plainM_at h16 k (by omega) (a - 16 + k), plainM_at h16 k (by omega) (a - 4 + k), if_neg (by omega), if_neg (by omega)]
    by_cases h : i = a + k
    · rw [h, pk_us, if_pos (by omega), show a + k - 16 = a - 16 + k by omega, show a + k - 4 = a - 4 + k by omega]
    · rw [pk_un h, plainM_at h16 k (by omega) i]
      by_cases h2 : a ≤ i ∧ i < a + k
      · rw [if_pos h2, if_pos (by omega)]
      · rw [if_neg h2, if_neg (by omega)]
theorem turnM_at {a : Nat} {f : Nat → Int32} (h16 : 16 ≤ a) : ∀ k, k ≤ 4 → ∀ i, turnM a f k i = if a ≤ i ∧ i < a + k then f (i - 16) ^^^ fS (f (a - 4 + (i - a + 1) % 4)).toNatClampNeg else f i
  | 0, _, i => by rw [if_neg (by omega)]; rfl
  | k + 1, hk, i => by
    show upd (turnM a f k) (a + k) (turnM a f k (a - 16 + k) ^^^ fS (turnM a f k (a - 4 + (k + 1) % 4)).toNatClampNeg) i = _
    rw [turnM_at h16 k (by omega) (a - 16 + k), turnM_at h16 k (by omega) (a - 4 + (k + 1) % 4), if_neg (by omega), if_neg (by omega)]
    by_cases h : i = a + k
    · rw [h, pk_us, if_pos (by omega), show a + k - 16 = a - 16 + k by omega, show a + k - a + 1 = k + 1 by omega]
    · rw [pk_un h, turnM_at h16 k (by omega) i]
      by_cases h2 : a ≤ i ∧ i < a + k
      · rw [if_pos h2, if_pos (by omega)]
      · rw [if_neg h2, if_neg (by omega)]
theorem word_rec {f : Nat → Int32} : ∀ j, j ≤ 40 → (∀ i, i < 16 → (wordM f j).1 i = f i) ∧ (∀ i, 16 ≤ i → i < 16 + 4 * j → (wordM f j).1 i = wR (wordM f j).1 i) ∧ (wordM f j).2 = PW ((j + 3) / 4)
  | 0, _ => ⟨fun i _ => rfl, fun i h1 h2 => absurd h2 (by omega), rfl⟩
  | j + 1, hj => by
    obtain ⟨h1, h2, h3⟩ := word_rec (f := f) j (by omega)
    by_cases hm : (16 + 4 * j) % 16 = 0
    · have e : wordM f (j + 1) = (turnW (16 + 4 * j) (wordM f j).2 (wordM f j).1, twM (wordM f j).2) := if_pos hm
      have lo : ∀ i, i < 16 + 4 * j → turnW (16 + 4 * j) (wordM f j).2 (wordM f j).1 i = (wordM f j).1 i := by
        intro i hi
        unfold turnW
        rw [pk_un (by omega), turnM_at (by omega) 4 (by decide), if_neg (by omega)]
      rw [e]
      refine ⟨fun i hi => (lo i (by omega)).trans (h1 i hi), ?_, ?_⟩
      · intro i h16 hi
        rcases Nat.lt_or_ge i (16 + 4 * j) with q | q
        · show turnW (16 + 4 * j) (wordM f j).2 (wordM f j).1 i = wR (turnW (16 + 4 * j) (wordM f j).2 (wordM f j).1) i
          rw [lo i q, h2 i h16 q]
          exact wR_cg h16 (fun k hk => (lo k (by omega)).symm)
        · show turnW (16 + 4 * j) (wordM f j).2 (wordM f j).1 i = wR (turnW (16 + 4 * j) (wordM f j).2 (wordM f j).1) i
          have r : wR (turnW (16 + 4 * j) (wordM f j).2 (wordM f j).1) i = (wordM f j).1 (i - 16) ^^^ fS ((wordM f j).1 (if i % 4 < 3 then i - 3 else i - 7)).toNatClampNeg ^^^ (if i % 16 = 0 then PW (i / 16 - 1) else 0) := by
            unfold wR
            rw [if_pos (by omega), lo (i - 16) (by omega), lo (if i % 4 < 3 then i - 3 else i - 7) (by split <;> omega)]
          have sr : 16 + 4 * j - 4 + (i - (16 + 4 * j) + 1) % 4 = if i % 4 < 3 then i - 3 else i - 7 := by split <;> omega
          rw [r]
          unfold turnW
          by_cases hi2 : i = 16 + 4 * j
          · rw [hi2, pk_us, turnM_at (by omega) 4 (by decide), if_pos (by omega), ← hi2, show i - 4 + (i - i + 1) % 4 = (if i % 4 < 3 then i - 3 else i - 7) by split <;> omega, if_pos (show i % 16 = 0 by omega), h3, show (j + 3) / 4 = i / 16 - 1 by omega]
          · rw [pk_un hi2, turnM_at (by omega) 4 (by decide), if_pos (by omega), sr, if_neg (show ¬ i % 16 = 0 by omega), x0r]
      · show twM (wordM f j).2 = PW ((j + 1 + 3) / 4)
        rw [h3, show (j + 1 + 3) / 4 = (j + 3) / 4 + 1 by omega]
        rfl
    · have e : wordM f (j + 1) = (plainM (16 + 4 * j) (wordM f j).1 4, (wordM f j).2) := if_neg hm
      have lo : ∀ i, i < 16 + 4 * j → plainM (16 + 4 * j) (wordM f j).1 4 i = (wordM f j).1 i := by
        intro i hi
        rw [plainM_at (by omega) 4 (by decide), if_neg (by omega)]
      rw [e]
      refine ⟨fun i hi => (lo i (by omega)).trans (h1 i hi), ?_, ?_⟩
      · intro i h16 hi
        show plainM (16 + 4 * j) (wordM f j).1 4 i = wR (plainM (16 + 4 * j) (wordM f j).1 4) i
        rcases Nat.lt_or_ge i (16 + 4 * j) with q | q
        · rw [lo i q, h2 i h16 q]
          exact wR_cg h16 (fun k hk => (lo k (by omega)).symm)
        · unfold wR
          rw [if_neg (by omega), lo (i - 16) (by omega), lo (i - 4) (by omega), plainM_at (by omega) 4 (by decide), if_pos (by omega)]
      · show (wordM f j).2 = PW ((j + 1 + 3) / 4)
        rw [h3, show (j + 1 + 3) / 4 = (j + 3) / 4 by omega]
theorem mw_rec {s key w : Nat → Int32} (hs : ∀ j, j < 256 → s j = fS j) (bs : ∀ i, i < 256 → By (s i)) (bk : ∀ i, i < 16 → By (key i)) (bw : ∀ i, i < 176 → By (w i)) : ∀ k, k ≤ 176 → (∀ i, i < 16 → i < k → (mwR s key w k).1 i = key i) ∧ (∀ i, 16 ≤ i → i < k → (mwR s key w k).1 i = wR (mwR s key w k).1 i) ∧ (mwR s key w k).2 = PW ((k - 4) / 16)
  | 0, _ => ⟨fun i _ h => absurd h (Nat.not_lt_zero i), fun i _ h => absurd h (Nat.not_lt_zero i), rfl⟩
  | k + 1, hk => by
    obtain ⟨h1, h2, h3⟩ := mw_rec hs bs bk bw k (by omega)
    obtain ⟨b1, b2⟩ := mwR_by bs bk bw k (by omega)
    have go : ∀ (v p' : Int32), mwR s key w (k + 1) = (upd (mwR s key w k).1 k v, p') → (k < 16 → v = key k) → (16 ≤ k → v = wR (mwR s key w k).1 k) → p' = PW ((k + 1 - 4) / 16) → (∀ i, i < 16 → i < k + 1 → (mwR s key w (k + 1)).1 i = key i) ∧ (∀ i, 16 ≤ i → i < k + 1 → (mwR s key w (k + 1)).1 i = wR (mwR s key w (k + 1)).1 i) ∧ (mwR s key w (k + 1)).2 = PW ((k + 1 - 4) / 16) := by
      intro v p' e a1 a2 a3
      rw [e]
      have lo : ∀ i, i < k → upd (mwR s key w k).1 k v i = (mwR s key w k).1 i := fun i hi => pk_un (by omega)
      refine ⟨?_, ?_, a3⟩
      · intro i h16 hi
        show upd (mwR s key w k).1 k v i = key i
        by_cases hh : i = k
        · subst hh; rw [pk_us, a1 h16]
        · rw [pk_un hh, h1 i h16 (by omega)]
      · intro i h16 hi
        show upd (mwR s key w k).1 k v i = wR (upd (mwR s key w k).1 k v) i
        by_cases hh : i = k
        · subst hh
          rw [pk_us]
          exact (a2 h16).trans (wR_cg h16 (fun q hq => (lo q hq).symm))
        · rw [pk_un hh, h2 i h16 (by omega)]
          exact wR_cg h16 (fun q hq => (lo q (by omega)).symm)
    by_cases n1 : k < 16
    · refine go (key k) (mwR s key w k).2 ?_ (fun _ => rfl) (fun h => absurd h (by omega)) (by rw [h3, show (k - 4) / 16 = (k + 1 - 4) / 16 by omega])
      exact if_pos n1
    · by_cases n2 : k % 16 < 4
      · refine go ((mwR s key w k).1 (k - 16) ^^^ s ((mwR s key w k).1 (if k % 4 < 3 then k - 3 else k - 7)).toNatClampNeg ^^^ (if k % 16 = 0 then (mwR s key w k).2 else 0)) (if k % 16 = 3 then tmR (mwR s key w k).2 2 else (mwR s key w k).2) ?_ (fun h => absurd h n1) (fun _ => ?_) ?_
        · show (if k < 16 then _ else if k % 16 < 4 then _ else _) = _
          rw [if_neg n1, if_pos n2]
        · unfold wR
          rw [if_pos n2, hs _ (b1 _ (by split <;> omega)).2, h3]
          by_cases n3 : k % 16 = 0
          · rw [if_pos n3, if_pos n3, show (k - 4) / 16 = k / 16 - 1 by omega]
          · rw [if_neg n3, if_neg n3]
        · by_cases n4 : k % 16 = 3
          · rw [if_pos n4, tm_2 b2, h3, show (k + 1 - 4) / 16 = (k - 4) / 16 + 1 by omega]
            rfl
          · rw [if_neg n4, h3, show (k - 4) / 16 = (k + 1 - 4) / 16 by omega]
      · refine go ((mwR s key w k).1 (k - 16) ^^^ (mwR s key w k).1 (k - 4)) (mwR s key w k).2 ?_ (fun h => absurd h n1) (fun _ => ?_) (by rw [h3, show (k - 4) / 16 = (k + 1 - 4) / 16 by omega])
        · show (if k < 16 then _ else if k % 16 < 4 then _ else _) = _
          rw [if_neg n1, if_neg n2]
        · unfold wR
          rw [if_neg n2]
theorem words_eq {s fB fW key w : Nat → Int32} (hs : ∀ j, j < 256 → s j = fS j) (bs : ∀ i, i < 256 → By (s i)) (bk : ∀ i, i < 16 → By (key i)) (bw : ∀ i, i < 176 → By (w i)) (h : Eq16 fB key) : ∀ i, i < 176 → (wordM (va_cpy fB fW 0 0 16) 40).1 i = (mwR s key w 176).1 i := by
  obtain ⟨a1, a2, -⟩ := word_rec (f := va_cpy fB fW 0 0 16) 40 (by decide)
  obtain ⟨c1, c2, -⟩ := mw_rec hs bs bk bw 176 (by decide)
  intro i hi
  refine rec_eq (fun q hq => ?_) (fun q h1 h2 => a2 q h1 (by omega)) c2 (i + 1) i (by omega) hi
  rw [a1 q hq, c1 q hq (by omega), cpy16 hq]
  exact h q hq
