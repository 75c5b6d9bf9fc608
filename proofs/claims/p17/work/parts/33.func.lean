-- ===== what each call keeps
theorem upd_cg {f g : Nat → Int32} {k : Nat} {x : Int32} (h : Eq16 f g) : Eq16 (upd f k x) (upd g k x) := by
  intro i hi
  by_cases q : i = k
  · rw [q, pk_us, pk_us]
  · rw [pk_un q, pk_un q, h i hi]
theorem fill_any {f g : Nat → Int32} {x : Int32} : Eq16 (fillM x f 16) (fillM x g 16) := by
  intro i hi
  rw [fillM_at, fillM_at, if_pos hi, if_pos hi]
theorem expand_eq {gS fB fW fF fG fV gK gW gT gV gH : Nat → Int32} (hs : ∀ j, j < 256 → gS j = fS j) (eB : Eq16 fB gK) (bB : ∀ i, i < 16 → By (fB i)) (bW : ∀ i, i < 176 → By (fW i)) (bF : ∀ i, i < 16 → By (fF i)) (bV : ∀ i, i < 16 → By (fV i)) (bS : ∀ i, i < 256 → By (gS i)) (bK : ∀ i, i < 16 → By (gK i)) (bw : ∀ i, i < 176 → By (gW i)) (bT : ∀ i, i < 16 → By (gT i)) (bv : ∀ i, i < 16 → By (gV i)) (bH : ∀ i, i < 32 → By (gH i)) :
    (∀ i, i < 176 → (wordM (va_cpy fB fW 0 0 16) 40).1 i = (mwR gS gK gW 176).1 i) ∧ Eq16 (dblA (hv1 (wordM (va_cpy fB fW 0 0 16) 40).1 fF fV).1) (tw1W (tw0W (forR gS (mwR gS gK gW 176).1 (fillM 0 gT 16) gV 10).1 gH)) ∧ ∀ i, i < 16 → dblW (dblA (hv1 (wordM (va_cpy fB fW 0 0 16) 40).1 fF fV).1) fG i = tw1W (tw0W (forR gS (mwR gS gK gW 176).1 (fillM 0 gT 16) gV 10).1 gH) (16 + i) := by
  have hw := words_eq (fW := fW) hs bS bK bw eB
  have bw1 := (wordM_by (By.cpy (N := 16) (by decide) bB bW) 40 (by decide)).1
  have bw2 := (mwR_by bS bK bw 176 (by decide)).1
  have hX : Eq16 (hv1 (wordM (va_cpy fB fW 0 0 16) 40).1 fF fV).1 (forR gS (mwR gS gK gW 176).1 (fillM 0 gT 16) gV 10).1 := forth_eq hs hw bw1 (fillM_by by_0 bF 16) bV fill_any 10 (by decide)
  have bX := (forR_by bS bw2 (fillM_by by_0 bT 16) bv 10 (by decide)).1
  have bh := tw0W_by bX bH
  have h1 : Eq16 (dblA (hv1 (wordM (va_cpy fB fW 0 0 16) 40).1 fF fV).1) (tw0W (forR gS (mwR gS gK gW 176).1 (fillM 0 gT 16) gV 10).1 gH) := by
    intro i hi
    rw [dblA_at hi, tw0W_at bX bH hi]
    exact dbF_cg hX i hi
  refine ⟨hw, ?_, ?_⟩
  · intro i hi
    rw [(tw1W_at bh hi).2]
    exact h1 i hi
  · intro i hi
    rw [(tw1W_at bh hi).1, dblW_at hi]
    exact dbF_cg h1 i hi
theorem cp_eq {f g t : Nat → Int32} (h : Eq16 f g) : Eq16 f (cpM g t 16) := by
  intro i hi
  rw [cpM_at, if_pos hi]
  exact h i hi
theorem enc_eq {gS fW gW fO fV gB gT gV : Nat → Int32} (hs : ∀ j, j < 256 → gS j = fS j) (hw : ∀ i, i < 176 → fW i = gW i) (bW : ∀ i, i < 176 → By (fW i)) (bO : ∀ i, i < 16 → By (fO i)) (bV : ∀ i, i < 16 → By (fV i)) (eO : Eq16 fO gB) : Eq16 (forM fW fO fV 10).1 (cpM (forR gS gW (cpM gB gT 16) gV 10).1 gB 16) := cp_eq (forth_eq hs hw bW bO bV (cp_eq eO) 10 (by decide))
theorem dec_eq {gU fW gW fO fV gB gT gV : Nat → Int32} (hu : ∀ j, j < 256 → gU j = fU j) (hw : ∀ i, i < 176 → fW i = gW i) (bW : ∀ i, i < 176 → By (fW i)) (bO : ∀ i, i < 16 → By (fO i)) (bV : ∀ i, i < 16 → By (fV i)) (eO : Eq16 fO gB) : Eq16 (bckW fW fO fV) (cpM (bckX gU gW (cpM gB gT 16) gV) gB 16) := cp_eq (backW_eq hu hw bW bO bV (cp_eq eO))
theorem xor_eq {fO fP gB gP gT : Nat → Int32} (eO : Eq16 fO gB) (eP : Eq16 fP gP) : Eq16 (xorM fP 0 fO 16) (xrM gB gP gT 16) := by
  intro i hi
  rw [xorM_at, xrM_at, if_pos hi, if_pos hi, Nat.zero_add, eO i hi, eP i hi]
theorem chf_eq {gS fW gW fO fP fV gB gP gT gV : Nat → Int32} (hs : ∀ j, j < 256 → gS j = fS j) (hw : ∀ i, i < 176 → fW i = gW i) (bW : ∀ i, i < 176 → By (fW i)) (bO : ∀ i, i < 16 → By (fO i)) (bP : ∀ i, i < 16 → By (fP i)) (bV : ∀ i, i < 16 → By (fV i)) (eO : Eq16 fO gB) (eP : Eq16 fP gP) : Eq16 (forM fW (xorM fP 0 fO 16) fV 10).1 (forR gS gW (xrM gB gP gT 16) gV 10).1 := forth_eq hs hw bW (xorM_by bP bO 16 (by decide) (by decide)) bV (xor_eq eO eP) 10 (by decide)
theorem cpy_eq {f g t q : Nat → Int32} (h : Eq16 f g) : Eq16 (va_cpy f t 0 0 16) (cpM g q 16) := by
  intro i hi
  rw [cpy16 hi, cpM_at, if_pos hi]
  exact h i hi
theorem chB_at {t b q : Nat → Int32} : ∀ k i, (chB t b q k).1 i = (if i < k then t i ^^^ q i else b i) ∧ (chB t b q k).2 i = if i < k then b i else q i
  | 0, i => ⟨by rw [if_neg (Nat.not_lt_zero i)]; rfl, by rw [if_neg (Nat.not_lt_zero i)]; rfl⟩
  | k + 1, i => by
    obtain ⟨h1, h2⟩ := chB_at (t := t) (b := b) (q := q) k i
    obtain ⟨k1, k2⟩ := chB_at (t := t) (b := b) (q := q) k k
    rw [if_neg (Nat.lt_irrefl k)] at k1 k2
    refine ⟨?_, ?_⟩
    · show upd (chB t b q k).1 k (t k ^^^ (chB t b q k).2 k) i = _
      by_cases h : i = k
      · subst h
        rw [pk_us, if_pos (Nat.lt_succ_self i), k2]
      · rw [pk_un h, h1]
        by_cases hh : i < k
        · rw [if_pos hh, if_pos (by omega)]
        · rw [if_neg hh, if_neg (by omega)]
    · show upd (chB t b q k).2 k ((chB t b q k).1 k) i = _
      by_cases h : i = k
      · subst h
        rw [pk_us, if_pos (Nat.lt_succ_self i), k1]
      · rw [pk_un h, h2]
        by_cases hh : i < k
        · rw [if_pos hh, if_pos (by omega)]
        · rw [if_neg hh, if_neg (by omega)]
theorem chb_eq {gU fW gW fO fP fQ fV gB gP gT gV : Nat → Int32} (hu : ∀ j, j < 256 → gU j = fU j) (hw : ∀ i, i < 176 → fW i = gW i) (bW : ∀ i, i < 176 → By (fW i)) (bO : ∀ i, i < 16 → By (fO i)) (bV : ∀ i, i < 16 → By (fV i)) (eO : Eq16 fO gB) (eP : Eq16 fP gP) : Eq16 (xorM fP 0 (bckW fW fO fV) 16) (chB (bckX gU gW (cpM gB gT 16) gV) gB gP 16).1 ∧ Eq16 (va_cpy (va_cpy fO fQ 0 0 16) fP 0 0 16) (chB (bckX gU gW (cpM gB gT 16) gV) gB gP 16).2 := by
  have h := backW_eq (g' := gV) hu hw bW bO bV (cp_eq (t := gT) eO)
  refine ⟨?_, ?_⟩
  · intro i hi
    rw [(chB_at 16 i).1, if_pos hi, xorM_at, if_pos hi, Nat.zero_add, h i hi, eP i hi]
  · intro i hi
    rw [(chB_at 16 i).2, if_pos hi, cpy16 hi, cpy16 hi]
    exact eO i hi
theorem half_no {v a b : Int32} (h : inM v 1 = 0) : (if v = 0 then a else if v = 1 then b else (-1 : Int32)) = -1 := by
  by_cases h0 : v = 0
  · subst h0; exact absurd h (by decide)
  · by_cases h1 : v = 1
    · subst h1; exact absurd h (by decide)
    · rw [if_neg h0, if_neg h1]
theorem half_yes {v : Int32} {w k : Nat} {fF fG gH : Nat → Int32} (hw : w ≤ 1) (hv : v = nI w) (hk : k < 16) (h1 : Eq16 fF gH) (h2 : ∀ i, i < 16 → fG i = gH (16 + i)) : (if v = 0 then fF k else if v = 1 then fG k else (-1 : Int32)) = gH (16 * w + k) := by
  rcases (show w = 0 ∨ w = 1 by omega) with rfl | rfl
  · rw [hv, if_pos (show nI 0 = 0 from rfl), show 16 * 0 + k = k by omega]
    exact h1 k hk
  · rw [hv, if_neg (show ¬ nI 1 = 0 by decide), if_pos (show nI 1 = 1 from rfl), show 16 * 1 + k = 16 + k by omega]
    exact h2 k hk
