-- ===== three mixings are the inverse columns
def nb (d i : Nat) : Nat := i - i % 4 + (i + d) % 4
theorem nb_all : ∀ i, i < 16 → (nb 1 i < 16 ∧ nb 2 i < 16 ∧ nb 3 i < 16) ∧ (nb 1 (nb 1 i) = nb 2 i ∧ nb 2 (nb 1 i) = nb 3 i ∧ nb 3 (nb 1 i) = i) ∧ (nb 1 (nb 2 i) = nb 3 i ∧ nb 2 (nb 2 i) = i ∧ nb 3 (nb 2 i) = nb 1 i) ∧ (nb 1 (nb 3 i) = i ∧ nb 2 (nb 3 i) = nb 1 i ∧ nb 3 (nb 3 i) = nb 2 i) := by decide
theorem mixW_at {f : Nat → Int32} {i : Nat} (hi : i < 16) : mixW f i = mxE (f i) (f (nb 1 i)) (f (nb 2 i)) (f (nb 3 i)) := by
  have h := mixM_at (f := f) 4 i
  rw [if_pos (by omega)] at h
  exact h
theorem mix3_at {f : Nat → Int32} (hf : ∀ i, i < 16 → By (f i)) {i : Nat} (hi : i < 16) : mixW (mixW (mixW f)) i = tmR (f i) 14 ^^^ tmR (f (nb 1 i)) 11 ^^^ tmR (f (nb 2 i)) 13 ^^^ tmR (f (nb 3 i)) 9 := by
  obtain ⟨⟨l1, l2, l3⟩, ⟨a1, a2, a3⟩, ⟨b1, b2, b3⟩, c1, c2, c3⟩ := nb_all i hi
  have e1 : ∀ g : Nat → Int32, mixW g i = mxE (g i) (g (nb 1 i)) (g (nb 2 i)) (g (nb 3 i)) := fun g => mixW_at hi
  have e2 : ∀ g : Nat → Int32, mixW g (nb 1 i) = mxE (g (nb 1 i)) (g (nb 2 i)) (g (nb 3 i)) (g i) := fun g => by rw [mixW_at l1, a1, a2, a3]
  have e3 : ∀ g : Nat → Int32, mixW g (nb 2 i) = mxE (g (nb 2 i)) (g (nb 3 i)) (g i) (g (nb 1 i)) := fun g => by rw [mixW_at l2, b1, b2, b3]
  have e4 : ∀ g : Nat → Int32, mixW g (nb 3 i) = mxE (g (nb 3 i)) (g i) (g (nb 1 i)) (g (nb 2 i)) := fun g => by rw [mixW_at l3, c1, c2, c3]
  rw [e1 (mixW (mixW f)), e1 (mixW f), e2 (mixW f), e3 (mixW f), e4 (mixW f), e1 f, e2 f, e3 f, e4 f]
  exact mix3 (hf _ hi) (hf _ l1) (hf _ l2) (hf _ l3)
theorem colM_nb {a b c d : Int32} {f g : Nat → Int32} {i : Nat} (hi : i < 16) : colM a b c d f g 16 i = tmR (f i) a ^^^ tmR (f (nb 1 i)) b ^^^ tmR (f (nb 2 i)) c ^^^ tmR (f (nb 3 i)) d := by
  rw [colM_at 16 i, if_pos hi]
  rfl
theorem colM_cg {a b c d : Int32} {f f' g g' : Nat → Int32} (h : Eq16 f f') : Eq16 (colM a b c d f g 16) (colM a b c d f' g' 16) := by
  intro i hi
  obtain ⟨⟨l1, l2, l3⟩, -⟩ := nb_all i hi
  rw [colM_nb hi, colM_nb hi, h i hi, h _ l1, h _ l2, h _ l3]
theorem colW_1 {a b c d : Int32} {f g : Nat → Int32} {i : Nat} (hi : i < 16) : (colW a b c d f g).1 i = colM a b c d f g 16 i := by
  show cpM (colM a b c d f g 16) f 16 i = _
  rw [cpM_at 16 i, if_pos hi]
theorem subP_1 {s : Nat → Int32} {t : (Nat → Int32) × (Nat → Int32)} {i : Nat} (hi : i < 16) : (subP s t).1 i = s (t.1 (srcR i)).toNatClampNeg := by
  show cpM (subR s t.1 t.2 16) t.1 16 i = _
  rw [cpM_at 16 i, if_pos hi, subR_at 16 i, if_pos hi]
-- ===== forth
theorem forth_eq {s w w' f f' g g' : Nat → Int32} (hs : ∀ j, j < 256 → s j = fS j) (hw : ∀ i, i < 176 → w i = w' i) (bw : ∀ i, i < 176 → By (w i)) (bf : ∀ i, i < 16 → By (f i)) (bg : ∀ i, i < 16 → By (g i)) (hf : Eq16 f f') : ∀ k, k ≤ 10 → Eq16 (forM w f g k).1 (forR s w' f' g' k).1
  | 0, _ => by
    intro i hi
    show xorM w 0 f 16 i = xorM w' 0 f' 16 i
    rw [xorM_at, xorM_at, if_pos hi, if_pos hi, hf i hi, hw _ (by omega)]
  | k + 1, hk => by
    have ih := forth_eq hs hw bw bf bg hf (g' := g') k (by omega)
    obtain ⟨b1, b2⟩ := forM_by bw bf bg k (by omega)
    have hA : Eq16 (va_cpy (subM (forM w f g k).1 (forM w f g k).2 16) (forM w f g k).1 0 0 16) (subP s (forR s w' f' g' k)).1 := by
      intro i hi
      rw [cpy16 hi, subM_at 16 i, if_pos hi, subP_1 hi, src_eq i hi, ← ih _ (srcR_lt i), hs _ (b1 _ (srcR_lt i)).2]
    have bA := By.cpy (N := 16) (by decide) (subM_by b1 b2 16 (by decide)) b1
    intro i hi
    show xorM w (16 * (k + 1)) (if k + 1 < 10 then _ else _) 16 i = xorM w' (16 * (k + 1)) (mxP (k + 1 < 10) 2 3 1 1 (subP s (forR s w' f' g' k))).1 16 i
    rw [xorM_at, xorM_at, if_pos hi, if_pos hi, hw _ (by omega)]
    congr 1
    unfold mxP
    by_cases h : k + 1 < 10
    · rw [if_pos h, if_pos h, colW_1 hi, mix_col (g := (subP s (forR s w' f' g' k)).2) (h := f) bA i hi]
      exact colM_cg hA i hi
    · rw [if_neg h, if_neg h]
      exact hA i hi
-- ===== back
theorem uns_eq {u f f' g g' : Nat → Int32} (hu : ∀ j, j < 256 → u j = fU j) (bf : ∀ i, i < 16 → By (f i)) (hf : Eq16 f f') : ∀ k, k ≤ 16 → ∀ j, j < k → unsM f g k (srcM j) = unsR u f' g' k (srcM j)
  | 0, _, j, hj => absurd hj (Nat.not_lt_zero j)
  | k + 1, hk, j, hj => by
    show upd (unsM f g k) (srcM k) (fU (f k).toNatClampNeg) (srcM j) = upd (unsR u f' g' k) (srcR k) (u (f' k).toNatClampNeg) (srcM j)
    rw [← src_eq k (by omega)]
    by_cases h : srcM j = srcM k
    · rw [h, pk_us, pk_us, ← hf k (by omega), hu _ (bf k (by omega)).2]
    · rw [pk_un h, pk_un h]
      have hjk : j < k := by
        rcases Nat.lt_or_ge j k with q | q
        · exact q
        · exact absurd (congrArg srcM (show j = k by omega)) h
      exact uns_eq hu bf hf k (by omega) j hjk
theorem src_onto : ∀ i, i < 16 → ∃ j, j < 16 ∧ srcM j = i := by decide
theorem uns_eq16 {u f f' g g' : Nat → Int32} (hu : ∀ j, j < 256 → u j = fU j) (bf : ∀ i, i < 16 → By (f i)) (hf : Eq16 f f') : Eq16 (unsM f g 16) (unsR u f' g' 16) := by
  intro i hi
  obtain ⟨j, hj, rfl⟩ := src_onto i hi
  exact uns_eq hu bf hf 16 (by decide) j hj
theorem back_eq {u w w' f f' g g' : Nat → Int32} (hu : ∀ j, j < 256 → u j = fU j) (hw : ∀ i, i < 176 → w i = w' i) (bw : ∀ i, i < 176 → By (w i)) (bf : ∀ i, i < 16 → By (f i)) (bg : ∀ i, i < 16 → By (g i)) (hf : Eq16 f f') : ∀ k, k ≤ 10 → Eq16 (bckM w f g k).1 (bckR u w' f' g' k).1
  | 0, _ => hf
  | k + 1, hk => by
    have ih := back_eq hu hw bw bf bg hf (g' := g') k (by omega)
    obtain ⟨b1, b2⟩ := bckM_by bw bf bg k (by omega)
    have hX : Eq16 (xorM w (16 * (10 - k)) (bckM w f g k).1 16) (xorM w' (16 * (10 - k)) (bckR u w' f' g' k).1 16) := by
      intro i hi
      rw [xorM_at, xorM_at, if_pos hi, if_pos hi, ih i hi, hw _ (by omega)]
    have bX := xorM_by (fr := 16 * (10 - k)) bw b1 16 (by decide) (by omega)
    have key : ∀ (X : Nat → Int32) (t : (Nat → Int32) × (Nat → Int32)), (∀ i, i < 16 → By (X i)) → Eq16 X t.1 → Eq16 (va_cpy (unsM X (bckM w f g k).2 16) X 0 0 16) (unsP u t).1 := by
      intro X t bX hX i hi
      rw [cpy16 hi]
      show _ = cpM (unsR u t.1 t.2 16) t.1 16 i
      rw [cpM_at 16 i, if_pos hi]
      exact uns_eq16 hu bX hX i hi
    show Eq16 (va_cpy (unsM (if 10 - k < 10 then _ else _) _ 16) (if 10 - k < 10 then _ else _) 0 0 16) (unsP u (mxP (10 - k < 10) 14 11 13 9 (xorM w' (16 * (10 - k)) (bckR u w' f' g' k).1 16, (bckR u w' f' g' k).2))).1
    unfold mxP
    by_cases h : 10 - k < 10
    · rw [if_pos h, if_pos h]
      refine key _ _ (mixM_by (mixM_by (mixM_by bX 4 (by decide)) 4 (by decide)) 4 (by decide)) ?_
      intro i hi
      rw [colW_1 hi, mix3_at bX hi, ← colM_nb (g := f) hi]
      exact colM_cg hX i hi
    · rw [if_neg h, if_neg h]
      exact key _ _ bX hX
theorem backW_eq {u w w' f f' g g' : Nat → Int32} (hu : ∀ j, j < 256 → u j = fU j) (hw : ∀ i, i < 176 → w i = w' i) (bw : ∀ i, i < 176 → By (w i)) (bf : ∀ i, i < 16 → By (f i)) (bg : ∀ i, i < 16 → By (g i)) (hf : Eq16 f f') : Eq16 (bckW w f g) (bckX u w' f' g') := by
  intro i hi
  show xorM w 0 (bckM w f g 10).1 16 i = xorM w' 0 (bckR u w' f' g' 10).1 16 i
  rw [xorM_at, xorM_at, if_pos hi, if_pos hi, back_eq hu hw bw bf bg hf 10 (by decide) i hi, hw _ (by omega)]
-- ===== doubled
theorem dblM_at {f g : Nat → Int32} : ∀ k i, dblM f g k i = if i < k then dblE (f i) (f (i + 1)) else g i
  | 0, i => by rw [if_neg (Nat.not_lt_zero i)]; rfl
  | k + 1, i => by
    show upd (dblM f g k) k _ i = _
    by_cases h : i = k
    · subst h
      rw [pk_us, if_pos (Nat.lt_succ_self i)]
    · rw [pk_un h, dblM_at k i]
      by_cases h2 : i < k
      · rw [if_pos h2, if_pos (by omega)]
      · rw [if_neg h2, if_neg (by omega)]
theorem dblS_at {f : Nat → Int32} : ∀ k i, dblS f k i = if i < k then dblE (f i) (f (i + 1)) else f i
  | 0, i => by rw [if_neg (Nat.not_lt_zero i)]; rfl
  | k + 1, i => by
    show upd (dblS f k) k (dblE (dblS f k k) (dblS f k (k + 1))) i = _
    by_cases h : i = k
    · subst h
      rw [pk_us, if_pos (Nat.lt_succ_self i), dblS_at i i, dblS_at i (i + 1), if_neg (Nat.lt_irrefl i), if_neg (by omega)]
    · rw [pk_un h, dblS_at k i]
      by_cases h2 : i < k
      · rw [if_pos h2, if_pos (by omega)]
      · rw [if_neg h2, if_neg (by omega)]
/-- the doubled row, byte by byte -/
def dbF (f : Nat → Int32) (i : Nat) : Int32 := if i = 15 then (f 15 <<< ((1 : Int32) &&& 31) &&& 255) ^^^ foldM f else dblE (f i) (f (i + 1))
theorem dblA_at {f : Nat → Int32} {i : Nat} (hi : i < 16) : dblA f i = dbF f i := by
  unfold dblA dbF
  by_cases h : i = 15
  · subst h
    rw [pk_us, if_pos rfl, dblS_at 15 15, if_neg (by decide)]
  · rw [pk_un h, if_neg h, dblS_at 15 i, if_pos (by omega)]
theorem dblW_at {f g : Nat → Int32} {i : Nat} (hi : i < 16) : dblW f g i = dbF f i := by
  unfold dblW dbF
  by_cases h : i = 15
  · subst h
    rw [pk_us, if_pos rfl]
  · rw [pk_un h, if_neg h, dblM_at 15 i, if_pos (by omega)]
theorem dbF_cg {f f' : Nat → Int32} (h : Eq16 f f') : Eq16 (dbF f) (dbF f') := by
  intro i hi
  unfold dbF foldM
  rw [h 15 (by decide), h 0 (by decide)]
  by_cases hh : i = 15
  · rw [if_pos hh, if_pos hh]
  · rw [if_neg hh, if_neg hh, h i hi, h (i + 1) (by omega)]
theorem dv_E {x y : Int32} (hx : By x) (hy : By y) : dvM x (y >>> ((7 : Int32) &&& 31)) - dvM x (y >>> ((7 : Int32) &&& 31)) / 256 * 256 = dblE x y := by
  have k : ∀ j : Nat, j < 256 → (dvM (nI j) 0 - dvM (nI j) 0 / 256 * 256 = (nI j <<< ((1 : Int32) &&& 31) &&& 255) ||| 0) ∧ (dvM (nI j) 1 - dvM (nI j) 1 / 256 * 256 = (nI j <<< ((1 : Int32) &&& 31) &&& 255) ||| 1) := by decide +kernel
  have h7 : ∀ j : Nat, j < 256 → (nI j >>> ((7 : Int32) &&& 31) = 0 ∨ nI j >>> ((7 : Int32) &&& 31) = 1) := by decide +kernel
  have c := by_all (P := fun z => z >>> ((7 : Int32) &&& 31) = 0 ∨ z >>> ((7 : Int32) &&& 31) = 1) h7 hy
  obtain ⟨j, hj, rfl⟩ := hx.ex
  unfold dblE
  rcases c with c | c
  · rw [c]; exact (k j hj).1
  · rw [c]; exact (k j hj).2
theorem dv_C {x c : Int32} (hx : By x) (hc : c = 0 ∨ c = 1) : dvM x c / 256 = x >>> ((7 : Int32) &&& 31) := by
  have k : ∀ j : Nat, j < 256 → (dvM (nI j) 0 / 256 = nI j >>> ((7 : Int32) &&& 31)) ∧ (dvM (nI j) 1 / 256 = nI j >>> ((7 : Int32) &&& 31)) := by decide +kernel
  obtain ⟨j, hj, rfl⟩ := hx.ex
  rcases hc with rfl | rfl
  · exact (k j hj).1
  · exact (k j hj).2
theorem dv_0 {x : Int32} (hx : By x) : dvM x 0 - dvM x 0 / 256 * 256 = x <<< ((1 : Int32) &&& 31) &&& 255 := by
  have k : ∀ j : Nat, j < 256 → (dvM (nI j) 0 - dvM (nI j) 0 / 256 * 256 = nI j <<< ((1 : Int32) &&& 31) &&& 255) := by decide +kernel
  exact by_all (P := fun x => dvM x 0 - dvM x 0 / 256 * 256 = x <<< ((1 : Int32) &&& 31) &&& 255) k hx
theorem fold_C {x : Int32} (hx : By x) : 135 * (x >>> ((7 : Int32) &&& 31)) = if x < 128 then 0 else 135 := by
  have k : ∀ j : Nat, j < 256 → (135 * (nI j >>> ((7 : Int32) &&& 31)) = if nI j < 128 then 0 else 135) := by decide +kernel
  exact by_all (P := fun x => 135 * (x >>> ((7 : Int32) &&& 31)) = if x < 128 then 0 else 135) k hx
/-- doubling from the last byte on writes the doubled row's bytes (the last one without the fold) and leaves the rest -/
theorem tw0_at {f h : Nat → Int32} (bf : ∀ i, i < 16 → By (f i)) (bh : ∀ i, i < 32 → By (h i)) : ∀ k, k ≤ 16 → (∀ i, i < 16 → (tw0 f h k).1 i = if 15 < i + k then (if i = 15 then f 15 <<< ((1 : Int32) &&& 31) &&& 255 else dblE (f i) (f (i + 1))) else h i) ∧ (∀ i, 16 ≤ i → (tw0 f h k).1 i = h i) ∧ (tw0 f h k).2 = if k = 0 then 0 else f (16 - k) >>> ((7 : Int32) &&& 31)
  | 0, _ => ⟨fun i hi => by rw [if_neg (by omega)]; rfl, fun i hi => rfl, rfl⟩
  | k + 1, hk => by
    obtain ⟨h1, h2, h3⟩ := tw0_at bf bh k (by omega)
    have hc := (tw0_by bf bh k (by omega)).2
    refine ⟨?_, ?_, ?_⟩
    · intro i hi
      show upd (tw0 f h k).1 (16 * 0 + (15 - k)) _ i = _
      by_cases hh : i = 16 * 0 + (15 - k)
      · rw [hh, pk_us, if_pos (by omega)]
        by_cases h0 : k = 0
        · subst h0
          rw [if_pos (by decide)]
          exact dv_0 (bf 15 (by decide))
        · rw [if_neg (by omega), h3, if_neg h0, show 16 * 0 + (15 - k) = 15 - k by omega, show 15 - k + 1 = 16 - k by omega]
          exact dv_E (bf _ (by omega)) (bf _ (by omega))
      · rw [pk_un hh, h1 i hi]
        by_cases hq : 15 < i + k
        · rw [if_pos hq, if_pos (show 15 < i + (k + 1) by omega)]
        · rw [if_neg hq, if_neg (show ¬ 15 < i + (k + 1) by omega)]
    · intro i hi
      show upd (tw0 f h k).1 (16 * 0 + (15 - k)) _ i = _
      rw [pk_un (by omega), h2 i hi]
    · show dvM (f (15 - k)) (tw0 f h k).2 / 256 = _
      rw [if_neg (by omega), dv_C (bf _ (by omega)) hc, show 16 - (k + 1) = 15 - k by omega]
theorem tw0W_at {f h : Nat → Int32} (bf : ∀ i, i < 16 → By (f i)) (bh : ∀ i, i < 32 → By (h i)) {i : Nat} (hi : i < 16) : tw0W f h i = dbF f i := by
  obtain ⟨h1, h2, h3⟩ := tw0_at bf bh 16 (by decide)
  rw [if_neg (by decide)] at h3
  unfold tw0W dbF foldM
  by_cases h : i = 15
  · subst h
    rw [show 16 * 0 + 15 = 15 from rfl, pk_us, if_pos rfl, h1 15 (by decide), if_pos (by decide), if_pos rfl, h3, fold_C (bf 0 (by decide))]
  · rw [show 16 * 0 + 15 = 15 from rfl, pk_un h, if_neg h, h1 i hi, if_pos (by omega), if_neg h]
theorem tw1_at {h : Nat → Int32} (bh : ∀ i, i < 32 → By (h i)) : ∀ k, k ≤ 16 → (∀ i, i < 16 → (tw1 h k).1 (16 + i) = if 15 < i + k then (if i = 15 then h 15 <<< ((1 : Int32) &&& 31) &&& 255 else dblE (h i) (h (i + 1))) else h (16 + i)) ∧ (∀ i, i < 16 → (tw1 h k).1 i = h i) ∧ (tw1 h k).2 = if k = 0 then 0 else h (16 - k) >>> ((7 : Int32) &&& 31)
  | 0, _ => ⟨fun i hi => by rw [if_neg (by omega)]; rfl, fun i hi => rfl, rfl⟩
  | k + 1, hk => by
    obtain ⟨h1, h2, h3⟩ := tw1_at bh k (by omega)
    have hc := (tw1_by bh k (by omega)).2
    have e : (tw1 h k).1 (15 - k) = h (15 - k) := h2 _ (by omega)
    refine ⟨?_, ?_, ?_⟩
    · intro i hi
      show upd (tw1 h k).1 (16 * 1 + (15 - k)) (dvM ((tw1 h k).1 (15 - k)) _ - dvM ((tw1 h k).1 (15 - k)) _ / 256 * 256) (16 + i) = _
      rw [e]
      by_cases hh : 16 + i = 16 * 1 + (15 - k)
      · have hi2 : i = 15 - k := by omega
        rw [hh, pk_us, if_pos (by omega)]
        by_cases h0 : k = 0
        · subst h0
          rw [if_pos hi2, h3, if_pos rfl]
          exact dv_0 (bh 15 (by decide))
        · rw [if_neg (by omega), h3, if_neg h0, hi2, show 15 - k + 1 = 16 - k by omega]
          exact dv_E (bh _ (by omega)) (bh _ (by omega))
      · rw [pk_un hh, h1 i hi]
        by_cases hq : 15 < i + k
        · rw [if_pos hq, if_pos (show 15 < i + (k + 1) by omega)]
        · rw [if_neg hq, if_neg (show ¬ 15 < i + (k + 1) by omega)]
    · intro i hi
      show upd (tw1 h k).1 (16 * 1 + (15 - k)) _ i = _
      rw [pk_un (by omega), h2 i hi]
    · show dvM ((tw1 h k).1 (15 - k)) (tw1 h k).2 / 256 = _
      rw [e, if_neg (by omega), dv_C (bh _ (by omega)) hc, show 16 - (k + 1) = 15 - k by omega]
theorem tw1W_at {h : Nat → Int32} (bh : ∀ i, i < 32 → By (h i)) {i : Nat} (hi : i < 16) : tw1W h (16 + i) = dbF h i ∧ tw1W h i = h i := by
  obtain ⟨h1, h2, h3⟩ := tw1_at bh 16 (by decide)
  rw [if_neg (by decide)] at h3
  unfold tw1W dbF foldM
  refine ⟨?_, ?_⟩
  · by_cases hh : i = 15
    · subst hh
      rw [show 16 * 1 + 15 = 16 + 15 from rfl, pk_us, if_pos rfl, h1 15 (by decide), if_pos (by decide), if_pos rfl, h3, fold_C (bh 0 (by decide))]
    · rw [show 16 * 1 + 15 = 16 + 15 from rfl, pk_un (by omega), if_neg hh, h1 i hi, if_pos (by omega), if_neg hh]
  · rw [show 16 * 1 + 15 = 31 from rfl, pk_un (by omega), h2 i hi]
