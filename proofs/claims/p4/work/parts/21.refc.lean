/-- a doubled byte with its carry -/
def dvM (x c : Int32) : Int32 := 2 * x + c
theorem dv_by {x c : Int32} (hx : By x) (hc : c = 0 ∨ c = 1) : By (dvM x c - dvM x c / 256 * 256) ∧ (dvM x c / 256 = 0 ∨ dvM x c / 256 = 1) := by
  have k : ∀ j : Nat, j < 256 → ((dvM (nI j) 0 - dvM (nI j) 0 / 256 * 256 = nI (dvM (nI j) 0 - dvM (nI j) 0 / 256 * 256).toNatClampNeg ∧ (dvM (nI j) 0 - dvM (nI j) 0 / 256 * 256).toNatClampNeg < 256) ∧ (dvM (nI j) 0 / 256 = 0 ∨ dvM (nI j) 0 / 256 = 1)) ∧ ((dvM (nI j) 1 - dvM (nI j) 1 / 256 * 256 = nI (dvM (nI j) 1 - dvM (nI j) 1 / 256 * 256).toNatClampNeg ∧ (dvM (nI j) 1 - dvM (nI j) 1 / 256 * 256).toNatClampNeg < 256) ∧ (dvM (nI j) 1 / 256 = 0 ∨ dvM (nI j) 1 / 256 = 1)) := by decide +kernel
  obtain ⟨j, hj, rfl⟩ := hx.ex
  rcases hc with rfl | rfl
  · exact (k j hj).1
  · exact (k j hj).2
/-- doubled from the last byte on: (the half keys, the carry), f the row that is read -/
def tw0 (f h : Nat → Int32) : Nat → (Nat → Int32) × Int32
  | 0 => (h, 0)
  | i + 1 => (upd (tw0 f h i).1 (16 * 0 + (15 - i)) (dvM (f (15 - i)) (tw0 f h i).2 - dvM (f (15 - i)) (tw0 f h i).2 / 256 * 256), dvM (f (15 - i)) (tw0 f h i).2 / 256)
def tw1 (h : Nat → Int32) : Nat → (Nat → Int32) × Int32
  | 0 => (h, 0)
  | i + 1 => (upd (tw1 h i).1 (16 * 1 + (15 - i)) (dvM ((tw1 h i).1 (15 - i)) (tw1 h i).2 - dvM ((tw1 h i).1 (15 - i)) (tw1 h i).2 / 256 * 256), dvM ((tw1 h i).1 (15 - i)) (tw1 h i).2 / 256)
theorem tw0_by {f h : Nat → Int32} (hf : ∀ i, i < 16 → By (f i)) (hh : ∀ i, i < 32 → By (h i)) : ∀ k, k ≤ 16 → (∀ i, i < 32 → By ((tw0 f h k).1 i)) ∧ ((tw0 f h k).2 = 0 ∨ (tw0 f h k).2 = 1)
  | 0, _ => ⟨hh, Or.inl rfl⟩
  | k + 1, hk => by
    obtain ⟨h1, h2⟩ := tw0_by hf hh k (by omega)
    have h3 := dv_by (hf (15 - k) (by omega)) h2
    exact ⟨By.upd h1 h3.1, h3.2⟩
theorem tw1_by {h : Nat → Int32} (hh : ∀ i, i < 32 → By (h i)) : ∀ k, k ≤ 16 → (∀ i, i < 32 → By ((tw1 h k).1 i)) ∧ ((tw1 h k).2 = 0 ∨ (tw1 h k).2 = 1)
  | 0, _ => ⟨hh, Or.inl rfl⟩
  | k + 1, hk => by
    obtain ⟨h1, h2⟩ := tw1_by hh k (by omega)
    have h3 := dv_by (h1 (15 - k) (by omega)) h2
    exact ⟨By.upd h1 h3.1, h3.2⟩
def tw0W (f h : Nat → Int32) : Nat → Int32 := upd (tw0 f h 16).1 (16 * 0 + 15) ((tw0 f h 16).1 (16 * 0 + 15) ^^^ 135 * (tw0 f h 16).2)
def tw1W (h : Nat → Int32) : Nat → Int32 := upd (tw1 h 16).1 (16 * 1 + 15) ((tw1 h 16).1 (16 * 1 + 15) ^^^ 135 * (tw1 h 16).2)
theorem by_135 {c : Int32} (h : c = 0 ∨ c = 1) : By (135 * c) := by
  rcases h with rfl | rfl
  · exact By.of (j := 0) (by decide)
  · exact By.of (j := 135) (by decide)
theorem tw0W_by {f h : Nat → Int32} (hf : ∀ i, i < 16 → By (f i)) (hh : ∀ i, i < 32 → By (h i)) : ∀ i, i < 32 → By (tw0W f h i) := by
  have k := tw0_by hf hh 16 (by decide)
  exact By.upd k.1 ((k.1 _ (by decide)).xor (by_135 k.2))
theorem tw1W_by {h : Nat → Int32} (hh : ∀ i, i < 32 → By (h i)) : ∀ i, i < 32 → By (tw1W h i) := by
  have k := tw1_by hh 16 (by decide)
  exact By.upd k.1 ((k.1 _ (by decide)).xor (by_135 k.2))
def k15 (i : Nat) : Int32 := nI 15 - nI i
theorem k15_1 (i : Nat) : k15 i + Int32.ofInt (-1) = k15 (i + 1) := by
  unfold k15
  rw [← nI_1 i, show Int32.ofInt (-1) = -1 from rfl, Int32.sub_eq_add_neg, Int32.sub_eq_add_neg, Int32.neg_add, Int32.add_assoc, Int32.sub_eq_add_neg]
theorem k15_e {i : Nat} (h : i ≤ 15) : k15 i = nI (15 - i) := pk_sub h
theorem k15_t {i : Nat} (h : k15 i < 0) : 15 < i := by
  rcases Nat.lt_or_ge 15 i with q | q
  · exact q
  · rw [k15_e q] at h; exact absurd h (nI_pos (by omega))
theorem k15_f {i : Nat} (h : ¬ k15 i < 0) (hi : i ≤ 16) : i < 16 := by
  rcases Nat.lt_or_ge i 16 with q | q
  · exact q
  · have e : i = 16 := by omega
    subst e
    exact absurd (by decide) h
set_option maxHeartbeats 4000000 in
set_option maxRecDepth 100000 in
theorem lp_tw0 {p : Program} {l : Launch} {e : Env} {R : Room} {s : State} {m : MethodId} {args : Array Value} {below : List Frame} {meth : Method} {c : Code} {cells slots : Nat} {Q : State → Prop} {E : EE} {A : Nat → Prop} {r bK bB bP bS bU bW bH bT bV bC bL bZ : Nat} {thr rdr mdr msr lcr wrr : Int32} {gT gH : Nat → Int32} (B : Bd p s m args meth c cX3_twice 5 none RX3 E A) (hf : cells ≤ R.cells ∧ slots ≤ R.slots) 
    (kk : ∀ (H : Heap) (locs : List Loc) (ls : Array Slot), va_P E.1 classes [(r, .inr (3, [.int thr, .int rdr, .int mdr, .int msr, .ref bK, .ref bB, .ref bP, .ref bS, .ref bU, .ref bW, .ref bH, .ref bT, .ref bV, .ref bC, .ref bL, .int lcr, .ref bZ, .int wrr])), (bH, .inl (E.2.1, 32, .inl ((tw0 gT gH 16).1))), (bT, .inl (E.2.1, 16, .inl gT))] H → va_D A [(r, .inr (3, [.int thr, .int rdr, .int mdr, .int msr, .ref bK, .ref bB, .ref bP, .ref bS, .ref bU, .ref bW, .ref bH, .ref bT, .ref bV, .ref bC, .ref bL, .int lcr, .ref bZ, .int wrr])), (bH, .inl (E.2.1, 32, .inl ((tw0 gT gH 16).1))), (bT, .inl (E.2.1, 16, .inl gT))] → va_S A s.heap H locs → lv_has ls 5 [(3, .int (k15 16)), (2, .int ((tw0 gT gH 16).2)), (0, .ref r), (1, .int 0)] → W p l e R s m args below meth c H locs cells slots Q (F0 m 64 ls [])) :
    ∀ (fu i : Nat), i ≤ 16 → 16 < i + fu → ∀ (H : Heap) (locs : List Loc) (ls : Array Slot), va_P E.1 classes [(r, .inr (3, [.int thr, .int rdr, .int mdr, .int msr, .ref bK, .ref bB, .ref bP, .ref bS, .ref bU, .ref bW, .ref bH, .ref bT, .ref bV, .ref bC, .ref bL, .int lcr, .ref bZ, .int wrr])), (bH, .inl (E.2.1, 32, .inl ((tw0 gT gH i).1))), (bT, .inl (E.2.1, 16, .inl gT))] H → va_D A [(r, .inr (3, [.int thr, .int rdr, .int mdr, .int msr, .ref bK, .ref bB, .ref bP, .ref bS, .ref bU, .ref bW, .ref bH, .ref bT, .ref bV, .ref bC, .ref bL, .int lcr, .ref bZ, .int wrr])), (bH, .inl (E.2.1, 32, .inl ((tw0 gT gH i).1))), (bT, .inl (E.2.1, 16, .inl gT))] → va_S A s.heap H locs → lv_has ls 5 [(3, .int (k15 i)), (2, .int ((tw0 gT gH i).2)), (0, .ref r), (1, .int 0)] → W p l e R s m args below meth c H locs cells slots Q (F0 m 5 ls []) := by
  have hx := B.1
  have hb := B.2.1
  intro fu
  induction fu with
  | zero =>
    intro i h1 h2
    exact absurd h2 (by omega)
  | succ fu ih =>
    intro i hi hin H locs ls hP hD hS hl
    refine lv_iload_n hx hb dX3_twice_5 rfl (lv_at hl 0 rfl) ?_
    refine lv_if_lt (tgt := 64) hx hb dX3_twice_6 (by decide) (fun c_6 => ?_) (fun c_6 => ?_)
    · have hj : i = 16 := by have := k15_t c_6; omega
      subst hj
      exact kk _ _ _ hP hD hS hl
    · have hj : i < 16 := k15_f c_6 hi
      have ek : k15 i = nI (15 - i) := k15_e (by omega)
      refine lv_iconst (v := 2) hx hb dX3_twice_9 (by decide) ?_
      refine lv_iload_n hx hb dX3_twice_10 rfl (lv_at hl 3 rfl) ?_
      refine lv_if_ne (tgt := 23) hx hb dX3_twice_11 (by decide) (fun c_11 => ?_) (fun c_11 => ?_)
      · exact absurd rfl c_11
      · refine lv_aload_n hx hb dX3_twice_14 rfl (lv_at hl 2 rfl) ?_
        refine x_get B hP 0 rfl rfl i_X3 11 (by decide) g_300 rfl dX3_twice_15 ?_
        refine lv_iload_n hx hb dX3_twice_18 rfl (lv_at hl 0 rfl) ?_
        refine x_ald B hP 2 rfl (15 - i) ek (by omega) (by decide) dX3_twice_19 ?_
        refine lv_goto (tgt := 29) hx hb dX3_twice_20 (by decide) ?_
        refine lv_imul hx hb dX3_twice_29 ?_
        refine lv_iload_n hx hb dX3_twice_30 rfl (lv_at hl 1 rfl) ?_
        refine lv_iadd hx hb dX3_twice_31 ?_
        refine lv_istore (lv' := [(4, .int ((2 * (gT (15 - i))) + (tw0 gT gH i).2)), (3, .int (k15 i)), (2, .int ((tw0 gT gH i).2)), (0, .ref r), (1, .int 0)]) hx hb dX3_twice_32 hl (by decide) rfl (fun ls hl => ?_)
        refine lv_aload_n hx hb dX3_twice_34 rfl (lv_at hl 3 rfl) ?_
        refine x_get B hP 0 rfl rfl i_X3 10 (by decide) g_299 rfl dX3_twice_35 ?_
        refine lv_bipush (v := 16) hx hb dX3_twice_38 (by decide) ?_
        refine lv_iload_n hx hb dX3_twice_40 rfl (lv_at hl 4 rfl) ?_
        refine lv_imul hx hb dX3_twice_41 ?_
        refine lv_iload_n hx hb dX3_twice_42 rfl (lv_at hl 1 rfl) ?_
        refine lv_iadd hx hb dX3_twice_43 ?_
        refine lv_iload hx hb dX3_twice_44 (lv_at hl 0 rfl) ?_
        refine lv_sipush (v := 256) hx hb dX3_twice_46 (by decide) ?_
        refine lv_irem hx hb dX3_twice_49 (by decide) ?_
        refine x_ast B hP hD hS 1 rfl ((16 * 0) + (15 - i)) (na_add (na_mul rfl rfl) ek) (by omega) (by decide) dX3_twice_50 (fun H locs hP hD hS => ?_)
        have hP : va_P E.1 classes [(r, .inr (3, [.int thr, .int rdr, .int mdr, .int msr, .ref bK, .ref bB, .ref bP, .ref bS, .ref bU, .ref bW, .ref bH, .ref bT, .ref bV, .ref bC, .ref bL, .int lcr, .ref bZ, .int wrr])), (bH, .inl (E.2.1, 32, .inl (upd ((tw0 gT gH i).1) ((16 * 0) + (15 - i)) (((2 * (gT (15 - i))) + (tw0 gT gH i).2) - ((2 * (gT (15 - i))) + (tw0 gT gH i).2) / 256 * 256)))), (bT, .inl (E.2.1, 16, .inl gT))] _ := hP
        have hD : va_D A [(r, .inr (3, [.int thr, .int rdr, .int mdr, .int msr, .ref bK, .ref bB, .ref bP, .ref bS, .ref bU, .ref bW, .ref bH, .ref bT, .ref bV, .ref bC, .ref bL, .int lcr, .ref bZ, .int wrr])), (bH, .inl (E.2.1, 32, .inl (upd ((tw0 gT gH i).1) ((16 * 0) + (15 - i)) (((2 * (gT (15 - i))) + (tw0 gT gH i).2) - ((2 * (gT (15 - i))) + (tw0 gT gH i).2) / 256 * 256)))), (bT, .inl (E.2.1, 16, .inl gT))] := hD
        refine lv_iload hx hb dX3_twice_51 (lv_at hl 0 rfl) ?_
        refine lv_sipush (v := 256) hx hb dX3_twice_53 (by decide) ?_
        refine lv_idiv hx hb dX3_twice_56 (by decide) ?_
        refine lv_istore_n (lv' := [(2, .int (((2 * (gT (15 - i))) + (tw0 gT gH i).2) / 256)), (4, .int ((2 * (gT (15 - i))) + (tw0 gT gH i).2)), (3, .int (k15 i)), (0, .ref r), (1, .int 0)]) hx hb dX3_twice_57 rfl hl (by decide) rfl (fun ls hl => ?_)
        refine lv_iinc (v := (k15 (i + 1))) (lv' := [(3, .int (k15 (i + 1))), (2, .int (((2 * (gT (15 - i))) + (tw0 gT gH i).2) / 256)), (4, .int ((2 * (gT (15 - i))) + (tw0 gT gH i).2)), (0, .ref r), (1, .int 0)]) hx hb dX3_twice_58 hl (k := 2) rfl (k15_1 i) (by decide) rfl (fun ls hl => ?_)
        refine lv_goto (tgt := 5) hx hb dX3_twice_61 (by decide) ?_
        have hP : va_P E.1 classes [(r, .inr (3, [.int thr, .int rdr, .int mdr, .int msr, .ref bK, .ref bB, .ref bP, .ref bS, .ref bU, .ref bW, .ref bH, .ref bT, .ref bV, .ref bC, .ref bL, .int lcr, .ref bZ, .int wrr])), (bH, .inl (E.2.1, 32, .inl ((tw0 gT gH (i + 1)).1))), (bT, .inl (E.2.1, 16, .inl gT))] _ := hP
        have hD : va_D A [(r, .inr (3, [.int thr, .int rdr, .int mdr, .int msr, .ref bK, .ref bB, .ref bP, .ref bS, .ref bU, .ref bW, .ref bH, .ref bT, .ref bV, .ref bC, .ref bL, .int lcr, .ref bZ, .int wrr])), (bH, .inl (E.2.1, 32, .inl ((tw0 gT gH (i + 1)).1))), (bT, .inl (E.2.1, 16, .inl gT))] := hD
        exact ih (i + 1) (by omega) (by omega) _ _ _ hP hD hS (lv_sub hl [0, 1, 3, 4] rfl)
set_option maxHeartbeats 4000000 in
set_option maxRecDepth 100000 in
/-- the reference: twice(0) -/
theorem c_X3_twice_0 (l : Launch) (E : EE) (r bK bB bP bS bU bW bH bT bV bC bL bZ : Nat) (thr rdr mdr msr lcr wrr : Int32) (gT gH : Nat → Int32) : Cv l yX3_twice (.code yX3_twice cX3_twice 5 none) ({ frames := 0, cells := 0, slots := 0, locals := 0 }) E [.ref r, .int 0] [(r, .inr (3, [.int thr, .int rdr, .int mdr, .int msr, .ref bK, .ref bB, .ref bP, .ref bS, .ref bU, .ref bW, .ref bH, .ref bT, .ref bV, .ref bC, .ref bL, .int lcr, .ref bZ, .int wrr])), (bH, .inl (E.2.1, 32, .inl gH)), (bT, .inl (E.2.1, 16, .inl gT))] [(r, .inr (3, [.int thr, .int rdr, .int mdr, .int msr, .ref bK, .ref bB, .ref bP, .ref bS, .ref bU, .ref bW, .ref bH, .ref bT, .ref bV, .ref bC, .ref bL, .int lcr, .ref bZ, .int wrr])), (bH, .inl (E.2.1, 32, .inl (tw0W gT gH))), (bT, .inl (E.2.1, 16, .inl gT))] := by
  refine Cv.of (by decide) (Nat.le_of_ble_eq_true rfl) ?_
  intro p e s m below meth c A ls B hP hD hS hl
  have hl : lv_has ls 5 [(0, .ref r), (1, .int 0)] := hl
  have B : Bd p s m _ meth c cX3_twice 5 none RX3 E A := B
  have hx := B.1
  have hb := B.2.1
  have hP : va_P E.1 classes [(r, .inr (3, [.int thr, .int rdr, .int mdr, .int msr, .ref bK, .ref bB, .ref bP, .ref bS, .ref bU, .ref bW, .ref bH, .ref bT, .ref bV, .ref bC, .ref bL, .int lcr, .ref bZ, .int wrr])), (bH, .inl (E.2.1, 32, .inl gH)), (bT, .inl (E.2.1, 16, .inl gT))] _ := hP
  have hD : va_D A [(r, .inr (3, [.int thr, .int rdr, .int mdr, .int msr, .ref bK, .ref bB, .ref bP, .ref bS, .ref bU, .ref bW, .ref bH, .ref bT, .ref bV, .ref bC, .ref bL, .int lcr, .ref bZ, .int wrr])), (bH, .inl (E.2.1, 32, .inl gH)), (bT, .inl (E.2.1, 16, .inl gT))] := hD
  refine lv_iconst (v := 0) hx hb dX3_twice_0 (by decide) ?_
  refine lv_istore_n (lv' := [(2, .int 0), (0, .ref r), (1, .int 0)]) hx hb dX3_twice_1 rfl hl (by decide) rfl (fun ls hl => ?_)
  refine lv_bipush (v := 15) hx hb dX3_twice_2 (by decide) ?_
  refine lv_istore_n (lv' := [(3, .int 15), (2, .int 0), (0, .ref r), (1, .int 0)]) hx hb dX3_twice_4 rfl hl (by decide) rfl (fun ls hl => ?_)
  have hP : va_P E.1 classes [(r, .inr (3, [.int thr, .int rdr, .int mdr, .int msr, .ref bK, .ref bB, .ref bP, .ref bS, .ref bU, .ref bW, .ref bH, .ref bT, .ref bV, .ref bC, .ref bL, .int lcr, .ref bZ, .int wrr])), (bH, .inl (E.2.1, 32, .inl ((tw0 gT gH 0).1))), (bT, .inl (E.2.1, 16, .inl gT))] _ := hP
  have hD : va_D A [(r, .inr (3, [.int thr, .int rdr, .int mdr, .int msr, .ref bK, .ref bB, .ref bP, .ref bS, .ref bU, .ref bW, .ref bH, .ref bT, .ref bV, .ref bC, .ref bL, .int lcr, .ref bZ, .int wrr])), (bH, .inl (E.2.1, 32, .inl ((tw0 gT gH 0).1))), (bT, .inl (E.2.1, 16, .inl gT))] := hD
  refine lp_tw0 B ⟨by decide, by decide⟩  (fun H locs ls hP hD hS hl => ?_) 17 0 (by omega) (by omega) _ _ _ hP hD hS (lv_sub hl [0, 1, 2, 3] rfl)
  refine lv_aload_n hx hb dX3_twice_64 rfl (lv_at hl 2 rfl) ?_
  refine x_get B hP 0 rfl rfl i_X3 10 (by decide) g_299 rfl dX3_twice_65 ?_
  refine lv_bipush (v := 16) hx hb dX3_twice_68 (by decide) ?_
  refine lv_iload_n hx hb dX3_twice_70 rfl (lv_at hl 3 rfl) ?_
  refine lv_imul hx hb dX3_twice_71 ?_
  refine lv_bipush (v := 15) hx hb dX3_twice_72 (by decide) ?_
  refine lv_iadd hx hb dX3_twice_74 ?_
  refine lv_aload_n hx hb dX3_twice_75 rfl (lv_at hl 2 rfl) ?_
  refine x_get B hP 0 rfl rfl i_X3 10 (by decide) g_299 rfl dX3_twice_76 ?_
  refine lv_bipush (v := 16) hx hb dX3_twice_79 (by decide) ?_
  refine lv_iload_n hx hb dX3_twice_81 rfl (lv_at hl 3 rfl) ?_
  refine lv_imul hx hb dX3_twice_82 ?_
  refine lv_bipush (v := 15) hx hb dX3_twice_83 (by decide) ?_
  refine lv_iadd hx hb dX3_twice_85 ?_
  refine x_ald B hP 1 rfl ((16 * 0) + 15) (na_add (na_mul rfl rfl) rfl) (by omega) (by decide) dX3_twice_86 ?_
  refine lv_sipush (v := 135) hx hb dX3_twice_87 (by decide) ?_
  refine lv_iload_n hx hb dX3_twice_90 rfl (lv_at hl 1 rfl) ?_
  refine lv_imul hx hb dX3_twice_91 ?_
  refine lv_ixor hx hb dX3_twice_92 ?_
  refine x_ast B hP hD hS 1 rfl ((16 * 0) + 15) (na_add (na_mul rfl rfl) rfl) (by omega) (by decide) dX3_twice_93 (fun H locs hP hD hS => ?_)
  have hP : va_P E.1 classes [(r, .inr (3, [.int thr, .int rdr, .int mdr, .int msr, .ref bK, .ref bB, .ref bP, .ref bS, .ref bU, .ref bW, .ref bH, .ref bT, .ref bV, .ref bC, .ref bL, .int lcr, .ref bZ, .int wrr])), (bH, .inl (E.2.1, 32, .inl (upd ((tw0 gT gH 16).1) ((16 * 0) + 15) ((((tw0 gT gH 16).1) ((16 * 0) + 15)) ^^^ (135 * (tw0 gT gH 16).2))))), (bT, .inl (E.2.1, 16, .inl gT))] _ := hP
  have hD : va_D A [(r, .inr (3, [.int thr, .int rdr, .int mdr, .int msr, .ref bK, .ref bB, .ref bP, .ref bS, .ref bU, .ref bW, .ref bH, .ref bT, .ref bV, .ref bC, .ref bL, .int lcr, .ref bZ, .int wrr])), (bH, .inl (E.2.1, 32, .inl (upd ((tw0 gT gH 16).1) ((16 * 0) + 15) ((((tw0 gT gH 16).1) ((16 * 0) + 15)) ^^^ (135 * (tw0 gT gH 16).2))))), (bT, .inl (E.2.1, 16, .inl gT))] := hD
  have hP : va_P E.1 classes [(r, .inr (3, [.int thr, .int rdr, .int mdr, .int msr, .ref bK, .ref bB, .ref bP, .ref bS, .ref bU, .ref bW, .ref bH, .ref bT, .ref bV, .ref bC, .ref bL, .int lcr, .ref bZ, .int wrr])), (bH, .inl (E.2.1, 32, .inl (tw0W gT gH))), (bT, .inl (E.2.1, 16, .inl gT))] _ := hP
  have hD : va_D A [(r, .inr (3, [.int thr, .int rdr, .int mdr, .int msr, .ref bK, .ref bB, .ref bP, .ref bS, .ref bU, .ref bW, .ref bH, .ref bT, .ref bV, .ref bC, .ref bL, .int lcr, .ref bZ, .int wrr])), (bH, .inl (E.2.1, 32, .inl (tw0W gT gH))), (bT, .inl (E.2.1, 16, .inl gT))] := hD
  exact x_vret B hP hD hS dX3_twice_94
set_option maxHeartbeats 4000000 in
set_option maxRecDepth 100000 in
theorem lp_tw1 {p : Program} {l : Launch} {e : Env} {R : Room} {s : State} {m : MethodId} {args : Array Value} {below : List Frame} {meth : Method} {c : Code} {cells slots : Nat} {Q : State → Prop} {E : EE} {A : Nat → Prop} {r bK bB bP bS bU bW bH bT bV bC bL bZ : Nat} {thr rdr mdr msr lcr wrr : Int32} {gT gH : Nat → Int32} (B : Bd p s m args meth c cX3_twice 5 none RX3 E A) (hf : cells ≤ R.cells ∧ slots ≤ R.slots) 
    (kk : ∀ (H : Heap) (locs : List Loc) (ls : Array Slot), va_P E.1 classes [(r, .inr (3, [.int thr, .int rdr, .int mdr, .int msr, .ref bK, .ref bB, .ref bP, .ref bS, .ref bU, .ref bW, .ref bH, .ref bT, .ref bV, .ref bC, .ref bL, .int lcr, .ref bZ, .int wrr])), (bH, .inl (E.2.1, 32, .inl ((tw1 gH 16).1))), (bT, .inl (E.2.1, 16, .inl gT))] H → va_D A [(r, .inr (3, [.int thr, .int rdr, .int mdr, .int msr, .ref bK, .ref bB, .ref bP, .ref bS, .ref bU, .ref bW, .ref bH, .ref bT, .ref bV, .ref bC, .ref bL, .int lcr, .ref bZ, .int wrr])), (bH, .inl (E.2.1, 32, .inl ((tw1 gH 16).1))), (bT, .inl (E.2.1, 16, .inl gT))] → va_S A s.heap H locs → lv_has ls 5 [(3, .int (k15 16)), (2, .int ((tw1 gH 16).2)), (0, .ref r), (1, .int 1)] → W p l e R s m args below meth c H locs cells slots Q (F0 m 64 ls [])) :
    ∀ (fu i : Nat), i ≤ 16 → 16 < i + fu → ∀ (H : Heap) (locs : List Loc) (ls : Array Slot), va_P E.1 classes [(r, .inr (3, [.int thr, .int rdr, .int mdr, .int msr, .ref bK, .ref bB, .ref bP, .ref bS, .ref bU, .ref bW, .ref bH, .ref bT, .ref bV, .ref bC, .ref bL, .int lcr, .ref bZ, .int wrr])), (bH, .inl (E.2.1, 32, .inl ((tw1 gH i).1))), (bT, .inl (E.2.1, 16, .inl gT))] H → va_D A [(r, .inr (3, [.int thr, .int rdr, .int mdr, .int msr, .ref bK, .ref bB, .ref bP, .ref bS, .ref bU, .ref bW, .ref bH, .ref bT, .ref bV, .ref bC, .ref bL, .int lcr, .ref bZ, .int wrr])), (bH, .inl (E.2.1, 32, .inl ((tw1 gH i).1))), (bT, .inl (E.2.1, 16, .inl gT))] → va_S A s.heap H locs → lv_has ls 5 [(3, .int (k15 i)), (2, .int ((tw1 gH i).2)), (0, .ref r), (1, .int 1)] → W p l e R s m args below meth c H locs cells slots Q (F0 m 5 ls []) := by
  have hx := B.1
  have hb := B.2.1
  intro fu
  induction fu with
  | zero =>
    intro i h1 h2
    exact absurd h2 (by omega)
  | succ fu ih =>
    intro i hi hin H locs ls hP hD hS hl
    refine lv_iload_n hx hb dX3_twice_5 rfl (lv_at hl 0 rfl) ?_
    refine lv_if_lt (tgt := 64) hx hb dX3_twice_6 (by decide) (fun c_6 => ?_) (fun c_6 => ?_)
    · have hj : i = 16 := by have := k15_t c_6; omega
      subst hj
      exact kk _ _ _ hP hD hS hl
    · have hj : i < 16 := k15_f c_6 hi
      have ek : k15 i = nI (15 - i) := k15_e (by omega)
      refine lv_iconst (v := 2) hx hb dX3_twice_9 (by decide) ?_
      refine lv_iload_n hx hb dX3_twice_10 rfl (lv_at hl 3 rfl) ?_
      refine lv_if_ne (tgt := 23) hx hb dX3_twice_11 (by decide) (fun c_11 => ?_) (fun c_11 => ?_)
      · refine lv_aload_n hx hb dX3_twice_23 rfl (lv_at hl 2 rfl) ?_
        refine x_get B hP 0 rfl rfl i_X3 10 (by decide) g_299 rfl dX3_twice_24 ?_
        refine lv_iload_n hx hb dX3_twice_27 rfl (lv_at hl 0 rfl) ?_
        refine x_ald B hP 1 rfl (15 - i) ek (by omega) (by decide) dX3_twice_28 ?_
        refine lv_imul hx hb dX3_twice_29 ?_
        refine lv_iload_n hx hb dX3_twice_30 rfl (lv_at hl 1 rfl) ?_
        refine lv_iadd hx hb dX3_twice_31 ?_
        refine lv_istore (lv' := [(4, .int ((2 * (((tw1 gH i).1) (15 - i))) + (tw1 gH i).2)), (3, .int (k15 i)), (2, .int ((tw1 gH i).2)), (0, .ref r), (1, .int 1)]) hx hb dX3_twice_32 hl (by decide) rfl (fun ls hl => ?_)
        refine lv_aload_n hx hb dX3_twice_34 rfl (lv_at hl 3 rfl) ?_
        refine x_get B hP 0 rfl rfl i_X3 10 (by decide) g_299 rfl dX3_twice_35 ?_
        refine lv_bipush (v := 16) hx hb dX3_twice_38 (by decide) ?_
        refine lv_iload_n hx hb dX3_twice_40 rfl (lv_at hl 4 rfl) ?_
        refine lv_imul hx hb dX3_twice_41 ?_
        refine lv_iload_n hx hb dX3_twice_42 rfl (lv_at hl 1 rfl) ?_
        refine lv_iadd hx hb dX3_twice_43 ?_
        refine lv_iload hx hb dX3_twice_44 (lv_at hl 0 rfl) ?_
        refine lv_sipush (v := 256) hx hb dX3_twice_46 (by decide) ?_
        refine lv_irem hx hb dX3_twice_49 (by decide) ?_
        refine x_ast B hP hD hS 1 rfl ((16 * 1) + (15 - i)) (na_add (na_mul rfl rfl) ek) (by omega) (by decide) dX3_twice_50 (fun H locs hP hD hS => ?_)
        have hP : va_P E.1 classes [(r, .inr (3, [.int thr, .int rdr, .int mdr, .int msr, .ref bK, .ref bB, .ref bP, .ref bS, .ref bU, .ref bW, .ref bH, .ref bT, .ref bV, .ref bC, .ref bL, .int lcr, .ref bZ, .int wrr])), (bH, .inl (E.2.1, 32, .inl (upd ((tw1 gH i).1) ((16 * 1) + (15 - i)) (((2 * (((tw1 gH i).1) (15 - i))) + (tw1 gH i).2) - ((2 * (((tw1 gH i).1) (15 - i))) + (tw1 gH i).2) / 256 * 256)))), (bT, .inl (E.2.1, 16, .inl gT))] _ := hP
        have hD : va_D A [(r, .inr (3, [.int thr, .int rdr, .int mdr, .int msr, .ref bK, .ref bB, .ref bP, .ref bS, .ref bU, .ref bW, .ref bH, .ref bT, .ref bV, .ref bC, .ref bL, .int lcr, .ref bZ, .int wrr])), (bH, .inl (E.2.1, 32, .inl (upd ((tw1 gH i).1) ((16 * 1) + (15 - i)) (((2 * (((tw1 gH i).1) (15 - i))) + (tw1 gH i).2) - ((2 * (((tw1 gH i).1) (15 - i))) + (tw1 gH i).2) / 256 * 256)))), (bT, .inl (E.2.1, 16, .inl gT))] := hD
        refine lv_iload hx hb dX3_twice_51 (lv_at hl 0 rfl) ?_
        refine lv_sipush (v := 256) hx hb dX3_twice_53 (by decide) ?_
        refine lv_idiv hx hb dX3_twice_56 (by decide) ?_
        refine lv_istore_n (lv' := [(2, .int (((2 * (((tw1 gH i).1) (15 - i))) + (tw1 gH i).2) / 256)), (4, .int ((2 * (((tw1 gH i).1) (15 - i))) + (tw1 gH i).2)), (3, .int (k15 i)), (0, .ref r), (1, .int 1)]) hx hb dX3_twice_57 rfl hl (by decide) rfl (fun ls hl => ?_)
        refine lv_iinc (v := (k15 (i + 1))) (lv' := [(3, .int (k15 (i + 1))), (2, .int (((2 * (((tw1 gH i).1) (15 - i))) + (tw1 gH i).2) / 256)), (4, .int ((2 * (((tw1 gH i).1) (15 - i))) + (tw1 gH i).2)), (0, .ref r), (1, .int 1)]) hx hb dX3_twice_58 hl (k := 2) rfl (k15_1 i) (by decide) rfl (fun ls hl => ?_)
        refine lv_goto (tgt := 5) hx hb dX3_twice_61 (by decide) ?_
        have hP : va_P E.1 classes [(r, .inr (3, [.int thr, .int rdr, .int mdr, .int msr, .ref bK, .ref bB, .ref bP, .ref bS, .ref bU, .ref bW, .ref bH, .ref bT, .ref bV, .ref bC, .ref bL, .int lcr, .ref bZ, .int wrr])), (bH, .inl (E.2.1, 32, .inl ((tw1 gH (i + 1)).1))), (bT, .inl (E.2.1, 16, .inl gT))] _ := hP
        have hD : va_D A [(r, .inr (3, [.int thr, .int rdr, .int mdr, .int msr, .ref bK, .ref bB, .ref bP, .ref bS, .ref bU, .ref bW, .ref bH, .ref bT, .ref bV, .ref bC, .ref bL, .int lcr, .ref bZ, .int wrr])), (bH, .inl (E.2.1, 32, .inl ((tw1 gH (i + 1)).1))), (bT, .inl (E.2.1, 16, .inl gT))] := hD
        exact ih (i + 1) (by omega) (by omega) _ _ _ hP hD hS (lv_sub hl [0, 1, 3, 4] rfl)
      · exact absurd c_11 (by decide)
set_option maxHeartbeats 4000000 in
set_option maxRecDepth 100000 in
/-- the reference: twice(1) -/
theorem c_X3_twice_1 (l : Launch) (E : EE) (r bK bB bP bS bU bW bH bT bV bC bL bZ : Nat) (thr rdr mdr msr lcr wrr : Int32) (gT gH : Nat → Int32) : Cv l yX3_twice (.code yX3_twice cX3_twice 5 none) ({ frames := 0, cells := 0, slots := 0, locals := 0 }) E [.ref r, .int 1] [(r, .inr (3, [.int thr, .int rdr, .int mdr, .int msr, .ref bK, .ref bB, .ref bP, .ref bS, .ref bU, .ref bW, .ref bH, .ref bT, .ref bV, .ref bC, .ref bL, .int lcr, .ref bZ, .int wrr])), (bH, .inl (E.2.1, 32, .inl gH)), (bT, .inl (E.2.1, 16, .inl gT))] [(r, .inr (3, [.int thr, .int rdr, .int mdr, .int msr, .ref bK, .ref bB, .ref bP, .ref bS, .ref bU, .ref bW, .ref bH, .ref bT, .ref bV, .ref bC, .ref bL, .int lcr, .ref bZ, .int wrr])), (bH, .inl (E.2.1, 32, .inl (tw1W gH))), (bT, .inl (E.2.1, 16, .inl gT))] := by
  refine Cv.of (by decide) (Nat.le_of_ble_eq_true rfl) ?_
  intro p e s m below meth c A ls B hP hD hS hl
  have hl : lv_has ls 5 [(0, .ref r), (1, .int 1)] := hl
  have B : Bd p s m _ meth c cX3_twice 5 none RX3 E A := B
  have hx := B.1
  have hb := B.2.1
  have hP : va_P E.1 classes [(r, .inr (3, [.int thr, .int rdr, .int mdr, .int msr, .ref bK, .ref bB, .ref bP, .ref bS, .ref bU, .ref bW, .ref bH, .ref bT, .ref bV, .ref bC, .ref bL, .int lcr, .ref bZ, .int wrr])), (bH, .inl (E.2.1, 32, .inl gH)), (bT, .inl (E.2.1, 16, .inl gT))] _ := hP
  have hD : va_D A [(r, .inr (3, [.int thr, .int rdr, .int mdr, .int msr, .ref bK, .ref bB, .ref bP, .ref bS, .ref bU, .ref bW, .ref bH, .ref bT, .ref bV, .ref bC, .ref bL, .int lcr, .ref bZ, .int wrr])), (bH, .inl (E.2.1, 32, .inl gH)), (bT, .inl (E.2.1, 16, .inl gT))] := hD
  refine lv_iconst (v := 0) hx hb dX3_twice_0 (by decide) ?_
  refine lv_istore_n (lv' := [(2, .int 0), (0, .ref r), (1, .int 1)]) hx hb dX3_twice_1 rfl hl (by decide) rfl (fun ls hl => ?_)
  refine lv_bipush (v := 15) hx hb dX3_twice_2 (by decide) ?_
  refine lv_istore_n (lv' := [(3, .int 15), (2, .int 0), (0, .ref r), (1, .int 1)]) hx hb dX3_twice_4 rfl hl (by decide) rfl (fun ls hl => ?_)
  have hP : va_P E.1 classes [(r, .inr (3, [.int thr, .int rdr, .int mdr, .int msr, .ref bK, .ref bB, .ref bP, .ref bS, .ref bU, .ref bW, .ref bH, .ref bT, .ref bV, .ref bC, .ref bL, .int lcr, .ref bZ, .int wrr])), (bH, .inl (E.2.1, 32, .inl ((tw1 gH 0).1))), (bT, .inl (E.2.1, 16, .inl gT))] _ := hP
  have hD : va_D A [(r, .inr (3, [.int thr, .int rdr, .int mdr, .int msr, .ref bK, .ref bB, .ref bP, .ref bS, .ref bU, .ref bW, .ref bH, .ref bT, .ref bV, .ref bC, .ref bL, .int lcr, .ref bZ, .int wrr])), (bH, .inl (E.2.1, 32, .inl ((tw1 gH 0).1))), (bT, .inl (E.2.1, 16, .inl gT))] := hD
  refine lp_tw1 B ⟨by decide, by decide⟩  (fun H locs ls hP hD hS hl => ?_) 17 0 (by omega) (by omega) _ _ _ hP hD hS (lv_sub hl [0, 1, 2, 3] rfl)
  refine lv_aload_n hx hb dX3_twice_64 rfl (lv_at hl 2 rfl) ?_
  refine x_get B hP 0 rfl rfl i_X3 10 (by decide) g_299 rfl dX3_twice_65 ?_
  refine lv_bipush (v := 16) hx hb dX3_twice_68 (by decide) ?_
  refine lv_iload_n hx hb dX3_twice_70 rfl (lv_at hl 3 rfl) ?_
  refine lv_imul hx hb dX3_twice_71 ?_
  refine lv_bipush (v := 15) hx hb dX3_twice_72 (by decide) ?_
  refine lv_iadd hx hb dX3_twice_74 ?_
  refine lv_aload_n hx hb dX3_twice_75 rfl (lv_at hl 2 rfl) ?_
  refine x_get B hP 0 rfl rfl i_X3 10 (by decide) g_299 rfl dX3_twice_76 ?_
  refine lv_bipush (v := 16) hx hb dX3_twice_79 (by decide) ?_
  refine lv_iload_n hx hb dX3_twice_81 rfl (lv_at hl 3 rfl) ?_
  refine lv_imul hx hb dX3_twice_82 ?_
  refine lv_bipush (v := 15) hx hb dX3_twice_83 (by decide) ?_
  refine lv_iadd hx hb dX3_twice_85 ?_
  refine x_ald B hP 1 rfl ((16 * 1) + 15) (na_add (na_mul rfl rfl) rfl) (by omega) (by decide) dX3_twice_86 ?_
  refine lv_sipush (v := 135) hx hb dX3_twice_87 (by decide) ?_
  refine lv_iload_n hx hb dX3_twice_90 rfl (lv_at hl 1 rfl) ?_
  refine lv_imul hx hb dX3_twice_91 ?_
  refine lv_ixor hx hb dX3_twice_92 ?_
  refine x_ast B hP hD hS 1 rfl ((16 * 1) + 15) (na_add (na_mul rfl rfl) rfl) (by omega) (by decide) dX3_twice_93 (fun H locs hP hD hS => ?_)
  have hP : va_P E.1 classes [(r, .inr (3, [.int thr, .int rdr, .int mdr, .int msr, .ref bK, .ref bB, .ref bP, .ref bS, .ref bU, .ref bW, .ref bH, .ref bT, .ref bV, .ref bC, .ref bL, .int lcr, .ref bZ, .int wrr])), (bH, .inl (E.2.1, 32, .inl (upd ((tw1 gH 16).1) ((16 * 1) + 15) ((((tw1 gH 16).1) ((16 * 1) + 15)) ^^^ (135 * (tw1 gH 16).2))))), (bT, .inl (E.2.1, 16, .inl gT))] _ := hP
  have hD : va_D A [(r, .inr (3, [.int thr, .int rdr, .int mdr, .int msr, .ref bK, .ref bB, .ref bP, .ref bS, .ref bU, .ref bW, .ref bH, .ref bT, .ref bV, .ref bC, .ref bL, .int lcr, .ref bZ, .int wrr])), (bH, .inl (E.2.1, 32, .inl (upd ((tw1 gH 16).1) ((16 * 1) + 15) ((((tw1 gH 16).1) ((16 * 1) + 15)) ^^^ (135 * (tw1 gH 16).2))))), (bT, .inl (E.2.1, 16, .inl gT))] := hD
  have hP : va_P E.1 classes [(r, .inr (3, [.int thr, .int rdr, .int mdr, .int msr, .ref bK, .ref bB, .ref bP, .ref bS, .ref bU, .ref bW, .ref bH, .ref bT, .ref bV, .ref bC, .ref bL, .int lcr, .ref bZ, .int wrr])), (bH, .inl (E.2.1, 32, .inl (tw1W gH))), (bT, .inl (E.2.1, 16, .inl gT))] _ := hP
  have hD : va_D A [(r, .inr (3, [.int thr, .int rdr, .int mdr, .int msr, .ref bK, .ref bB, .ref bP, .ref bS, .ref bU, .ref bW, .ref bH, .ref bT, .ref bV, .ref bC, .ref bL, .int lcr, .ref bZ, .int wrr])), (bH, .inl (E.2.1, 32, .inl (tw1W gH))), (bT, .inl (E.2.1, 16, .inl gT))] := hD
  exact x_vret B hP hD hS dX3_twice_94
theorem rem_16 (i : Nat) (h : i < 2 ^ 31) : nI i - nI i / 16 * 16 = nI (i % 16) := na_rem (a := i) (b := 16) rfl rfl h (by decide) (by decide)
theorem rem_4 (i : Nat) (h : i < 2 ^ 31) : nI i - nI i / 4 * 4 = nI (i % 4) := na_rem (a := i) (b := 4) rfl rfl h (by decide) (by decide)
/-- the words, k of their bytes, and the next power -/
def mwR (s key w : Nat → Int32) : Nat → (Nat → Int32) × Int32
  | 0 => (w, 1)
  | k + 1 => if k < 16 then (upd (mwR s key w k).1 k (key k), (mwR s key w k).2) else if k % 16 < 4 then (upd (mwR s key w k).1 k ((mwR s key w k).1 (k - 16) ^^^ s ((mwR s key w k).1 (if k % 4 < 3 then k - 3 else k - 7)).toNatClampNeg ^^^ (if k % 16 = 0 then (mwR s key w k).2 else 0)), if k % 16 = 3 then tmR (mwR s key w k).2 2 else (mwR s key w k).2) else (upd (mwR s key w k).1 k ((mwR s key w k).1 (k - 16) ^^^ (mwR s key w k).1 (k - 4)), (mwR s key w k).2)
theorem mwR_by {s key w : Nat → Int32} (hs : ∀ i, i < 256 → By (s i)) (hk : ∀ i, i < 16 → By (key i)) (hw : ∀ i, i < 176 → By (w i)) : ∀ k, k ≤ 176 → (∀ i, i < 176 → By ((mwR s key w k).1 i)) ∧ By (mwR s key w k).2
  | 0, _ => ⟨hw, By.of (j := 1) (by decide)⟩
  | k + 1, h => by
    obtain ⟨h1, h2⟩ := mwR_by hs hk hw k (by omega)
    unfold mwR
    split
    · exact ⟨By.upd h1 (hk k (by omega)), h2⟩
    · split
      · refine ⟨By.upd h1 (((h1 _ (by omega)).xor (hs _ (h1 _ (by split <;> omega)).2)).xor ?_), ?_⟩
        · split
          · exact h2
          · exact by_0
        · show By (if k % 16 = 3 then tmR (mwR s key w k).2 2 else (mwR s key w k).2)
          split
          · exact tmR_by 2 h2
          · exact h2
      · exact ⟨By.upd h1 ((h1 _ (by omega)).xor (h1 _ (by omega))), h2⟩
set_option maxHeartbeats 4000000 in
set_option maxRecDepth 100000 in
theorem lp_rwords {p : Program} {l : Launch} {e : Env} {R : Room} {s : State} {m : MethodId} {args : Array Value} {below : List Frame} {meth : Method} {c : Code} {cells slots : Nat} {Q : State → Prop} {E : EE} {A : Nat → Prop} {r bK bB bP bS bU bW bH bT bV bC bL bZ : Nat} {thr rdr mdr msr lcr wrr : Int32} {gS gK gW : Nat → Int32} (B : Bd p s m args meth c cX3_makeWords 4 none RX3 E A) (hf : cells ≤ R.cells ∧ slots ≤ R.slots) (hR : 1 ≤ R.frames ∧ 24 ≤ R.locals) (hs : ∀ i, i < 256 → By (gS i)) (hk : ∀ i, i < 16 → By (gK i)) (hw : ∀ i, i < 176 → By (gW i))
    (kk : ∀ (H : Heap) (locs : List Loc) (ls : Array Slot), va_P E.1 classes [(r, .inr (3, [.int thr, .int rdr, .int mdr, .int msr, .ref bK, .ref bB, .ref bP, .ref bS, .ref bU, .ref bW, .ref bH, .ref bT, .ref bV, .ref bC, .ref bL, .int lcr, .ref bZ, .int wrr])), (bK, .inl (E.2.1, 16, .inl gK)), (bS, .inl (E.2.1, 256, .inl gS)), (bW, .inl (E.2.1, 176, .inl ((mwR gS gK gW 176).1)))] H → va_D A [(r, .inr (3, [.int thr, .int rdr, .int mdr, .int msr, .ref bK, .ref bB, .ref bP, .ref bS, .ref bU, .ref bW, .ref bH, .ref bT, .ref bV, .ref bC, .ref bL, .int lcr, .ref bZ, .int wrr])), (bK, .inl (E.2.1, 16, .inl gK)), (bS, .inl (E.2.1, 256, .inl gS)), (bW, .inl (E.2.1, 176, .inl ((mwR gS gK gW 176).1)))] → va_S A s.heap H locs → lv_has ls 4 [(2, .int (nI 176)), (1, .int ((mwR gS gK gW 176).2)), (0, .ref r)] → W p l e R s m args below meth c H locs cells slots Q (F0 m 149 ls [])) :
    ∀ (fu i : Nat), i ≤ 176 → 176 < i + fu → ∀ (H : Heap) (locs : List Loc) (ls : Array Slot), va_P E.1 classes [(r, .inr (3, [.int thr, .int rdr, .int mdr, .int msr, .ref bK, .ref bB, .ref bP, .ref bS, .ref bU, .ref bW, .ref bH, .ref bT, .ref bV, .ref bC, .ref bL, .int lcr, .ref bZ, .int wrr])), (bK, .inl (E.2.1, 16, .inl gK)), (bS, .inl (E.2.1, 256, .inl gS)), (bW, .inl (E.2.1, 176, .inl ((mwR gS gK gW i).1)))] H → va_D A [(r, .inr (3, [.int thr, .int rdr, .int mdr, .int msr, .ref bK, .ref bB, .ref bP, .ref bS, .ref bU, .ref bW, .ref bH, .ref bT, .ref bV, .ref bC, .ref bL, .int lcr, .ref bZ, .int wrr])), (bK, .inl (E.2.1, 16, .inl gK)), (bS, .inl (E.2.1, 256, .inl gS)), (bW, .inl (E.2.1, 176, .inl ((mwR gS gK gW i).1)))] → va_S A s.heap H locs → lv_has ls 4 [(2, .int (nI i)), (1, .int ((mwR gS gK gW i).2)), (0, .ref r)] → W p l e R s m args below meth c H locs cells slots Q (F0 m 4 ls []) := by
  have hx := B.1
  have hb := B.2.1
  intro fu
  induction fu with
  | zero =>
    intro i h1 h2
    exact absurd h2 (by omega)
  | succ fu ih =>
    intro i hi hin H locs ls hP hD hS hl
    refine lv_iload_n hx hb dX3_makeWords_4 rfl (lv_at hl 0 rfl) ?_
    refine lv_sipush (v := 176) hx hb dX3_makeWords_5 (by decide) ?_
    refine lv_icmp_ge (tgt := 149) hx hb dX3_makeWords_8 (by decide) (fun c_8 => ?_) (fun c_8 => ?_)
    · have hj : i = 176 := by have := ge_t (b := 176) c_8 (by omega) (by omega); omega
      subst hj
      exact kk _ _ _ hP hD hS hl
    · have hj : i < 176 := by have := ge_f (b := 176) c_8 (by omega) (by omega); omega
      refine lv_iload_n hx hb dX3_makeWords_11 rfl (lv_at hl 0 rfl) ?_
      refine lv_bipush (v := 16) hx hb dX3_makeWords_12 (by decide) ?_
      refine lv_icmp_ge (tgt := 32) hx hb dX3_makeWords_14 (by decide) (fun c_14 => ?_) (fun c_14 => ?_)
      · have n_14 : ¬ i < 16 := by have := ge_t (b := 16) c_14 (by omega) (by omega); omega
        refine lv_iload_n hx hb dX3_makeWords_32 rfl (lv_at hl 0 rfl) ?_
        refine lv_bipush (v := 16) hx hb dX3_makeWords_33 (by decide) ?_
        refine lv_irem hx hb dX3_makeWords_35 (by decide) ?_
        refine lv_iconst (v := 4) hx hb dX3_makeWords_36 (by decide) ?_
        refine lv_icmp_ge (tgt := 119) hx hb dX3_makeWords_37 (by decide) (fun c_37 => ?_) (fun c_37 => ?_)
        · have n_37 : ¬ i % 16 < 4 := by have c2 := c_37; rw [rem_16 i (by omega)] at c2; have := ge_t (b := 4) c2 (by omega) (by omega); omega
          refine lv_aload_n hx hb dX3_makeWords_119 rfl (lv_at hl 2 rfl) ?_
          refine x_get B hP 0 rfl rfl i_X3 9 (by decide) g_298 rfl dX3_makeWords_120 ?_
          refine lv_iload_n hx hb dX3_makeWords_123 rfl (lv_at hl 0 rfl) ?_
          refine lv_aload_n hx hb dX3_makeWords_124 rfl (lv_at hl 2 rfl) ?_
          refine x_get B hP 0 rfl rfl i_X3 9 (by decide) g_298 rfl dX3_makeWords_125 ?_
          refine lv_iload_n hx hb dX3_makeWords_128 rfl (lv_at hl 0 rfl) ?_
          refine lv_bipush (v := 16) hx hb dX3_makeWords_129 (by decide) ?_
          refine lv_isub hx hb dX3_makeWords_131 ?_
          refine x_ald B hP 3 rfl (i - 16) (na_sub rfl rfl (by omega)) (by omega) (by decide) dX3_makeWords_132 ?_
          refine lv_aload_n hx hb dX3_makeWords_133 rfl (lv_at hl 2 rfl) ?_
          refine x_get B hP 0 rfl rfl i_X3 9 (by decide) g_298 rfl dX3_makeWords_134 ?_
          refine lv_iload_n hx hb dX3_makeWords_137 rfl (lv_at hl 0 rfl) ?_
          refine lv_iconst (v := 4) hx hb dX3_makeWords_138 (by decide) ?_
          refine lv_isub hx hb dX3_makeWords_139 ?_
          refine x_ald B hP 3 rfl (i - 4) (na_sub rfl rfl (by omega)) (by omega) (by decide) dX3_makeWords_140 ?_
          refine lv_ixor hx hb dX3_makeWords_141 ?_
          refine x_ast B hP hD hS 3 rfl i rfl (by omega) (by decide) dX3_makeWords_142 (fun H locs hP hD hS => ?_)
          have hP : va_P E.1 classes [(r, .inr (3, [.int thr, .int rdr, .int mdr, .int msr, .ref bK, .ref bB, .ref bP, .ref bS, .ref bU, .ref bW, .ref bH, .ref bT, .ref bV, .ref bC, .ref bL, .int lcr, .ref bZ, .int wrr])), (bK, .inl (E.2.1, 16, .inl gK)), (bS, .inl (E.2.1, 256, .inl gS)), (bW, .inl (E.2.1, 176, .inl (upd ((mwR gS gK gW i).1) i ((((mwR gS gK gW i).1) (i - 16)) ^^^ (((mwR gS gK gW i).1) (i - 4))))))] _ := hP
          have hD : va_D A [(r, .inr (3, [.int thr, .int rdr, .int mdr, .int msr, .ref bK, .ref bB, .ref bP, .ref bS, .ref bU, .ref bW, .ref bH, .ref bT, .ref bV, .ref bC, .ref bL, .int lcr, .ref bZ, .int wrr])), (bK, .inl (E.2.1, 16, .inl gK)), (bS, .inl (E.2.1, 256, .inl gS)), (bW, .inl (E.2.1, 176, .inl (upd ((mwR gS gK gW i).1) i ((((mwR gS gK gW i).1) (i - 16)) ^^^ (((mwR gS gK gW i).1) (i - 4))))))] := hD
          refine lv_iinc (v := (nI (i + 1))) (lv' := [(2, .int (nI (i + 1))), (1, .int ((mwR gS gK gW i).2)), (0, .ref r)]) hx hb dX3_makeWords_143 hl (k := 0) rfl (ii_1 i) (by decide) rfl (fun ls hl => ?_)
          refine lv_goto (tgt := 4) hx hb dX3_makeWords_146 (by decide) ?_
          have eF : mwR gS gK gW (i + 1) = ((upd ((mwR gS gK gW i).1) i ((((mwR gS gK gW i).1) (i - 16)) ^^^ (((mwR gS gK gW i).1) (i - 4)))), (mwR gS gK gW i).2) := by
            show (if i < 16 then _ else if i % 16 < 4 then _ else _) = _
            rw [if_neg n_14, if_neg n_37]
          have hP : va_P E.1 classes [(r, .inr (3, [.int thr, .int rdr, .int mdr, .int msr, .ref bK, .ref bB, .ref bP, .ref bS, .ref bU, .ref bW, .ref bH, .ref bT, .ref bV, .ref bC, .ref bL, .int lcr, .ref bZ, .int wrr])), (bK, .inl (E.2.1, 16, .inl gK)), (bS, .inl (E.2.1, 256, .inl gS)), (bW, .inl (E.2.1, 176, .inl ((mwR gS gK gW (i + 1)).1)))] _ := (by rw [eF]; exact hP)
          have hD : va_D A [(r, .inr (3, [.int thr, .int rdr, .int mdr, .int msr, .ref bK, .ref bB, .ref bP, .ref bS, .ref bU, .ref bW, .ref bH, .ref bT, .ref bV, .ref bC, .ref bL, .int lcr, .ref bZ, .int wrr])), (bK, .inl (E.2.1, 16, .inl gK)), (bS, .inl (E.2.1, 256, .inl gS)), (bW, .inl (E.2.1, 176, .inl ((mwR gS gK gW (i + 1)).1)))] := (by rw [eF]; exact hD)
          exact ih (i + 1) (by omega) (by omega) _ _ _ hP hD hS (by rw [eF]; dsimp only; exact lv_sub hl [0, 1, 2] rfl)
        · have n_37 : i % 16 < 4 := by have c2 := c_37; rw [rem_16 i (by omega)] at c2; exact ge_f (b := 4) c2 (by omega) (by omega)
          refine lv_iload_n hx hb dX3_makeWords_40 rfl (lv_at hl 0 rfl) ?_
          refine lv_iconst (v := 4) hx hb dX3_makeWords_41 (by decide) ?_
          refine lv_irem hx hb dX3_makeWords_42 (by decide) ?_
          refine lv_iconst (v := 3) hx hb dX3_makeWords_43 (by decide) ?_
          refine lv_icmp_ge (tgt := 53) hx hb dX3_makeWords_44 (by decide) (fun c_44 => ?_) (fun c_44 => ?_)
          · have n_44 : ¬ i % 4 < 3 := by have c2 := c_44; rw [rem_4 i (by omega)] at c2; have := ge_t (b := 3) c2 (by omega) (by omega); omega
            refine lv_iload_n hx hb dX3_makeWords_53 rfl (lv_at hl 0 rfl) ?_
            refine lv_bipush (v := 7) hx hb dX3_makeWords_54 (by decide) ?_
            refine lv_isub hx hb dX3_makeWords_56 ?_
            refine lv_istore_n (lv' := [(3, .int ((nI i) - 7)), (2, .int (nI i)), (1, .int ((mwR gS gK gW i).2)), (0, .ref r)]) hx hb dX3_makeWords_57 rfl hl (by decide) rfl (fun ls hl => ?_)
            refine lv_aload_n hx hb dX3_makeWords_58 rfl (lv_at hl 3 rfl) ?_
            refine x_get B hP 0 rfl rfl i_X3 9 (by decide) g_298 rfl dX3_makeWords_59 ?_
            refine lv_iload_n hx hb dX3_makeWords_62 rfl (lv_at hl 1 rfl) ?_
            refine lv_aload_n hx hb dX3_makeWords_63 rfl (lv_at hl 3 rfl) ?_
            refine x_get B hP 0 rfl rfl i_X3 9 (by decide) g_298 rfl dX3_makeWords_64 ?_
            refine lv_iload_n hx hb dX3_makeWords_67 rfl (lv_at hl 1 rfl) ?_
            refine lv_bipush (v := 16) hx hb dX3_makeWords_68 (by decide) ?_
            refine lv_isub hx hb dX3_makeWords_70 ?_
            refine x_ald B hP 3 rfl (i - 16) (na_sub rfl rfl (by omega)) (by omega) (by decide) dX3_makeWords_71 ?_
            refine lv_aload_n hx hb dX3_makeWords_72 rfl (lv_at hl 3 rfl) ?_
            refine x_get B hP 0 rfl rfl i_X3 7 (by decide) g_296 rfl dX3_makeWords_73 ?_
            refine lv_aload_n hx hb dX3_makeWords_76 rfl (lv_at hl 3 rfl) ?_
            refine x_get B hP 0 rfl rfl i_X3 9 (by decide) g_298 rfl dX3_makeWords_77 ?_
            refine lv_iload_n hx hb dX3_makeWords_80 rfl (lv_at hl 0 rfl) ?_
            refine x_ald B hP 3 rfl (i - 7) (na_sub rfl rfl (by omega)) (by omega) (by decide) dX3_makeWords_81 ?_
            refine x_ald B hP 2 rfl ((((mwR gS gK gW i).1) (i - 7)).toNatClampNeg) ((((mwR_by hs hk hw i (by omega)).1 (i - 7) (by omega))).1) ((((mwR_by hs hk hw i (by omega)).1 (i - 7) (by omega))).2) (by decide) dX3_makeWords_82 ?_
            refine lv_ixor hx hb dX3_makeWords_83 ?_
            refine lv_iload_n hx hb dX3_makeWords_84 rfl (lv_at hl 1 rfl) ?_
            refine lv_bipush (v := 16) hx hb dX3_makeWords_85 (by decide) ?_
            refine lv_irem hx hb dX3_makeWords_87 (by decide) ?_
            refine lv_if_ne (tgt := 95) hx hb dX3_makeWords_88 (by decide) (fun c_88 => ?_) (fun c_88 => ?_)
            · have n_88 : ¬ i % 16 = 0 := fun h => c_88 (by rw [rem_16 i (by omega), h]; rfl)
              refine lv_iconst (v := 0) hx hb dX3_makeWords_95 (by decide) ?_
              refine lv_ixor hx hb dX3_makeWords_96 ?_
              refine x_ast B hP hD hS 3 rfl i rfl (by omega) (by decide) dX3_makeWords_97 (fun H locs hP hD hS => ?_)
              have hP : va_P E.1 classes [(r, .inr (3, [.int thr, .int rdr, .int mdr, .int msr, .ref bK, .ref bB, .ref bP, .ref bS, .ref bU, .ref bW, .ref bH, .ref bT, .ref bV, .ref bC, .ref bL, .int lcr, .ref bZ, .int wrr])), (bK, .inl (E.2.1, 16, .inl gK)), (bS, .inl (E.2.1, 256, .inl gS)), (bW, .inl (E.2.1, 176, .inl (upd ((mwR gS gK gW i).1) i (((((mwR gS gK gW i).1) (i - 16)) ^^^ (gS ((((mwR gS gK gW i).1) (i - 7)).toNatClampNeg))) ^^^ 0))))] _ := hP
              have hD : va_D A [(r, .inr (3, [.int thr, .int rdr, .int mdr, .int msr, .ref bK, .ref bB, .ref bP, .ref bS, .ref bU, .ref bW, .ref bH, .ref bT, .ref bV, .ref bC, .ref bL, .int lcr, .ref bZ, .int wrr])), (bK, .inl (E.2.1, 16, .inl gK)), (bS, .inl (E.2.1, 256, .inl gS)), (bW, .inl (E.2.1, 176, .inl (upd ((mwR gS gK gW i).1) i (((((mwR gS gK gW i).1) (i - 16)) ^^^ (gS ((((mwR gS gK gW i).1) (i - 7)).toNatClampNeg))) ^^^ 0))))] := hD
              refine lv_iload_n hx hb dX3_makeWords_98 rfl (lv_at hl 1 rfl) ?_
              refine lv_bipush (v := 16) hx hb dX3_makeWords_99 (by decide) ?_
              refine lv_irem hx hb dX3_makeWords_101 (by decide) ?_
              refine lv_iconst (v := 3) hx hb dX3_makeWords_102 (by decide) ?_
              refine lv_icmp_ne (tgt := 114) hx hb dX3_makeWords_103 (by decide) (fun c_103 => ?_) (fun c_103 => ?_)
              · have n_103 : ¬ i % 16 = 3 := fun h => c_103 (by rw [rem_16 i (by omega), h]; rfl)
                refine lv_iload_n hx hb dX3_makeWords_114 rfl (lv_at hl 2 rfl) ?_
                refine lv_istore_n (lv' := [(1, .int ((mwR gS gK gW i).2)), (3, .int ((nI i) - 7)), (2, .int (nI i)), (0, .ref r)]) hx hb dX3_makeWords_115 rfl hl (by decide) rfl (fun ls hl => ?_)
                refine lv_goto (tgt := 143) hx hb dX3_makeWords_116 (by decide) ?_
                refine lv_iinc (v := (nI (i + 1))) (lv' := [(2, .int (nI (i + 1))), (1, .int ((mwR gS gK gW i).2)), (3, .int ((nI i) - 7)), (0, .ref r)]) hx hb dX3_makeWords_143 hl (k := 2) rfl (ii_1 i) (by decide) rfl (fun ls hl => ?_)
                refine lv_goto (tgt := 4) hx hb dX3_makeWords_146 (by decide) ?_
                have eF : mwR gS gK gW (i + 1) = ((upd ((mwR gS gK gW i).1) i (((((mwR gS gK gW i).1) (i - 16)) ^^^ (gS ((((mwR gS gK gW i).1) (i - 7)).toNatClampNeg))) ^^^ 0)), (mwR gS gK gW i).2) := by
                  show (if i < 16 then _ else if i % 16 < 4 then _ else _) = _
                  rw [if_neg n_14, if_pos n_37, if_neg n_44, if_neg n_88, if_neg n_103]
                have hP : va_P E.1 classes [(r, .inr (3, [.int thr, .int rdr, .int mdr, .int msr, .ref bK, .ref bB, .ref bP, .ref bS, .ref bU, .ref bW, .ref bH, .ref bT, .ref bV, .ref bC, .ref bL, .int lcr, .ref bZ, .int wrr])), (bK, .inl (E.2.1, 16, .inl gK)), (bS, .inl (E.2.1, 256, .inl gS)), (bW, .inl (E.2.1, 176, .inl ((mwR gS gK gW (i + 1)).1)))] _ := (by rw [eF]; exact hP)
                have hD : va_D A [(r, .inr (3, [.int thr, .int rdr, .int mdr, .int msr, .ref bK, .ref bB, .ref bP, .ref bS, .ref bU, .ref bW, .ref bH, .ref bT, .ref bV, .ref bC, .ref bL, .int lcr, .ref bZ, .int wrr])), (bK, .inl (E.2.1, 16, .inl gK)), (bS, .inl (E.2.1, 256, .inl gS)), (bW, .inl (E.2.1, 176, .inl ((mwR gS gK gW (i + 1)).1)))] := (by rw [eF]; exact hD)
                exact ih (i + 1) (by omega) (by omega) _ _ _ hP hD hS (by rw [eF]; dsimp only; exact lv_sub hl [0, 1, 3] rfl)
              · have n_103 : i % 16 = 3 := by have c2 := c_103; rw [rem_16 i (by omega)] at c2; exact (nI_eq (b := 3) (by omega) (by decide)).mp c2
                refine lv_iload_n hx hb dX3_makeWords_106 rfl (lv_at hl 2 rfl) ?_
                refine lv_iconst (v := 2) hx hb dX3_makeWords_107 (by decide) ?_
                refine x_Si (wr := [(r, .inr (3, [.int thr, .int rdr, .int mdr, .int msr, .ref bK, .ref bB, .ref bP, .ref bS, .ref bU, .ref bW, .ref bH, .ref bT, .ref bV, .ref bC, .ref bL, .int lcr, .ref bZ, .int wrr])), (bK, .inl (E.2.1, 16, .inl gK)), (bS, .inl (E.2.1, 256, .inl gS)), (bW, .inl (E.2.1, 176, .inl (upd ((mwR gS gK gW i).1) i (((((mwR gS gK gW i).1) (i - 16)) ^^^ (gS ((((mwR gS gK gW i).1) (i - 7)).toNatClampNeg))) ^^^ 0))))]) (isC := []) (isR := [0, 1, 2, 3]) (As := [.int ((mwR gS gK gW i).2), .int 2]) B (c_X3_times l E ((mwR gS gK gW i).2) 2) k_X3_times g_286 s_X3_times ⟨Nat.le_trans (by decide) hR.1, Nat.le_trans (by decide) hR.2, rfl, rfl⟩ hP hD hS ⟨rfl, rfl, rfl, rfl, by decide⟩ rfl hl.1 rfl (Nat.le_of_ble_eq_true rfl) dX3_makeWords_108 hf (fun H locs hP hD hS => ?_)
                have hP : va_P E.1 classes [(r, .inr (3, [.int thr, .int rdr, .int mdr, .int msr, .ref bK, .ref bB, .ref bP, .ref bS, .ref bU, .ref bW, .ref bH, .ref bT, .ref bV, .ref bC, .ref bL, .int lcr, .ref bZ, .int wrr])), (bK, .inl (E.2.1, 16, .inl gK)), (bS, .inl (E.2.1, 256, .inl gS)), (bW, .inl (E.2.1, 176, .inl (upd ((mwR gS gK gW i).1) i (((((mwR gS gK gW i).1) (i - 16)) ^^^ (gS ((((mwR gS gK gW i).1) (i - 7)).toNatClampNeg))) ^^^ 0))))] _ := hP
                have hD : va_D A [(r, .inr (3, [.int thr, .int rdr, .int mdr, .int msr, .ref bK, .ref bB, .ref bP, .ref bS, .ref bU, .ref bW, .ref bH, .ref bT, .ref bV, .ref bC, .ref bL, .int lcr, .ref bZ, .int wrr])), (bK, .inl (E.2.1, 16, .inl gK)), (bS, .inl (E.2.1, 256, .inl gS)), (bW, .inl (E.2.1, 176, .inl (upd ((mwR gS gK gW i).1) i (((((mwR gS gK gW i).1) (i - 16)) ^^^ (gS ((((mwR gS gK gW i).1) (i - 7)).toNatClampNeg))) ^^^ 0))))] := hD
                refine lv_goto (tgt := 115) hx hb dX3_makeWords_111 (by decide) ?_
                refine lv_istore_n (lv' := [(1, .int (tmR ((mwR gS gK gW i).2) 2)), (3, .int ((nI i) - 7)), (2, .int (nI i)), (0, .ref r)]) hx hb dX3_makeWords_115 rfl hl (by decide) rfl (fun ls hl => ?_)
                refine lv_goto (tgt := 143) hx hb dX3_makeWords_116 (by decide) ?_
                refine lv_iinc (v := (nI (i + 1))) (lv' := [(2, .int (nI (i + 1))), (1, .int (tmR ((mwR gS gK gW i).2) 2)), (3, .int ((nI i) - 7)), (0, .ref r)]) hx hb dX3_makeWords_143 hl (k := 2) rfl (ii_1 i) (by decide) rfl (fun ls hl => ?_)
                refine lv_goto (tgt := 4) hx hb dX3_makeWords_146 (by decide) ?_
                have eF : mwR gS gK gW (i + 1) = ((upd ((mwR gS gK gW i).1) i (((((mwR gS gK gW i).1) (i - 16)) ^^^ (gS ((((mwR gS gK gW i).1) (i - 7)).toNatClampNeg))) ^^^ 0)), (tmR ((mwR gS gK gW i).2) 2)) := by
                  show (if i < 16 then _ else if i % 16 < 4 then _ else _) = _
                  rw [if_neg n_14, if_pos n_37, if_neg n_44, if_neg n_88, if_pos n_103]
                have hP : va_P E.1 classes [(r, .inr (3, [.int thr, .int rdr, .int mdr, .int msr, .ref bK, .ref bB, .ref bP, .ref bS, .ref bU, .ref bW, .ref bH, .ref bT, .ref bV, .ref bC, .ref bL, .int lcr, .ref bZ, .int wrr])), (bK, .inl (E.2.1, 16, .inl gK)), (bS, .inl (E.2.1, 256, .inl gS)), (bW, .inl (E.2.1, 176, .inl ((mwR gS gK gW (i + 1)).1)))] _ := (by rw [eF]; exact hP)
                have hD : va_D A [(r, .inr (3, [.int thr, .int rdr, .int mdr, .int msr, .ref bK, .ref bB, .ref bP, .ref bS, .ref bU, .ref bW, .ref bH, .ref bT, .ref bV, .ref bC, .ref bL, .int lcr, .ref bZ, .int wrr])), (bK, .inl (E.2.1, 16, .inl gK)), (bS, .inl (E.2.1, 256, .inl gS)), (bW, .inl (E.2.1, 176, .inl ((mwR gS gK gW (i + 1)).1)))] := (by rw [eF]; exact hD)
                exact ih (i + 1) (by omega) (by omega) _ _ _ hP hD hS (by rw [eF]; dsimp only; exact lv_sub hl [0, 1, 3] rfl)
            · have n_88 : i % 16 = 0 := by have c2 := c_88; rw [rem_16 i (by omega)] at c2; exact (nI_eq (b := 0) (by omega) (by decide)).mp c2
              refine lv_iload_n hx hb dX3_makeWords_91 rfl (lv_at hl 2 rfl) ?_
              refine lv_goto (tgt := 96) hx hb dX3_makeWords_92 (by decide) ?_
              refine lv_ixor hx hb dX3_makeWords_96 ?_
              refine x_ast B hP hD hS 3 rfl i rfl (by omega) (by decide) dX3_makeWords_97 (fun H locs hP hD hS => ?_)
              have hP : va_P E.1 classes [(r, .inr (3, [.int thr, .int rdr, .int mdr, .int msr, .ref bK, .ref bB, .ref bP, .ref bS, .ref bU, .ref bW, .ref bH, .ref bT, .ref bV, .ref bC, .ref bL, .int lcr, .ref bZ, .int wrr])), (bK, .inl (E.2.1, 16, .inl gK)), (bS, .inl (E.2.1, 256, .inl gS)), (bW, .inl (E.2.1, 176, .inl (upd ((mwR gS gK gW i).1) i (((((mwR gS gK gW i).1) (i - 16)) ^^^ (gS ((((mwR gS gK gW i).1) (i - 7)).toNatClampNeg))) ^^^ (mwR gS gK gW i).2))))] _ := hP
              have hD : va_D A [(r, .inr (3, [.int thr, .int rdr, .int mdr, .int msr, .ref bK, .ref bB, .ref bP, .ref bS, .ref bU, .ref bW, .ref bH, .ref bT, .ref bV, .ref bC, .ref bL, .int lcr, .ref bZ, .int wrr])), (bK, .inl (E.2.1, 16, .inl gK)), (bS, .inl (E.2.1, 256, .inl gS)), (bW, .inl (E.2.1, 176, .inl (upd ((mwR gS gK gW i).1) i (((((mwR gS gK gW i).1) (i - 16)) ^^^ (gS ((((mwR gS gK gW i).1) (i - 7)).toNatClampNeg))) ^^^ (mwR gS gK gW i).2))))] := hD
              refine lv_iload_n hx hb dX3_makeWords_98 rfl (lv_at hl 1 rfl) ?_
              refine lv_bipush (v := 16) hx hb dX3_makeWords_99 (by decide) ?_
              refine lv_irem hx hb dX3_makeWords_101 (by decide) ?_
              refine lv_iconst (v := 3) hx hb dX3_makeWords_102 (by decide) ?_
              refine lv_icmp_ne (tgt := 114) hx hb dX3_makeWords_103 (by decide) (fun c_103 => ?_) (fun c_103 => ?_)
              · have n_103 : ¬ i % 16 = 3 := fun h => c_103 (by rw [rem_16 i (by omega), h]; rfl)
                refine lv_iload_n hx hb dX3_makeWords_114 rfl (lv_at hl 2 rfl) ?_
                refine lv_istore_n (lv' := [(1, .int ((mwR gS gK gW i).2)), (3, .int ((nI i) - 7)), (2, .int (nI i)), (0, .ref r)]) hx hb dX3_makeWords_115 rfl hl (by decide) rfl (fun ls hl => ?_)
                refine lv_goto (tgt := 143) hx hb dX3_makeWords_116 (by decide) ?_
                refine lv_iinc (v := (nI (i + 1))) (lv' := [(2, .int (nI (i + 1))), (1, .int ((mwR gS gK gW i).2)), (3, .int ((nI i) - 7)), (0, .ref r)]) hx hb dX3_makeWords_143 hl (k := 2) rfl (ii_1 i) (by decide) rfl (fun ls hl => ?_)
                refine lv_goto (tgt := 4) hx hb dX3_makeWords_146 (by decide) ?_
                have eF : mwR gS gK gW (i + 1) = ((upd ((mwR gS gK gW i).1) i (((((mwR gS gK gW i).1) (i - 16)) ^^^ (gS ((((mwR gS gK gW i).1) (i - 7)).toNatClampNeg))) ^^^ (mwR gS gK gW i).2)), (mwR gS gK gW i).2) := by
                  show (if i < 16 then _ else if i % 16 < 4 then _ else _) = _
                  rw [if_neg n_14, if_pos n_37, if_neg n_44, if_pos n_88, if_neg n_103]
                have hP : va_P E.1 classes [(r, .inr (3, [.int thr, .int rdr, .int mdr, .int msr, .ref bK, .ref bB, .ref bP, .ref bS, .ref bU, .ref bW, .ref bH, .ref bT, .ref bV, .ref bC, .ref bL, .int lcr, .ref bZ, .int wrr])), (bK, .inl (E.2.1, 16, .inl gK)), (bS, .inl (E.2.1, 256, .inl gS)), (bW, .inl (E.2.1, 176, .inl ((mwR gS gK gW (i + 1)).1)))] _ := (by rw [eF]; exact hP)
                have hD : va_D A [(r, .inr (3, [.int thr, .int rdr, .int mdr, .int msr, .ref bK, .ref bB, .ref bP, .ref bS, .ref bU, .ref bW, .ref bH, .ref bT, .ref bV, .ref bC, .ref bL, .int lcr, .ref bZ, .int wrr])), (bK, .inl (E.2.1, 16, .inl gK)), (bS, .inl (E.2.1, 256, .inl gS)), (bW, .inl (E.2.1, 176, .inl ((mwR gS gK gW (i + 1)).1)))] := (by rw [eF]; exact hD)
                exact ih (i + 1) (by omega) (by omega) _ _ _ hP hD hS (by rw [eF]; dsimp only; exact lv_sub hl [0, 1, 3] rfl)
              · have n_103 : i % 16 = 3 := by have c2 := c_103; rw [rem_16 i (by omega)] at c2; exact (nI_eq (b := 3) (by omega) (by decide)).mp c2
                refine lv_iload_n hx hb dX3_makeWords_106 rfl (lv_at hl 2 rfl) ?_
                refine lv_iconst (v := 2) hx hb dX3_makeWords_107 (by decide) ?_
                refine x_Si (wr := [(r, .inr (3, [.int thr, .int rdr, .int mdr, .int msr, .ref bK, .ref bB, .ref bP, .ref bS, .ref bU, .ref bW, .ref bH, .ref bT, .ref bV, .ref bC, .ref bL, .int lcr, .ref bZ, .int wrr])), (bK, .inl (E.2.1, 16, .inl gK)), (bS, .inl (E.2.1, 256, .inl gS)), (bW, .inl (E.2.1, 176, .inl (upd ((mwR gS gK gW i).1) i (((((mwR gS gK gW i).1) (i - 16)) ^^^ (gS ((((mwR gS gK gW i).1) (i - 7)).toNatClampNeg))) ^^^ (mwR gS gK gW i).2))))]) (isC := []) (isR := [0, 1, 2, 3]) (As := [.int ((mwR gS gK gW i).2), .int 2]) B (c_X3_times l E ((mwR gS gK gW i).2) 2) k_X3_times g_286 s_X3_times ⟨Nat.le_trans (by decide) hR.1, Nat.le_trans (by decide) hR.2, rfl, rfl⟩ hP hD hS ⟨rfl, rfl, rfl, rfl, by decide⟩ rfl hl.1 rfl (Nat.le_of_ble_eq_true rfl) dX3_makeWords_108 hf (fun H locs hP hD hS => ?_)
                have hP : va_P E.1 classes [(r, .inr (3, [.int thr, .int rdr, .int mdr, .int msr, .ref bK, .ref bB, .ref bP, .ref bS, .ref bU, .ref bW, .ref bH, .ref bT, .ref bV, .ref bC, .ref bL, .int lcr, .ref bZ, .int wrr])), (bK, .inl (E.2.1, 16, .inl gK)), (bS, .inl (E.2.1, 256, .inl gS)), (bW, .inl (E.2.1, 176, .inl (upd ((mwR gS gK gW i).1) i (((((mwR gS gK gW i).1) (i - 16)) ^^^ (gS ((((mwR gS gK gW i).1) (i - 7)).toNatClampNeg))) ^^^ (mwR gS gK gW i).2))))] _ := hP
                have hD : va_D A [(r, .inr (3, [.int thr, .int rdr, .int mdr, .int msr, .ref bK, .ref bB, .ref bP, .ref bS, .ref bU, .ref bW, .ref bH, .ref bT, .ref bV, .ref bC, .ref bL, .int lcr, .ref bZ, .int wrr])), (bK, .inl (E.2.1, 16, .inl gK)), (bS, .inl (E.2.1, 256, .inl gS)), (bW, .inl (E.2.1, 176, .inl (upd ((mwR gS gK gW i).1) i (((((mwR gS gK gW i).1) (i - 16)) ^^^ (gS ((((mwR gS gK gW i).1) (i - 7)).toNatClampNeg))) ^^^ (mwR gS gK gW i).2))))] := hD
                refine lv_goto (tgt := 115) hx hb dX3_makeWords_111 (by decide) ?_
                refine lv_istore_n (lv' := [(1, .int (tmR ((mwR gS gK gW i).2) 2)), (3, .int ((nI i) - 7)), (2, .int (nI i)), (0, .ref r)]) hx hb dX3_makeWords_115 rfl hl (by decide) rfl (fun ls hl => ?_)
                refine lv_goto (tgt := 143) hx hb dX3_makeWords_116 (by decide) ?_
                refine lv_iinc (v := (nI (i + 1))) (lv' := [(2, .int (nI (i + 1))), (1, .int (tmR ((mwR gS gK gW i).2) 2)), (3, .int ((nI i) - 7)), (0, .ref r)]) hx hb dX3_makeWords_143 hl (k := 2) rfl (ii_1 i) (by decide) rfl (fun ls hl => ?_)
                refine lv_goto (tgt := 4) hx hb dX3_makeWords_146 (by decide) ?_
                have eF : mwR gS gK gW (i + 1) = ((upd ((mwR gS gK gW i).1) i (((((mwR gS gK gW i).1) (i - 16)) ^^^ (gS ((((mwR gS gK gW i).1) (i - 7)).toNatClampNeg))) ^^^ (mwR gS gK gW i).2)), (tmR ((mwR gS gK gW i).2) 2)) := by
                  show (if i < 16 then _ else if i % 16 < 4 then _ else _) = _
                  rw [if_neg n_14, if_pos n_37, if_neg n_44, if_pos n_88, if_pos n_103]
                have hP : va_P E.1 classes [(r, .inr (3, [.int thr, .int rdr, .int mdr, .int msr, .ref bK, .ref bB, .ref bP, .ref bS, .ref bU, .ref bW, .ref bH, .ref bT, .ref bV, .ref bC, .ref bL, .int lcr, .ref bZ, .int wrr])), (bK, .inl (E.2.1, 16, .inl gK)), (bS, .inl (E.2.1, 256, .inl gS)), (bW, .inl (E.2.1, 176, .inl ((mwR gS gK gW (i + 1)).1)))] _ := (by rw [eF]; exact hP)
                have hD : va_D A [(r, .inr (3, [.int thr, .int rdr, .int mdr, .int msr, .ref bK, .ref bB, .ref bP, .ref bS, .ref bU, .ref bW, .ref bH, .ref bT, .ref bV, .ref bC, .ref bL, .int lcr, .ref bZ, .int wrr])), (bK, .inl (E.2.1, 16, .inl gK)), (bS, .inl (E.2.1, 256, .inl gS)), (bW, .inl (E.2.1, 176, .inl ((mwR gS gK gW (i + 1)).1)))] := (by rw [eF]; exact hD)
                exact ih (i + 1) (by omega) (by omega) _ _ _ hP hD hS (by rw [eF]; dsimp only; exact lv_sub hl [0, 1, 3] rfl)
          · have n_44 : i % 4 < 3 := by have c2 := c_44; rw [rem_4 i (by omega)] at c2; exact ge_f (b := 3) c2 (by omega) (by omega)
            refine lv_iload_n hx hb dX3_makeWords_47 rfl (lv_at hl 0 rfl) ?_
            refine lv_iconst (v := 3) hx hb dX3_makeWords_48 (by decide) ?_
            refine lv_isub hx hb dX3_makeWords_49 ?_
            refine lv_goto (tgt := 57) hx hb dX3_makeWords_50 (by decide) ?_
            refine lv_istore_n (lv' := [(3, .int ((nI i) - 3)), (2, .int (nI i)), (1, .int ((mwR gS gK gW i).2)), (0, .ref r)]) hx hb dX3_makeWords_57 rfl hl (by decide) rfl (fun ls hl => ?_)
            refine lv_aload_n hx hb dX3_makeWords_58 rfl (lv_at hl 3 rfl) ?_
            refine x_get B hP 0 rfl rfl i_X3 9 (by decide) g_298 rfl dX3_makeWords_59 ?_
            refine lv_iload_n hx hb dX3_makeWords_62 rfl (lv_at hl 1 rfl) ?_
            refine lv_aload_n hx hb dX3_makeWords_63 rfl (lv_at hl 3 rfl) ?_
            refine x_get B hP 0 rfl rfl i_X3 9 (by decide) g_298 rfl dX3_makeWords_64 ?_
            refine lv_iload_n hx hb dX3_makeWords_67 rfl (lv_at hl 1 rfl) ?_
            refine lv_bipush (v := 16) hx hb dX3_makeWords_68 (by decide) ?_
            refine lv_isub hx hb dX3_makeWords_70 ?_
            refine x_ald B hP 3 rfl (i - 16) (na_sub rfl rfl (by omega)) (by omega) (by decide) dX3_makeWords_71 ?_
            refine lv_aload_n hx hb dX3_makeWords_72 rfl (lv_at hl 3 rfl) ?_
            refine x_get B hP 0 rfl rfl i_X3 7 (by decide) g_296 rfl dX3_makeWords_73 ?_
            refine lv_aload_n hx hb dX3_makeWords_76 rfl (lv_at hl 3 rfl) ?_
            refine x_get B hP 0 rfl rfl i_X3 9 (by decide) g_298 rfl dX3_makeWords_77 ?_
            refine lv_iload_n hx hb dX3_makeWords_80 rfl (lv_at hl 0 rfl) ?_
            refine x_ald B hP 3 rfl (i - 3) (na_sub rfl rfl (by omega)) (by omega) (by decide) dX3_makeWords_81 ?_
            refine x_ald B hP 2 rfl ((((mwR gS gK gW i).1) (i - 3)).toNatClampNeg) ((((mwR_by hs hk hw i (by omega)).1 (i - 3) (by omega))).1) ((((mwR_by hs hk hw i (by omega)).1 (i - 3) (by omega))).2) (by decide) dX3_makeWords_82 ?_
            refine lv_ixor hx hb dX3_makeWords_83 ?_
            refine lv_iload_n hx hb dX3_makeWords_84 rfl (lv_at hl 1 rfl) ?_
            refine lv_bipush (v := 16) hx hb dX3_makeWords_85 (by decide) ?_
            refine lv_irem hx hb dX3_makeWords_87 (by decide) ?_
            refine lv_if_ne (tgt := 95) hx hb dX3_makeWords_88 (by decide) (fun c_88 => ?_) (fun c_88 => ?_)
            · have n_88 : ¬ i % 16 = 0 := fun h => c_88 (by rw [rem_16 i (by omega), h]; rfl)
              refine lv_iconst (v := 0) hx hb dX3_makeWords_95 (by decide) ?_
              refine lv_ixor hx hb dX3_makeWords_96 ?_
              refine x_ast B hP hD hS 3 rfl i rfl (by omega) (by decide) dX3_makeWords_97 (fun H locs hP hD hS => ?_)
              have hP : va_P E.1 classes [(r, .inr (3, [.int thr, .int rdr, .int mdr, .int msr, .ref bK, .ref bB, .ref bP, .ref bS, .ref bU, .ref bW, .ref bH, .ref bT, .ref bV, .ref bC, .ref bL, .int lcr, .ref bZ, .int wrr])), (bK, .inl (E.2.1, 16, .inl gK)), (bS, .inl (E.2.1, 256, .inl gS)), (bW, .inl (E.2.1, 176, .inl (upd ((mwR gS gK gW i).1) i (((((mwR gS gK gW i).1) (i - 16)) ^^^ (gS ((((mwR gS gK gW i).1) (i - 3)).toNatClampNeg))) ^^^ 0))))] _ := hP
              have hD : va_D A [(r, .inr (3, [.int thr, .int rdr, .int mdr, .int msr, .ref bK, .ref bB, .ref bP, .ref bS, .ref bU, .ref bW, .ref bH, .ref bT, .ref bV, .ref bC, .ref bL, .int lcr, .ref bZ, .int wrr])), (bK, .inl (E.2.1, 16, .inl gK)), (bS, .inl (E.2.1, 256, .inl gS)), (bW, .inl (E.2.1, 176, .inl (upd ((mwR gS gK gW i).1) i (((((mwR gS gK gW i).1) (i - 16)) ^^^ (gS ((((mwR gS gK gW i).1) (i - 3)).toNatClampNeg))) ^^^ 0))))] := hD
              refine lv_iload_n hx hb dX3_makeWords_98 rfl (lv_at hl 1 rfl) ?_
              refine lv_bipush (v := 16) hx hb dX3_makeWords_99 (by decide) ?_
              refine lv_irem hx hb dX3_makeWords_101 (by decide) ?_
              refine lv_iconst (v := 3) hx hb dX3_makeWords_102 (by decide) ?_
              refine lv_icmp_ne (tgt := 114) hx hb dX3_makeWords_103 (by decide) (fun c_103 => ?_) (fun c_103 => ?_)
              · have n_103 : ¬ i % 16 = 3 := fun h => c_103 (by rw [rem_16 i (by omega), h]; rfl)
                refine lv_iload_n hx hb dX3_makeWords_114 rfl (lv_at hl 2 rfl) ?_
                refine lv_istore_n (lv' := [(1, .int ((mwR gS gK gW i).2)), (3, .int ((nI i) - 3)), (2, .int (nI i)), (0, .ref r)]) hx hb dX3_makeWords_115 rfl hl (by decide) rfl (fun ls hl => ?_)
                refine lv_goto (tgt := 143) hx hb dX3_makeWords_116 (by decide) ?_
                refine lv_iinc (v := (nI (i + 1))) (lv' := [(2, .int (nI (i + 1))), (1, .int ((mwR gS gK gW i).2)), (3, .int ((nI i) - 3)), (0, .ref r)]) hx hb dX3_makeWords_143 hl (k := 2) rfl (ii_1 i) (by decide) rfl (fun ls hl => ?_)
                refine lv_goto (tgt := 4) hx hb dX3_makeWords_146 (by decide) ?_
                have eF : mwR gS gK gW (i + 1) = ((upd ((mwR gS gK gW i).1) i (((((mwR gS gK gW i).1) (i - 16)) ^^^ (gS ((((mwR gS gK gW i).1) (i - 3)).toNatClampNeg))) ^^^ 0)), (mwR gS gK gW i).2) := by
                  show (if i < 16 then _ else if i % 16 < 4 then _ else _) = _
                  rw [if_neg n_14, if_pos n_37, if_pos n_44, if_neg n_88, if_neg n_103]
                have hP : va_P E.1 classes [(r, .inr (3, [.int thr, .int rdr, .int mdr, .int msr, .ref bK, .ref bB, .ref bP, .ref bS, .ref bU, .ref bW, .ref bH, .ref bT, .ref bV, .ref bC, .ref bL, .int lcr, .ref bZ, .int wrr])), (bK, .inl (E.2.1, 16, .inl gK)), (bS, .inl (E.2.1, 256, .inl gS)), (bW, .inl (E.2.1, 176, .inl ((mwR gS gK gW (i + 1)).1)))] _ := (by rw [eF]; exact hP)
                have hD : va_D A [(r, .inr (3, [.int thr, .int rdr, .int mdr, .int msr, .ref bK, .ref bB, .ref bP, .ref bS, .ref bU, .ref bW, .ref bH, .ref bT, .ref bV, .ref bC, .ref bL, .int lcr, .ref bZ, .int wrr])), (bK, .inl (E.2.1, 16, .inl gK)), (bS, .inl (E.2.1, 256, .inl gS)), (bW, .inl (E.2.1, 176, .inl ((mwR gS gK gW (i + 1)).1)))] := (by rw [eF]; exact hD)
                exact ih (i + 1) (by omega) (by omega) _ _ _ hP hD hS (by rw [eF]; dsimp only; exact lv_sub hl [0, 1, 3] rfl)
              · have n_103 : i % 16 = 3 := by have c2 := c_103; rw [rem_16 i (by omega)] at c2; exact (nI_eq (b := 3) (by omega) (by decide)).mp c2
                refine lv_iload_n hx hb dX3_makeWords_106 rfl (lv_at hl 2 rfl) ?_
                refine lv_iconst (v := 2) hx hb dX3_makeWords_107 (by decide) ?_
                refine x_Si (wr := [(r, .inr (3, [.int thr, .int rdr, .int mdr, .int msr, .ref bK, .ref bB, .ref bP, .ref bS, .ref bU, .ref bW, .ref bH, .ref bT, .ref bV, .ref bC, .ref bL, .int lcr, .ref bZ, .int wrr])), (bK, .inl (E.2.1, 16, .inl gK)), (bS, .inl (E.2.1, 256, .inl gS)), (bW, .inl (E.2.1, 176, .inl (upd ((mwR gS gK gW i).1) i (((((mwR gS gK gW i).1) (i - 16)) ^^^ (gS ((((mwR gS gK gW i).1) (i - 3)).toNatClampNeg))) ^^^ 0))))]) (isC := []) (isR := [0, 1, 2, 3]) (As := [.int ((mwR gS gK gW i).2), .int 2]) B (c_X3_times l E ((mwR gS gK gW i).2) 2) k_X3_times g_286 s_X3_times ⟨Nat.le_trans (by decide) hR.1, Nat.le_trans (by decide) hR.2, rfl, rfl⟩ hP hD hS ⟨rfl, rfl, rfl, rfl, by decide⟩ rfl hl.1 rfl (Nat.le_of_ble_eq_true rfl) dX3_makeWords_108 hf (fun H locs hP hD hS => ?_)
                have hP : va_P E.1 classes [(r, .inr (3, [.int thr, .int rdr, .int mdr, .int msr, .ref bK, .ref bB, .ref bP, .ref bS, .ref bU, .ref bW, .ref bH, .ref bT, .ref bV, .ref bC, .ref bL, .int lcr, .ref bZ, .int wrr])), (bK, .inl (E.2.1, 16, .inl gK)), (bS, .inl (E.2.1, 256, .inl gS)), (bW, .inl (E.2.1, 176, .inl (upd ((mwR gS gK gW i).1) i (((((mwR gS gK gW i).1) (i - 16)) ^^^ (gS ((((mwR gS gK gW i).1) (i - 3)).toNatClampNeg))) ^^^ 0))))] _ := hP
                have hD : va_D A [(r, .inr (3, [.int thr, .int rdr, .int mdr, .int msr, .ref bK, .ref bB, .ref bP, .ref bS, .ref bU, .ref bW, .ref bH, .ref bT, .ref bV, .ref bC, .ref bL, .int lcr, .ref bZ, .int wrr])), (bK, .inl (E.2.1, 16, .inl gK)), (bS, .inl (E.2.1, 256, .inl gS)), (bW, .inl (E.2.1, 176, .inl (upd ((mwR gS gK gW i).1) i (((((mwR gS gK gW i).1) (i - 16)) ^^^ (gS ((((mwR gS gK gW i).1) (i - 3)).toNatClampNeg))) ^^^ 0))))] := hD
                refine lv_goto (tgt := 115) hx hb dX3_makeWords_111 (by decide) ?_
                refine lv_istore_n (lv' := [(1, .int (tmR ((mwR gS gK gW i).2) 2)), (3, .int ((nI i) - 3)), (2, .int (nI i)), (0, .ref r)]) hx hb dX3_makeWords_115 rfl hl (by decide) rfl (fun ls hl => ?_)
                refine lv_goto (tgt := 143) hx hb dX3_makeWords_116 (by decide) ?_
                refine lv_iinc (v := (nI (i + 1))) (lv' := [(2, .int (nI (i + 1))), (1, .int (tmR ((mwR gS gK gW i).2) 2)), (3, .int ((nI i) - 3)), (0, .ref r)]) hx hb dX3_makeWords_143 hl (k := 2) rfl (ii_1 i) (by decide) rfl (fun ls hl => ?_)
                refine lv_goto (tgt := 4) hx hb dX3_makeWords_146 (by decide) ?_
                have eF : mwR gS gK gW (i + 1) = ((upd ((mwR gS gK gW i).1) i (((((mwR gS gK gW i).1) (i - 16)) ^^^ (gS ((((mwR gS gK gW i).1) (i - 3)).toNatClampNeg))) ^^^ 0)), (tmR ((mwR gS gK gW i).2) 2)) := by
                  show (if i < 16 then _ else if i % 16 < 4 then _ else _) = _
                  rw [if_neg n_14, if_pos n_37, if_pos n_44, if_neg n_88, if_pos n_103]
                have hP : va_P E.1 classes [(r, .inr (3, [.int thr, .int rdr, .int mdr, .int msr, .ref bK, .ref bB, .ref bP, .ref bS, .ref bU, .ref bW, .ref bH, .ref bT, .ref bV, .ref bC, .ref bL, .int lcr, .ref bZ, .int wrr])), (bK, .inl (E.2.1, 16, .inl gK)), (bS, .inl (E.2.1, 256, .inl gS)), (bW, .inl (E.2.1, 176, .inl ((mwR gS gK gW (i + 1)).1)))] _ := (by rw [eF]; exact hP)
                have hD : va_D A [(r, .inr (3, [.int thr, .int rdr, .int mdr, .int msr, .ref bK, .ref bB, .ref bP, .ref bS, .ref bU, .ref bW, .ref bH, .ref bT, .ref bV, .ref bC, .ref bL, .int lcr, .ref bZ, .int wrr])), (bK, .inl (E.2.1, 16, .inl gK)), (bS, .inl (E.2.1, 256, .inl gS)), (bW, .inl (E.2.1, 176, .inl ((mwR gS gK gW (i + 1)).1)))] := (by rw [eF]; exact hD)
                exact ih (i + 1) (by omega) (by omega) _ _ _ hP hD hS (by rw [eF]; dsimp only; exact lv_sub hl [0, 1, 3] rfl)
            · have n_88 : i % 16 = 0 := by have c2 := c_88; rw [rem_16 i (by omega)] at c2; exact (nI_eq (b := 0) (by omega) (by decide)).mp c2
              refine lv_iload_n hx hb dX3_makeWords_91 rfl (lv_at hl 2 rfl) ?_
              refine lv_goto (tgt := 96) hx hb dX3_makeWords_92 (by decide) ?_
              refine lv_ixor hx hb dX3_makeWords_96 ?_
              refine x_ast B hP hD hS 3 rfl i rfl (by omega) (by decide) dX3_makeWords_97 (fun H locs hP hD hS => ?_)
              have hP : va_P E.1 classes [(r, .inr (3, [.int thr, .int rdr, .int mdr, .int msr, .ref bK, .ref bB, .ref bP, .ref bS, .ref bU, .ref bW, .ref bH, .ref bT, .ref bV, .ref bC, .ref bL, .int lcr, .ref bZ, .int wrr])), (bK, .inl (E.2.1, 16, .inl gK)), (bS, .inl (E.2.1, 256, .inl gS)), (bW, .inl (E.2.1, 176, .inl (upd ((mwR gS gK gW i).1) i (((((mwR gS gK gW i).1) (i - 16)) ^^^ (gS ((((mwR gS gK gW i).1) (i - 3)).toNatClampNeg))) ^^^ (mwR gS gK gW i).2))))] _ := hP
              have hD : va_D A [(r, .inr (3, [.int thr, .int rdr, .int mdr, .int msr, .ref bK, .ref bB, .ref bP, .ref bS, .ref bU, .ref bW, .ref bH, .ref bT, .ref bV, .ref bC, .ref bL, .int lcr, .ref bZ, .int wrr])), (bK, .inl (E.2.1, 16, .inl gK)), (bS, .inl (E.2.1, 256, .inl gS)), (bW, .inl (E.2.1, 176, .inl (upd ((mwR gS gK gW i).1) i (((((mwR gS gK gW i).1) (i - 16)) ^^^ (gS ((((mwR gS gK gW i).1) (i - 3)).toNatClampNeg))) ^^^ (mwR gS gK gW i).2))))] := hD
              refine lv_iload_n hx hb dX3_makeWords_98 rfl (lv_at hl 1 rfl) ?_
              refine lv_bipush (v := 16) hx hb dX3_makeWords_99 (by decide) ?_
              refine lv_irem hx hb dX3_makeWords_101 (by decide) ?_
              refine lv_iconst (v := 3) hx hb dX3_makeWords_102 (by decide) ?_
              refine lv_icmp_ne (tgt := 114) hx hb dX3_makeWords_103 (by decide) (fun c_103 => ?_) (fun c_103 => ?_)
              · have n_103 : ¬ i % 16 = 3 := fun h => c_103 (by rw [rem_16 i (by omega), h]; rfl)
                refine lv_iload_n hx hb dX3_makeWords_114 rfl (lv_at hl 2 rfl) ?_
                refine lv_istore_n (lv' := [(1, .int ((mwR gS gK gW i).2)), (3, .int ((nI i) - 3)), (2, .int (nI i)), (0, .ref r)]) hx hb dX3_makeWords_115 rfl hl (by decide) rfl (fun ls hl => ?_)
                refine lv_goto (tgt := 143) hx hb dX3_makeWords_116 (by decide) ?_
                refine lv_iinc (v := (nI (i + 1))) (lv' := [(2, .int (nI (i + 1))), (1, .int ((mwR gS gK gW i).2)), (3, .int ((nI i) - 3)), (0, .ref r)]) hx hb dX3_makeWords_143 hl (k := 2) rfl (ii_1 i) (by decide) rfl (fun ls hl => ?_)
                refine lv_goto (tgt := 4) hx hb dX3_makeWords_146 (by decide) ?_
                have eF : mwR gS gK gW (i + 1) = ((upd ((mwR gS gK gW i).1) i (((((mwR gS gK gW i).1) (i - 16)) ^^^ (gS ((((mwR gS gK gW i).1) (i - 3)).toNatClampNeg))) ^^^ (mwR gS gK gW i).2)), (mwR gS gK gW i).2) := by
                  show (if i < 16 then _ else if i % 16 < 4 then _ else _) = _
                  rw [if_neg n_14, if_pos n_37, if_pos n_44, if_pos n_88, if_neg n_103]
                have hP : va_P E.1 classes [(r, .inr (3, [.int thr, .int rdr, .int mdr, .int msr, .ref bK, .ref bB, .ref bP, .ref bS, .ref bU, .ref bW, .ref bH, .ref bT, .ref bV, .ref bC, .ref bL, .int lcr, .ref bZ, .int wrr])), (bK, .inl (E.2.1, 16, .inl gK)), (bS, .inl (E.2.1, 256, .inl gS)), (bW, .inl (E.2.1, 176, .inl ((mwR gS gK gW (i + 1)).1)))] _ := (by rw [eF]; exact hP)
                have hD : va_D A [(r, .inr (3, [.int thr, .int rdr, .int mdr, .int msr, .ref bK, .ref bB, .ref bP, .ref bS, .ref bU, .ref bW, .ref bH, .ref bT, .ref bV, .ref bC, .ref bL, .int lcr, .ref bZ, .int wrr])), (bK, .inl (E.2.1, 16, .inl gK)), (bS, .inl (E.2.1, 256, .inl gS)), (bW, .inl (E.2.1, 176, .inl ((mwR gS gK gW (i + 1)).1)))] := (by rw [eF]; exact hD)
                exact ih (i + 1) (by omega) (by omega) _ _ _ hP hD hS (by rw [eF]; dsimp only; exact lv_sub hl [0, 1, 3] rfl)
              · have n_103 : i % 16 = 3 := by have c2 := c_103; rw [rem_16 i (by omega)] at c2; exact (nI_eq (b := 3) (by omega) (by decide)).mp c2
                refine lv_iload_n hx hb dX3_makeWords_106 rfl (lv_at hl 2 rfl) ?_
                refine lv_iconst (v := 2) hx hb dX3_makeWords_107 (by decide) ?_
                refine x_Si (wr := [(r, .inr (3, [.int thr, .int rdr, .int mdr, .int msr, .ref bK, .ref bB, .ref bP, .ref bS, .ref bU, .ref bW, .ref bH, .ref bT, .ref bV, .ref bC, .ref bL, .int lcr, .ref bZ, .int wrr])), (bK, .inl (E.2.1, 16, .inl gK)), (bS, .inl (E.2.1, 256, .inl gS)), (bW, .inl (E.2.1, 176, .inl (upd ((mwR gS gK gW i).1) i (((((mwR gS gK gW i).1) (i - 16)) ^^^ (gS ((((mwR gS gK gW i).1) (i - 3)).toNatClampNeg))) ^^^ (mwR gS gK gW i).2))))]) (isC := []) (isR := [0, 1, 2, 3]) (As := [.int ((mwR gS gK gW i).2), .int 2]) B (c_X3_times l E ((mwR gS gK gW i).2) 2) k_X3_times g_286 s_X3_times ⟨Nat.le_trans (by decide) hR.1, Nat.le_trans (by decide) hR.2, rfl, rfl⟩ hP hD hS ⟨rfl, rfl, rfl, rfl, by decide⟩ rfl hl.1 rfl (Nat.le_of_ble_eq_true rfl) dX3_makeWords_108 hf (fun H locs hP hD hS => ?_)
                have hP : va_P E.1 classes [(r, .inr (3, [.int thr, .int rdr, .int mdr, .int msr, .ref bK, .ref bB, .ref bP, .ref bS, .ref bU, .ref bW, .ref bH, .ref bT, .ref bV, .ref bC, .ref bL, .int lcr, .ref bZ, .int wrr])), (bK, .inl (E.2.1, 16, .inl gK)), (bS, .inl (E.2.1, 256, .inl gS)), (bW, .inl (E.2.1, 176, .inl (upd ((mwR gS gK gW i).1) i (((((mwR gS gK gW i).1) (i - 16)) ^^^ (gS ((((mwR gS gK gW i).1) (i - 3)).toNatClampNeg))) ^^^ (mwR gS gK gW i).2))))] _ := hP
                have hD : va_D A [(r, .inr (3, [.int thr, .int rdr, .int mdr, .int msr, .ref bK, .ref bB, .ref bP, .ref bS, .ref bU, .ref bW, .ref bH, .ref bT, .ref bV, .ref bC, .ref bL, .int lcr, .ref bZ, .int wrr])), (bK, .inl (E.2.1, 16, .inl gK)), (bS, .inl (E.2.1, 256, .inl gS)), (bW, .inl (E.2.1, 176, .inl (upd ((mwR gS gK gW i).1) i (((((mwR gS gK gW i).1) (i - 16)) ^^^ (gS ((((mwR gS gK gW i).1) (i - 3)).toNatClampNeg))) ^^^ (mwR gS gK gW i).2))))] := hD
                refine lv_goto (tgt := 115) hx hb dX3_makeWords_111 (by decide) ?_
                refine lv_istore_n (lv' := [(1, .int (tmR ((mwR gS gK gW i).2) 2)), (3, .int ((nI i) - 3)), (2, .int (nI i)), (0, .ref r)]) hx hb dX3_makeWords_115 rfl hl (by decide) rfl (fun ls hl => ?_)
                refine lv_goto (tgt := 143) hx hb dX3_makeWords_116 (by decide) ?_
                refine lv_iinc (v := (nI (i + 1))) (lv' := [(2, .int (nI (i + 1))), (1, .int (tmR ((mwR gS gK gW i).2) 2)), (3, .int ((nI i) - 3)), (0, .ref r)]) hx hb dX3_makeWords_143 hl (k := 2) rfl (ii_1 i) (by decide) rfl (fun ls hl => ?_)
                refine lv_goto (tgt := 4) hx hb dX3_makeWords_146 (by decide) ?_
                have eF : mwR gS gK gW (i + 1) = ((upd ((mwR gS gK gW i).1) i (((((mwR gS gK gW i).1) (i - 16)) ^^^ (gS ((((mwR gS gK gW i).1) (i - 3)).toNatClampNeg))) ^^^ (mwR gS gK gW i).2)), (tmR ((mwR gS gK gW i).2) 2)) := by
                  show (if i < 16 then _ else if i % 16 < 4 then _ else _) = _
                  rw [if_neg n_14, if_pos n_37, if_pos n_44, if_pos n_88, if_pos n_103]
                have hP : va_P E.1 classes [(r, .inr (3, [.int thr, .int rdr, .int mdr, .int msr, .ref bK, .ref bB, .ref bP, .ref bS, .ref bU, .ref bW, .ref bH, .ref bT, .ref bV, .ref bC, .ref bL, .int lcr, .ref bZ, .int wrr])), (bK, .inl (E.2.1, 16, .inl gK)), (bS, .inl (E.2.1, 256, .inl gS)), (bW, .inl (E.2.1, 176, .inl ((mwR gS gK gW (i + 1)).1)))] _ := (by rw [eF]; exact hP)
                have hD : va_D A [(r, .inr (3, [.int thr, .int rdr, .int mdr, .int msr, .ref bK, .ref bB, .ref bP, .ref bS, .ref bU, .ref bW, .ref bH, .ref bT, .ref bV, .ref bC, .ref bL, .int lcr, .ref bZ, .int wrr])), (bK, .inl (E.2.1, 16, .inl gK)), (bS, .inl (E.2.1, 256, .inl gS)), (bW, .inl (E.2.1, 176, .inl ((mwR gS gK gW (i + 1)).1)))] := (by rw [eF]; exact hD)
                exact ih (i + 1) (by omega) (by omega) _ _ _ hP hD hS (by rw [eF]; dsimp only; exact lv_sub hl [0, 1, 3] rfl)
      · have n_14 : i < 16 := ge_f (b := 16) c_14 (by omega) (by omega)
        refine lv_aload_n hx hb dX3_makeWords_17 rfl (lv_at hl 2 rfl) ?_
        refine x_get B hP 0 rfl rfl i_X3 9 (by decide) g_298 rfl dX3_makeWords_18 ?_
        refine lv_iload_n hx hb dX3_makeWords_21 rfl (lv_at hl 0 rfl) ?_
        refine lv_aload_n hx hb dX3_makeWords_22 rfl (lv_at hl 2 rfl) ?_
        refine x_get B hP 0 rfl rfl i_X3 4 (by decide) g_293 rfl dX3_makeWords_23 ?_
        refine lv_iload_n hx hb dX3_makeWords_26 rfl (lv_at hl 0 rfl) ?_
        refine x_ald B hP 1 rfl i rfl (by omega) (by decide) dX3_makeWords_27 ?_
        refine x_ast B hP hD hS 3 rfl i rfl (by omega) (by decide) dX3_makeWords_28 (fun H locs hP hD hS => ?_)
        have hP : va_P E.1 classes [(r, .inr (3, [.int thr, .int rdr, .int mdr, .int msr, .ref bK, .ref bB, .ref bP, .ref bS, .ref bU, .ref bW, .ref bH, .ref bT, .ref bV, .ref bC, .ref bL, .int lcr, .ref bZ, .int wrr])), (bK, .inl (E.2.1, 16, .inl gK)), (bS, .inl (E.2.1, 256, .inl gS)), (bW, .inl (E.2.1, 176, .inl (upd ((mwR gS gK gW i).1) i (gK i))))] _ := hP
        have hD : va_D A [(r, .inr (3, [.int thr, .int rdr, .int mdr, .int msr, .ref bK, .ref bB, .ref bP, .ref bS, .ref bU, .ref bW, .ref bH, .ref bT, .ref bV, .ref bC, .ref bL, .int lcr, .ref bZ, .int wrr])), (bK, .inl (E.2.1, 16, .inl gK)), (bS, .inl (E.2.1, 256, .inl gS)), (bW, .inl (E.2.1, 176, .inl (upd ((mwR gS gK gW i).1) i (gK i))))] := hD
        refine lv_goto (tgt := 143) hx hb dX3_makeWords_29 (by decide) ?_
        refine lv_iinc (v := (nI (i + 1))) (lv' := [(2, .int (nI (i + 1))), (1, .int ((mwR gS gK gW i).2)), (0, .ref r)]) hx hb dX3_makeWords_143 hl (k := 0) rfl (ii_1 i) (by decide) rfl (fun ls hl => ?_)
        refine lv_goto (tgt := 4) hx hb dX3_makeWords_146 (by decide) ?_
        have eF : mwR gS gK gW (i + 1) = ((upd ((mwR gS gK gW i).1) i (gK i)), (mwR gS gK gW i).2) := by
          show (if i < 16 then _ else if i % 16 < 4 then _ else _) = _
          rw [if_pos n_14]
        have hP : va_P E.1 classes [(r, .inr (3, [.int thr, .int rdr, .int mdr, .int msr, .ref bK, .ref bB, .ref bP, .ref bS, .ref bU, .ref bW, .ref bH, .ref bT, .ref bV, .ref bC, .ref bL, .int lcr, .ref bZ, .int wrr])), (bK, .inl (E.2.1, 16, .inl gK)), (bS, .inl (E.2.1, 256, .inl gS)), (bW, .inl (E.2.1, 176, .inl ((mwR gS gK gW (i + 1)).1)))] _ := (by rw [eF]; exact hP)
        have hD : va_D A [(r, .inr (3, [.int thr, .int rdr, .int mdr, .int msr, .ref bK, .ref bB, .ref bP, .ref bS, .ref bU, .ref bW, .ref bH, .ref bT, .ref bV, .ref bC, .ref bL, .int lcr, .ref bZ, .int wrr])), (bK, .inl (E.2.1, 16, .inl gK)), (bS, .inl (E.2.1, 256, .inl gS)), (bW, .inl (E.2.1, 176, .inl ((mwR gS gK gW (i + 1)).1)))] := (by rw [eF]; exact hD)
        exact ih (i + 1) (by omega) (by omega) _ _ _ hP hD hS (by rw [eF]; dsimp only; exact lv_sub hl [0, 1, 2] rfl)
set_option maxHeartbeats 4000000 in
set_option maxRecDepth 100000 in
/-- the reference: makeWords -/
theorem c_X3_makeWords (l : Launch) (E : EE) (r bK bB bP bS bU bW bH bT bV bC bL bZ : Nat) (thr rdr mdr msr lcr wrr : Int32) (gS gK gW : Nat → Int32) (hs : ∀ i, i < 256 → By (gS i)) (hk : ∀ i, i < 16 → By (gK i)) (hw : ∀ i, i < 176 → By (gW i)) : Cv l yX3_makeWords (.code yX3_makeWords cX3_makeWords 4 none) ({ frames := 1, cells := 0, slots := 0, locals := 24 }) E [.ref r] [(r, .inr (3, [.int thr, .int rdr, .int mdr, .int msr, .ref bK, .ref bB, .ref bP, .ref bS, .ref bU, .ref bW, .ref bH, .ref bT, .ref bV, .ref bC, .ref bL, .int lcr, .ref bZ, .int wrr])), (bK, .inl (E.2.1, 16, .inl gK)), (bS, .inl (E.2.1, 256, .inl gS)), (bW, .inl (E.2.1, 176, .inl gW))] [(r, .inr (3, [.int thr, .int rdr, .int mdr, .int msr, .ref bK, .ref bB, .ref bP, .ref bS, .ref bU, .ref bW, .ref bH, .ref bT, .ref bV, .ref bC, .ref bL, .int lcr, .ref bZ, .int wrr])), (bK, .inl (E.2.1, 16, .inl gK)), (bS, .inl (E.2.1, 256, .inl gS)), (bW, .inl (E.2.1, 176, .inl ((mwR gS gK gW 176).1)))] := by
  refine Cv.of (by decide) (Nat.le_of_ble_eq_true rfl) ?_
  intro p e s m below meth c A ls B hP hD hS hl
  have hl : lv_has ls 4 [(0, .ref r)] := hl
  have B : Bd p s m _ meth c cX3_makeWords 4 none RX3 E A := B
  have hx := B.1
  have hb := B.2.1
  have hP : va_P E.1 classes [(r, .inr (3, [.int thr, .int rdr, .int mdr, .int msr, .ref bK, .ref bB, .ref bP, .ref bS, .ref bU, .ref bW, .ref bH, .ref bT, .ref bV, .ref bC, .ref bL, .int lcr, .ref bZ, .int wrr])), (bK, .inl (E.2.1, 16, .inl gK)), (bS, .inl (E.2.1, 256, .inl gS)), (bW, .inl (E.2.1, 176, .inl gW))] _ := hP
  have hD : va_D A [(r, .inr (3, [.int thr, .int rdr, .int mdr, .int msr, .ref bK, .ref bB, .ref bP, .ref bS, .ref bU, .ref bW, .ref bH, .ref bT, .ref bV, .ref bC, .ref bL, .int lcr, .ref bZ, .int wrr])), (bK, .inl (E.2.1, 16, .inl gK)), (bS, .inl (E.2.1, 256, .inl gS)), (bW, .inl (E.2.1, 176, .inl gW))] := hD
  refine lv_iconst (v := 1) hx hb dX3_makeWords_0 (by decide) ?_
  refine lv_istore_n (lv' := [(1, .int 1), (0, .ref r)]) hx hb dX3_makeWords_1 rfl hl (by decide) rfl (fun ls hl => ?_)
  refine lv_iconst (v := 0) hx hb dX3_makeWords_2 (by decide) ?_
  refine lv_istore_n (lv' := [(2, .int 0), (1, .int 1), (0, .ref r)]) hx hb dX3_makeWords_3 rfl hl (by decide) rfl (fun ls hl => ?_)
  have hP : va_P E.1 classes [(r, .inr (3, [.int thr, .int rdr, .int mdr, .int msr, .ref bK, .ref bB, .ref bP, .ref bS, .ref bU, .ref bW, .ref bH, .ref bT, .ref bV, .ref bC, .ref bL, .int lcr, .ref bZ, .int wrr])), (bK, .inl (E.2.1, 16, .inl gK)), (bS, .inl (E.2.1, 256, .inl gS)), (bW, .inl (E.2.1, 176, .inl ((mwR gS gK gW 0).1)))] _ := hP
  have hD : va_D A [(r, .inr (3, [.int thr, .int rdr, .int mdr, .int msr, .ref bK, .ref bB, .ref bP, .ref bS, .ref bU, .ref bW, .ref bH, .ref bT, .ref bV, .ref bC, .ref bL, .int lcr, .ref bZ, .int wrr])), (bK, .inl (E.2.1, 16, .inl gK)), (bS, .inl (E.2.1, 256, .inl gS)), (bW, .inl (E.2.1, 176, .inl ((mwR gS gK gW 0).1)))] := hD
  refine lp_rwords B ⟨by decide, by decide⟩ ⟨by decide, by decide⟩ hs hk hw (fun H locs ls hP hD hS hl => ?_) 177 0 (by omega) (by omega) _ _ _ hP hD hS (lv_sub hl [0, 1, 2] rfl)
  have hP : va_P E.1 classes [(r, .inr (3, [.int thr, .int rdr, .int mdr, .int msr, .ref bK, .ref bB, .ref bP, .ref bS, .ref bU, .ref bW, .ref bH, .ref bT, .ref bV, .ref bC, .ref bL, .int lcr, .ref bZ, .int wrr])), (bK, .inl (E.2.1, 16, .inl gK)), (bS, .inl (E.2.1, 256, .inl gS)), (bW, .inl (E.2.1, 176, .inl ((mwR gS gK gW 176).1)))] _ := hP
  have hD : va_D A [(r, .inr (3, [.int thr, .int rdr, .int mdr, .int msr, .ref bK, .ref bB, .ref bP, .ref bS, .ref bU, .ref bW, .ref bH, .ref bT, .ref bV, .ref bC, .ref bL, .int lcr, .ref bZ, .int wrr])), (bK, .inl (E.2.1, 16, .inl gK)), (bS, .inl (E.2.1, 256, .inl gS)), (bW, .inl (E.2.1, 176, .inl ((mwR gS gK gW 176).1)))] := hD
  exact x_vret B hP hD hS dX3_makeWords_149
