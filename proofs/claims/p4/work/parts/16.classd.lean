set_option maxHeartbeats 4000000 in
set_option maxRecDepth 100000 in
/-- begin -/
theorem c_X1_begin (l : Launch) (E : EE) (oM aS : Nat) (fE : Nat → Int32) (fil opn end_ cmp_ dif : Int32) : Cv l yX1_begin (.code yX1_begin cX1_begin 1 none) ({ frames := 1, cells := 0, slots := 0, locals := 23 }) E [.ref oM] [(oM, .inr (1, [.ref aS, .int fil, .int opn, .int end_, .int cmp_, .int dif])), (aS, .inl (E.2.1, 16, .inl fE))] [(oM, .inr (1, [.ref aS, .int 0, .int 1, .int 0, .int cmp_, .int dif])), (aS, .inl (E.2.1, 16, .inl (fillM 0 fE 16)))] := by
  refine Cv.of (by decide) (Nat.le_of_ble_eq_true rfl) ?_
  intro p e s m below meth c A ls B hP hD hS hl
  have hl : lv_has ls 1 [(0, .ref oM)] := hl
  have B : Bd p s m _ meth c cX1_begin 1 none RX1 E A := B
  have hx := B.1
  have hb := B.2.1
  have hP : va_P E.1 classes [(oM, .inr (1, [.ref aS, .int fil, .int opn, .int end_, .int cmp_, .int dif])), (aS, .inl (E.2.1, 16, .inl fE))] _ := hP
  have hD : va_D A [(oM, .inr (1, [.ref aS, .int fil, .int opn, .int end_, .int cmp_, .int dif])), (aS, .inl (E.2.1, 16, .inl fE))] := hD
  refine lv_aload_n hx hb dX1_begin_0 rfl (lv_at hl 0 rfl) ?_
  refine x_get B hP 0 rfl rfl i_X1 0 (by decide) g_52 rfl dX1_begin_1 ?_
  refine lv_iconst (v := 0) hx hb dX1_begin_4 (by decide) ?_
  refine x_Sv (wr := [(oM, .inr (1, [.ref aS, .int fil, .int opn, .int end_, .int cmp_, .int dif]))]) (isC := [1]) (isR := [0]) (As := [.ref aS, .int 0]) B (c_J7_fill_53178 l E aS 16 fE 0 (by decide)) k_J7_fill_53178 g_187 s_J7_fill_53178 ⟨by decide, by decide, rfl, rfl⟩ hP hD hS ⟨rfl, rfl, rfl, rfl, by decide⟩ rfl hl.1 rfl (Nat.le_of_ble_eq_true rfl) dX1_begin_5 ⟨by decide, by decide⟩ (fun H locs hP hD hS => ?_)
  have hP : va_P E.1 classes [(oM, .inr (1, [.ref aS, .int fil, .int opn, .int end_, .int cmp_, .int dif])), (aS, .inl (E.2.1, 16, .inl (fillM 0 fE 16)))] _ := hP
  have hD : va_D A [(oM, .inr (1, [.ref aS, .int fil, .int opn, .int end_, .int cmp_, .int dif])), (aS, .inl (E.2.1, 16, .inl (fillM 0 fE 16)))] := hD
  refine lv_aload_n hx hb dX1_begin_8 rfl (lv_at hl 0 rfl) ?_
  refine lv_iconst (v := 0) hx hb dX1_begin_9 (by decide) ?_
  refine x_put B hP hD hS 0 rfl rfl i_X1 tyX1 tyX1_ok nmX1 1 (by decide) g_54 rfl rfl rfl (Nat.le_of_ble_eq_true rfl) dX1_begin_10 (fun H locs hP hD hS => ?_)
  have hP : va_P E.1 classes [(oM, .inr (1, [.ref aS, .int 0, .int opn, .int end_, .int cmp_, .int dif])), (aS, .inl (E.2.1, 16, .inl (fillM 0 fE 16)))] _ := hP
  have hD : va_D A [(oM, .inr (1, [.ref aS, .int 0, .int opn, .int end_, .int cmp_, .int dif])), (aS, .inl (E.2.1, 16, .inl (fillM 0 fE 16)))] := hD
  refine lv_aload_n hx hb dX1_begin_13 rfl (lv_at hl 0 rfl) ?_
  refine lv_iconst (v := 1) hx hb dX1_begin_14 (by decide) ?_
  refine x_put B hP hD hS 0 rfl rfl i_X1 tyX1 tyX1_ok nmX1 2 (by decide) g_55 rfl rfl rfl (Nat.le_of_ble_eq_true rfl) dX1_begin_15 (fun H locs hP hD hS => ?_)
  have hP : va_P E.1 classes [(oM, .inr (1, [.ref aS, .int 0, .int 1, .int end_, .int cmp_, .int dif])), (aS, .inl (E.2.1, 16, .inl (fillM 0 fE 16)))] _ := hP
  have hD : va_D A [(oM, .inr (1, [.ref aS, .int 0, .int 1, .int end_, .int cmp_, .int dif])), (aS, .inl (E.2.1, 16, .inl (fillM 0 fE 16)))] := hD
  refine lv_aload_n hx hb dX1_begin_18 rfl (lv_at hl 0 rfl) ?_
  refine lv_iconst (v := 0) hx hb dX1_begin_19 (by decide) ?_
  refine x_put B hP hD hS 0 rfl rfl i_X1 tyX1 tyX1_ok nmX1 3 (by decide) g_57 rfl rfl rfl (Nat.le_of_ble_eq_true rfl) dX1_begin_20 (fun H locs hP hD hS => ?_)
  have hP : va_P E.1 classes [(oM, .inr (1, [.ref aS, .int 0, .int 1, .int 0, .int cmp_, .int dif])), (aS, .inl (E.2.1, 16, .inl (fillM 0 fE 16)))] _ := hP
  have hD : va_D A [(oM, .inr (1, [.ref aS, .int 0, .int 1, .int 0, .int cmp_, .int dif])), (aS, .inl (E.2.1, 16, .inl (fillM 0 fE 16)))] := hD
  have hP : va_P E.1 classes [(oM, .inr (1, [.ref aS, .int 0, .int 1, .int 0, .int cmp_, .int dif])), (aS, .inl (E.2.1, 16, .inl (fillM 0 fE 16)))] _ := hP
  have hD : va_D A [(oM, .inr (1, [.ref aS, .int 0, .int 1, .int 0, .int cmp_, .int dif])), (aS, .inl (E.2.1, 16, .inl (fillM 0 fE 16)))] := hD
  exact x_vret B hP hD hS dX1_begin_23
/-- a byte more: (the sum, the moved row, how many) -/
def tkM (w : Nat → Int32) (t : (Nat → Int32) × (Nat → Int32) × Nat) (b : Int32) : (Nat → Int32) × (Nat → Int32) × Nat :=
  if t.2.2 = 16 then (upd (forM w t.1 t.2.1 10).1 0 ((forM w t.1 t.2.1 10).1 0 ^^^ b), (forM w t.1 t.2.1 10).2, 1) else (upd t.1 t.2.2 (t.1 t.2.2 ^^^ b), t.2.1, t.2.2 + 1)
def tkOk (t : (Nat → Int32) × (Nat → Int32) × Nat) : Prop := (∀ i, i < 16 → By (t.1 i)) ∧ (∀ i, i < 16 → By (t.2.1 i)) ∧ t.2.2 ≤ 16
theorem tkM_ok {w : Nat → Int32} {t : (Nat → Int32) × (Nat → Int32) × Nat} {b : Int32} (hw : ∀ i, i < 176 → By (w i)) (hb : By b) (h : tkOk t) : tkOk (tkM w t b) := by
  obtain ⟨h1, h2, h3⟩ := h
  unfold tkM
  split
  · have hf := forM_by hw h1 h2 10 (by decide)
    exact ⟨By.upd hf.1 ((hf.1 0 (by decide)).xor hb), hf.2, by show 1 ≤ 16; decide⟩
  · exact ⟨By.upd h1 ((h1 _ (by omega)).xor hb), h2, by show t.2.2 + 1 ≤ 16; omega⟩
set_option maxHeartbeats 4000000 in
set_option maxRecDepth 100000 in
/-- take -/
theorem c_X1_take (l : Launch) (E : EE) (oM aS oK aB aW aF aG aV : Nat) (fE fW fV : Nat → Int32) (k : Nat) (x opn end_ cmp_ dif mde : Int32) (hW : ∀ i, i < 176 → By (fW i)) (hb : By x) (ht : tkOk (fE, fV, k)) : Cv l yX1_take (.code yX1_take cX1_take 3 none) ({ frames := 4, cells := 0, slots := 0, locals := 104 }) E [.ref oM, .int x, .ref oK] [(oM, .inr (1, [.ref aS, .int (nI k), .int opn, .int end_, .int cmp_, .int dif])), (aS, .inl (E.2.1, 16, .inl fE)), (oK, .inr (0, [.ref aB, .ref aW, .ref aF, .ref aG, .ref aV, .int mde])), (aW, .inl (E.2.1, 176, .inl fW)), (aV, .inl (E.2.1, 16, .inl fV))] [(oM, .inr (1, [.ref aS, .int (nI (tkM fW (fE, fV, k) x).2.2), .int opn, .int end_, .int cmp_, .int dif])), (aS, .inl (E.2.1, 16, .inl ((tkM fW (fE, fV, k) x).1))), (oK, .inr (0, [.ref aB, .ref aW, .ref aF, .ref aG, .ref aV, .int mde])), (aW, .inl (E.2.1, 176, .inl fW)), (aV, .inl (E.2.1, 16, .inl ((tkM fW (fE, fV, k) x).2.1)))] := by
  refine Cv.of (by decide) (Nat.le_of_ble_eq_true rfl) ?_
  intro p e s m below meth c A ls B hP hD hS hl
  have hl : lv_has ls 3 [(0, .ref oM), (1, .int x), (2, .ref oK)] := hl
  have B : Bd p s m _ meth c cX1_take 3 none RX1 E A := B
  have hx := B.1
  have hb := B.2.1
  have hP : va_P E.1 classes [(oM, .inr (1, [.ref aS, .int (nI k), .int opn, .int end_, .int cmp_, .int dif])), (aS, .inl (E.2.1, 16, .inl fE)), (oK, .inr (0, [.ref aB, .ref aW, .ref aF, .ref aG, .ref aV, .int mde])), (aW, .inl (E.2.1, 176, .inl fW)), (aV, .inl (E.2.1, 16, .inl fV))] _ := hP
  have hD : va_D A [(oM, .inr (1, [.ref aS, .int (nI k), .int opn, .int end_, .int cmp_, .int dif])), (aS, .inl (E.2.1, 16, .inl fE)), (oK, .inr (0, [.ref aB, .ref aW, .ref aF, .ref aG, .ref aV, .int mde])), (aW, .inl (E.2.1, 176, .inl fW)), (aV, .inl (E.2.1, 16, .inl fV))] := hD
  refine lv_aload_n hx hb dX1_take_0 rfl (lv_at hl 0 rfl) ?_
  refine x_get B hP 0 rfl rfl i_X1 1 (by decide) g_54 rfl dX1_take_1 ?_
  refine lv_bipush (v := 16) hx hb dX1_take_4 (by decide) ?_
  refine lv_icmp_ne (tgt := 22) hx hb dX1_take_6 (by decide) (fun c_6 => ?_) (fun c_6 => ?_)
  · have hk : ¬ k = 16 := fun h => c_6 (by rw [h]; rfl)
    have hk2 : k < 16 := by have := ht.2.2; show k < 16; have h3 : k ≤ 16 := this; omega
    have eF : tkM fW (fE, fV, k) x = (upd fE k (fE k ^^^ x), fV, k + 1) := if_neg hk
    refine lv_aload_n hx hb dX1_take_22 rfl (lv_at hl 0 rfl) ?_
    refine x_get B hP 0 rfl rfl i_X1 0 (by decide) g_52 rfl dX1_take_23 ?_
    refine lv_aload_n hx hb dX1_take_26 rfl (lv_at hl 0 rfl) ?_
    refine x_get B hP 0 rfl rfl i_X1 1 (by decide) g_54 rfl dX1_take_27 ?_
    refine lv_dup2_11 hx hb dX1_take_30 rfl rfl ?_
    refine x_ald B hP 1 rfl k rfl (by omega) (by decide) dX1_take_31 ?_
    refine lv_iload_n hx hb dX1_take_32 rfl (lv_at hl 1 rfl) ?_
    refine lv_ixor hx hb dX1_take_33 ?_
    refine x_ast B hP hD hS 1 rfl k rfl (by omega) (by decide) dX1_take_34 (fun H locs hP hD hS => ?_)
    have hP : va_P E.1 classes [(oM, .inr (1, [.ref aS, .int (nI k), .int opn, .int end_, .int cmp_, .int dif])), (aS, .inl (E.2.1, 16, .inl (upd fE k ((fE k) ^^^ x)))), (oK, .inr (0, [.ref aB, .ref aW, .ref aF, .ref aG, .ref aV, .int mde])), (aW, .inl (E.2.1, 176, .inl fW)), (aV, .inl (E.2.1, 16, .inl fV))] _ := hP
    have hD : va_D A [(oM, .inr (1, [.ref aS, .int (nI k), .int opn, .int end_, .int cmp_, .int dif])), (aS, .inl (E.2.1, 16, .inl (upd fE k ((fE k) ^^^ x)))), (oK, .inr (0, [.ref aB, .ref aW, .ref aF, .ref aG, .ref aV, .int mde])), (aW, .inl (E.2.1, 176, .inl fW)), (aV, .inl (E.2.1, 16, .inl fV))] := hD
    refine lv_aload_n hx hb dX1_take_35 rfl (lv_at hl 0 rfl) ?_
    refine lv_dup hx hb dX1_take_36 rfl ?_
    refine x_get B hP 0 rfl rfl i_X1 1 (by decide) g_54 rfl dX1_take_37 ?_
    refine lv_iconst (v := 1) hx hb dX1_take_40 (by decide) ?_
    refine lv_iadd hx hb dX1_take_41 ?_
    refine W.eq (g2 := F0 m 42 ls [.int (nI (k + 1)), .ref oM]) (by rw [show ((nI k) + 1) = nI (k + 1) from (na_add rfl rfl)]) ?_
    refine x_put B hP hD hS 0 rfl rfl i_X1 tyX1 tyX1_ok nmX1 1 (by decide) g_54 rfl rfl rfl (Nat.le_of_ble_eq_true rfl) dX1_take_42 (fun H locs hP hD hS => ?_)
    have hP : va_P E.1 classes [(oM, .inr (1, [.ref aS, .int (nI (k + 1)), .int opn, .int end_, .int cmp_, .int dif])), (aS, .inl (E.2.1, 16, .inl (upd fE k ((fE k) ^^^ x)))), (oK, .inr (0, [.ref aB, .ref aW, .ref aF, .ref aG, .ref aV, .int mde])), (aW, .inl (E.2.1, 176, .inl fW)), (aV, .inl (E.2.1, 16, .inl fV))] _ := hP
    have hD : va_D A [(oM, .inr (1, [.ref aS, .int (nI (k + 1)), .int opn, .int end_, .int cmp_, .int dif])), (aS, .inl (E.2.1, 16, .inl (upd fE k ((fE k) ^^^ x)))), (oK, .inr (0, [.ref aB, .ref aW, .ref aF, .ref aG, .ref aV, .int mde])), (aW, .inl (E.2.1, 176, .inl fW)), (aV, .inl (E.2.1, 16, .inl fV))] := hD
    have hP : va_P E.1 classes [(oM, .inr (1, [.ref aS, .int (nI (tkM fW (fE, fV, k) x).2.2), .int opn, .int end_, .int cmp_, .int dif])), (aS, .inl (E.2.1, 16, .inl ((tkM fW (fE, fV, k) x).1))), (oK, .inr (0, [.ref aB, .ref aW, .ref aF, .ref aG, .ref aV, .int mde])), (aW, .inl (E.2.1, 176, .inl fW)), (aV, .inl (E.2.1, 16, .inl ((tkM fW (fE, fV, k) x).2.1)))] _ := (by rw [eF]; exact hP)
    have hD : va_D A [(oM, .inr (1, [.ref aS, .int (nI (tkM fW (fE, fV, k) x).2.2), .int opn, .int end_, .int cmp_, .int dif])), (aS, .inl (E.2.1, 16, .inl ((tkM fW (fE, fV, k) x).1))), (oK, .inr (0, [.ref aB, .ref aW, .ref aF, .ref aG, .ref aV, .int mde])), (aW, .inl (E.2.1, 176, .inl fW)), (aV, .inl (E.2.1, 16, .inl ((tkM fW (fE, fV, k) x).2.1)))] := (by rw [eF]; exact hD)
    exact x_vret B hP hD hS dX1_take_45
  · have hk : k = 16 := (nI_eq (b := 16) (by have h3 : k ≤ 16 := ht.2.2; omega) (by decide)).mp c_6
    have eF : tkM fW (fE, fV, k) x = (upd (forM fW fE fV 10).1 0 ((forM fW fE fV 10).1 0 ^^^ x), (forM fW fE fV 10).2, 1) := if_pos hk
    refine lv_aload_n hx hb dX1_take_9 rfl (lv_at hl 2 rfl) ?_
    refine lv_aload_n hx hb dX1_take_10 rfl (lv_at hl 0 rfl) ?_
    refine x_get B hP 0 rfl rfl i_X1 0 (by decide) g_52 rfl dX1_take_11 ?_
    refine x_Vv (wr := [(oM, .inr (1, [.ref aS, .int (nI k), .int opn, .int end_, .int cmp_, .int dif]))]) (isC := [2, 3, 4, 1]) (isR := [0]) (As := [.ref aS]) B (c_X0_goForth l E oK aB aW aF aG aV aS fW fE fV mde hW ht.1 ht.2.1) k_X0_goForth g_196 s_X0_goForth ⟨by decide, by decide, rfl, rfl⟩ rfl 2 rfl hP hD hS ⟨rfl, rfl, rfl, rfl, by decide⟩ rfl hl.1 rfl (Nat.le_of_ble_eq_true rfl) dX1_take_14 ⟨by decide, by decide⟩ (fun H locs hP hD hS => ?_)
    have hP : va_P E.1 classes [(oM, .inr (1, [.ref aS, .int (nI k), .int opn, .int end_, .int cmp_, .int dif])), (oK, .inr (0, [.ref aB, .ref aW, .ref aF, .ref aG, .ref aV, .int mde])), (aW, .inl (E.2.1, 176, .inl fW)), (aV, .inl (E.2.1, 16, .inl ((forM fW fE fV 10).2))), (aS, .inl (E.2.1, 16, .inl ((forM fW fE fV 10).1)))] _ := hP
    have hD : va_D A [(oM, .inr (1, [.ref aS, .int (nI k), .int opn, .int end_, .int cmp_, .int dif])), (oK, .inr (0, [.ref aB, .ref aW, .ref aF, .ref aG, .ref aV, .int mde])), (aW, .inl (E.2.1, 176, .inl fW)), (aV, .inl (E.2.1, 16, .inl ((forM fW fE fV 10).2))), (aS, .inl (E.2.1, 16, .inl ((forM fW fE fV 10).1)))] := hD
    refine lv_aload_n hx hb dX1_take_17 rfl (lv_at hl 0 rfl) ?_
    refine lv_iconst (v := 0) hx hb dX1_take_18 (by decide) ?_
    refine x_put B hP hD hS 0 rfl rfl i_X1 tyX1 tyX1_ok nmX1 1 (by decide) g_54 rfl rfl rfl (Nat.le_of_ble_eq_true rfl) dX1_take_19 (fun H locs hP hD hS => ?_)
    have hP : va_P E.1 classes [(oM, .inr (1, [.ref aS, .int 0, .int opn, .int end_, .int cmp_, .int dif])), (oK, .inr (0, [.ref aB, .ref aW, .ref aF, .ref aG, .ref aV, .int mde])), (aW, .inl (E.2.1, 176, .inl fW)), (aV, .inl (E.2.1, 16, .inl ((forM fW fE fV 10).2))), (aS, .inl (E.2.1, 16, .inl ((forM fW fE fV 10).1)))] _ := hP
    have hD : va_D A [(oM, .inr (1, [.ref aS, .int 0, .int opn, .int end_, .int cmp_, .int dif])), (oK, .inr (0, [.ref aB, .ref aW, .ref aF, .ref aG, .ref aV, .int mde])), (aW, .inl (E.2.1, 176, .inl fW)), (aV, .inl (E.2.1, 16, .inl ((forM fW fE fV 10).2))), (aS, .inl (E.2.1, 16, .inl ((forM fW fE fV 10).1)))] := hD
    refine lv_aload_n hx hb dX1_take_22 rfl (lv_at hl 0 rfl) ?_
    refine x_get B hP 0 rfl rfl i_X1 0 (by decide) g_52 rfl dX1_take_23 ?_
    refine lv_aload_n hx hb dX1_take_26 rfl (lv_at hl 0 rfl) ?_
    refine x_get B hP 0 rfl rfl i_X1 1 (by decide) g_54 rfl dX1_take_27 ?_
    refine lv_dup2_11 hx hb dX1_take_30 rfl rfl ?_
    refine x_ald B hP 4 rfl 0 rfl (by omega) (by decide) dX1_take_31 ?_
    refine lv_iload_n hx hb dX1_take_32 rfl (lv_at hl 1 rfl) ?_
    refine lv_ixor hx hb dX1_take_33 ?_
    refine x_ast B hP hD hS 4 rfl 0 rfl (by omega) (by decide) dX1_take_34 (fun H locs hP hD hS => ?_)
    have hP : va_P E.1 classes [(oM, .inr (1, [.ref aS, .int 0, .int opn, .int end_, .int cmp_, .int dif])), (oK, .inr (0, [.ref aB, .ref aW, .ref aF, .ref aG, .ref aV, .int mde])), (aW, .inl (E.2.1, 176, .inl fW)), (aV, .inl (E.2.1, 16, .inl ((forM fW fE fV 10).2))), (aS, .inl (E.2.1, 16, .inl (upd ((forM fW fE fV 10).1) 0 ((((forM fW fE fV 10).1) 0) ^^^ x))))] _ := hP
    have hD : va_D A [(oM, .inr (1, [.ref aS, .int 0, .int opn, .int end_, .int cmp_, .int dif])), (oK, .inr (0, [.ref aB, .ref aW, .ref aF, .ref aG, .ref aV, .int mde])), (aW, .inl (E.2.1, 176, .inl fW)), (aV, .inl (E.2.1, 16, .inl ((forM fW fE fV 10).2))), (aS, .inl (E.2.1, 16, .inl (upd ((forM fW fE fV 10).1) 0 ((((forM fW fE fV 10).1) 0) ^^^ x))))] := hD
    refine lv_aload_n hx hb dX1_take_35 rfl (lv_at hl 0 rfl) ?_
    refine lv_dup hx hb dX1_take_36 rfl ?_
    refine x_get B hP 0 rfl rfl i_X1 1 (by decide) g_54 rfl dX1_take_37 ?_
    refine lv_iconst (v := 1) hx hb dX1_take_40 (by decide) ?_
    refine lv_iadd hx hb dX1_take_41 ?_
    refine W.eq (g2 := F0 m 42 ls [.int (nI (0 + 1)), .ref oM]) (by rw [show (0 + 1) = nI (0 + 1) from (na_add rfl rfl)]) ?_
    refine x_put B hP hD hS 0 rfl rfl i_X1 tyX1 tyX1_ok nmX1 1 (by decide) g_54 rfl rfl rfl (Nat.le_of_ble_eq_true rfl) dX1_take_42 (fun H locs hP hD hS => ?_)
    have hP : va_P E.1 classes [(oM, .inr (1, [.ref aS, .int (nI (0 + 1)), .int opn, .int end_, .int cmp_, .int dif])), (oK, .inr (0, [.ref aB, .ref aW, .ref aF, .ref aG, .ref aV, .int mde])), (aW, .inl (E.2.1, 176, .inl fW)), (aV, .inl (E.2.1, 16, .inl ((forM fW fE fV 10).2))), (aS, .inl (E.2.1, 16, .inl (upd ((forM fW fE fV 10).1) 0 ((((forM fW fE fV 10).1) 0) ^^^ x))))] _ := hP
    have hD : va_D A [(oM, .inr (1, [.ref aS, .int (nI (0 + 1)), .int opn, .int end_, .int cmp_, .int dif])), (oK, .inr (0, [.ref aB, .ref aW, .ref aF, .ref aG, .ref aV, .int mde])), (aW, .inl (E.2.1, 176, .inl fW)), (aV, .inl (E.2.1, 16, .inl ((forM fW fE fV 10).2))), (aS, .inl (E.2.1, 16, .inl (upd ((forM fW fE fV 10).1) 0 ((((forM fW fE fV 10).1) 0) ^^^ x))))] := hD
    have hP := hP.sub (ws' := [(oM, .inr (1, [.ref aS, .int (nI (0 + 1)), .int opn, .int end_, .int cmp_, .int dif])), (aS, .inl (E.2.1, 16, .inl (upd ((forM fW fE fV 10).1) 0 ((((forM fW fE fV 10).1) 0) ^^^ x)))), (oK, .inr (0, [.ref aB, .ref aW, .ref aF, .ref aG, .ref aV, .int mde])), (aW, .inl (E.2.1, 176, .inl fW)), (aV, .inl (E.2.1, 16, .inl ((forM fW fE fV 10).2)))]) [0, 4, 1, 2, 3] rfl
    have hD := hD.sub (ws' := [(oM, .inr (1, [.ref aS, .int (nI (0 + 1)), .int opn, .int end_, .int cmp_, .int dif])), (aS, .inl (E.2.1, 16, .inl (upd ((forM fW fE fV 10).1) 0 ((((forM fW fE fV 10).1) 0) ^^^ x)))), (oK, .inr (0, [.ref aB, .ref aW, .ref aF, .ref aG, .ref aV, .int mde])), (aW, .inl (E.2.1, 176, .inl fW)), (aV, .inl (E.2.1, 16, .inl ((forM fW fE fV 10).2)))]) [0, 4, 1, 2, 3] (by decide) rfl
    have hP : va_P E.1 classes [(oM, .inr (1, [.ref aS, .int (nI (tkM fW (fE, fV, k) x).2.2), .int opn, .int end_, .int cmp_, .int dif])), (aS, .inl (E.2.1, 16, .inl ((tkM fW (fE, fV, k) x).1))), (oK, .inr (0, [.ref aB, .ref aW, .ref aF, .ref aG, .ref aV, .int mde])), (aW, .inl (E.2.1, 176, .inl fW)), (aV, .inl (E.2.1, 16, .inl ((tkM fW (fE, fV, k) x).2.1)))] _ := (by rw [eF]; exact hP)
    have hD : va_D A [(oM, .inr (1, [.ref aS, .int (nI (tkM fW (fE, fV, k) x).2.2), .int opn, .int end_, .int cmp_, .int dif])), (aS, .inl (E.2.1, 16, .inl ((tkM fW (fE, fV, k) x).1))), (oK, .inr (0, [.ref aB, .ref aW, .ref aF, .ref aG, .ref aV, .int mde])), (aW, .inl (E.2.1, 176, .inl fW)), (aV, .inl (E.2.1, 16, .inl ((tkM fW (fE, fV, k) x).2.1)))] := (by rw [eF]; exact hD)
    exact x_vret B hP hD hS dX1_take_45
/-- the end: (the code, the moved row) -/
def enM (w h1 h2 : Nat → Int32) (t : (Nat → Int32) × (Nat → Int32) × Nat) : (Nat → Int32) × (Nat → Int32) :=
  if t.2.2 = 16 then forM w (xorM h1 0 t.1 16) t.2.1 10 else forM w (xorM h2 0 (upd t.1 t.2.2 (t.1 t.2.2 ^^^ 128)) 16) t.2.1 10
theorem by_128 : By 128 := By.of (j := 128) (by decide)
theorem enM_by {w h1 h2 : Nat → Int32} {t : (Nat → Int32) × (Nat → Int32) × Nat} (hw : ∀ i, i < 176 → By (w i)) (g1 : ∀ i, i < 16 → By (h1 i)) (g2 : ∀ i, i < 16 → By (h2 i)) (h : tkOk t) : (∀ i, i < 16 → By ((enM w h1 h2 t).1 i)) ∧ ∀ i, i < 16 → By ((enM w h1 h2 t).2 i) := by
  obtain ⟨a1, a2, a3⟩ := h
  unfold enM
  split
  · exact forM_by hw (xorM_by g1 a1 16 (by decide) (by decide)) a2 10 (by decide)
  · exact forM_by hw (xorM_by g2 (By.upd a1 ((a1 _ (by omega)).xor by_128)) 16 (by decide) (by decide)) a2 10 (by decide)
set_option maxHeartbeats 4000000 in
set_option maxRecDepth 100000 in
/-- end -/
theorem c_X1_end (l : Launch) (E : EE) (oM aS oK aB aW aF aG aV : Nat) (fE fW fF fG fV : Nat → Int32) (k : Nat) (opn end_ cmp_ dif mde : Int32) (hW : ∀ i, i < 176 → By (fW i)) (hF : ∀ i, i < 16 → By (fF i)) (hG : ∀ i, i < 16 → By (fG i)) (ht : tkOk (fE, fV, k)) : Cv l yX1_end (.code yX1_end cX1_end 2 none) ({ frames := 4, cells := 0, slots := 0, locals := 104 }) E [.ref oM, .ref oK] [(oM, .inr (1, [.ref aS, .int (nI k), .int opn, .int end_, .int cmp_, .int dif])), (aS, .inl (E.2.1, 16, .inl fE)), (oK, .inr (0, [.ref aB, .ref aW, .ref aF, .ref aG, .ref aV, .int mde])), (aW, .inl (E.2.1, 176, .inl fW)), (aF, .inl (E.2.1, 16, .inl fF)), (aG, .inl (E.2.1, 16, .inl fG)), (aV, .inl (E.2.1, 16, .inl fV))] [(oM, .inr (1, [.ref aS, .int (nI k), .int 0, .int 1, .int 0, .int 0])), (aS, .inl (E.2.1, 16, .inl ((enM fW fF fG (fE, fV, k)).1))), (oK, .inr (0, [.ref aB, .ref aW, .ref aF, .ref aG, .ref aV, .int mde])), (aW, .inl (E.2.1, 176, .inl fW)), (aF, .inl (E.2.1, 16, .inl fF)), (aG, .inl (E.2.1, 16, .inl fG)), (aV, .inl (E.2.1, 16, .inl ((enM fW fF fG (fE, fV, k)).2)))] := by
  refine Cv.of (by decide) (Nat.le_of_ble_eq_true rfl) ?_
  intro p e s m below meth c A ls B hP hD hS hl
  have hl : lv_has ls 2 [(0, .ref oM), (1, .ref oK)] := hl
  have B : Bd p s m _ meth c cX1_end 2 none RX1 E A := B
  have hx := B.1
  have hb := B.2.1
  have hP : va_P E.1 classes [(oM, .inr (1, [.ref aS, .int (nI k), .int opn, .int end_, .int cmp_, .int dif])), (aS, .inl (E.2.1, 16, .inl fE)), (oK, .inr (0, [.ref aB, .ref aW, .ref aF, .ref aG, .ref aV, .int mde])), (aW, .inl (E.2.1, 176, .inl fW)), (aF, .inl (E.2.1, 16, .inl fF)), (aG, .inl (E.2.1, 16, .inl fG)), (aV, .inl (E.2.1, 16, .inl fV))] _ := hP
  have hD : va_D A [(oM, .inr (1, [.ref aS, .int (nI k), .int opn, .int end_, .int cmp_, .int dif])), (aS, .inl (E.2.1, 16, .inl fE)), (oK, .inr (0, [.ref aB, .ref aW, .ref aF, .ref aG, .ref aV, .int mde])), (aW, .inl (E.2.1, 176, .inl fW)), (aF, .inl (E.2.1, 16, .inl fF)), (aG, .inl (E.2.1, 16, .inl fG)), (aV, .inl (E.2.1, 16, .inl fV))] := hD
  refine lv_aload_n hx hb dX1_end_0 rfl (lv_at hl 0 rfl) ?_
  refine x_get B hP 0 rfl rfl i_X1 1 (by decide) g_54 rfl dX1_end_1 ?_
  refine lv_bipush (v := 16) hx hb dX1_end_4 (by decide) ?_
  refine lv_icmp_ne (tgt := 24) hx hb dX1_end_6 (by decide) (fun c_6 => ?_) (fun c_6 => ?_)
  · have hk : ¬ k = 16 := fun h => c_6 (by rw [h]; rfl)
    have hk2 : k < 16 := by have h3 : k ≤ 16 := ht.2.2; omega
    have eF : enM fW fF fG (fE, fV, k) = forM fW (xorM fG 0 (upd fE k (fE k ^^^ 128)) 16) fV 10 := if_neg hk
    refine lv_aload_n hx hb dX1_end_24 rfl (lv_at hl 0 rfl) ?_
    refine x_get B hP 0 rfl rfl i_X1 0 (by decide) g_52 rfl dX1_end_25 ?_
    refine lv_aload_n hx hb dX1_end_28 rfl (lv_at hl 0 rfl) ?_
    refine x_get B hP 0 rfl rfl i_X1 1 (by decide) g_54 rfl dX1_end_29 ?_
    refine lv_dup2_11 hx hb dX1_end_32 rfl rfl ?_
    refine x_ald B hP 1 rfl k rfl (by omega) (by decide) dX1_end_33 ?_
    refine lv_sipush (v := 128) hx hb dX1_end_34 (by decide) ?_
    refine lv_ixor hx hb dX1_end_37 ?_
    refine x_ast B hP hD hS 1 rfl k rfl (by omega) (by decide) dX1_end_38 (fun H locs hP hD hS => ?_)
    have hP : va_P E.1 classes [(oM, .inr (1, [.ref aS, .int (nI k), .int opn, .int end_, .int cmp_, .int dif])), (aS, .inl (E.2.1, 16, .inl (upd fE k ((fE k) ^^^ 128)))), (oK, .inr (0, [.ref aB, .ref aW, .ref aF, .ref aG, .ref aV, .int mde])), (aW, .inl (E.2.1, 176, .inl fW)), (aF, .inl (E.2.1, 16, .inl fF)), (aG, .inl (E.2.1, 16, .inl fG)), (aV, .inl (E.2.1, 16, .inl fV))] _ := hP
    have hD : va_D A [(oM, .inr (1, [.ref aS, .int (nI k), .int opn, .int end_, .int cmp_, .int dif])), (aS, .inl (E.2.1, 16, .inl (upd fE k ((fE k) ^^^ 128)))), (oK, .inr (0, [.ref aB, .ref aW, .ref aF, .ref aG, .ref aV, .int mde])), (aW, .inl (E.2.1, 176, .inl fW)), (aF, .inl (E.2.1, 16, .inl fF)), (aG, .inl (E.2.1, 16, .inl fG)), (aV, .inl (E.2.1, 16, .inl fV))] := hD
    refine lv_aload_n hx hb dX1_end_39 rfl (lv_at hl 0 rfl) ?_
    refine x_get B hP 0 rfl rfl i_X1 0 (by decide) g_52 rfl dX1_end_40 ?_
    refine lv_aload_n hx hb dX1_end_43 rfl (lv_at hl 1 rfl) ?_
    refine x_getN B hP 2 rfl rfl i_X0 3 (by decide) n_27 rfl dX1_end_44 ?_
    refine lv_iconst (v := 0) hx hb dX1_end_47 (by decide) ?_
    refine x_SNv (wr := [(oM, .inr (1, [.ref aS, .int (nI k), .int opn, .int end_, .int cmp_, .int dif])), (oK, .inr (0, [.ref aB, .ref aW, .ref aF, .ref aG, .ref aV, .int mde])), (aW, .inl (E.2.1, 176, .inl fW)), (aF, .inl (E.2.1, 16, .inl fF)), (aV, .inl (E.2.1, 16, .inl fV))]) (isC := [1, 5]) (isR := [0, 2, 3, 4, 6]) (As := [.ref aS, .ref aG, .int 0]) B (c_X2_xor l E aS aG 16 0 (upd fE k ((fE k) ^^^ 128)) fG 0 rfl (by omega) (by decide)) k_X2_xor n_209 s_X2_xor ⟨by decide, by decide, rfl, rfl⟩ hP hD hS ⟨rfl, rfl, rfl, rfl, by decide⟩ rfl hl.1 rfl (Nat.le_of_ble_eq_true rfl) dX1_end_48 ⟨by decide, by decide⟩ (fun H locs hP hD hS => ?_)
    have hP : va_P E.1 classes [(oM, .inr (1, [.ref aS, .int (nI k), .int opn, .int end_, .int cmp_, .int dif])), (oK, .inr (0, [.ref aB, .ref aW, .ref aF, .ref aG, .ref aV, .int mde])), (aW, .inl (E.2.1, 176, .inl fW)), (aF, .inl (E.2.1, 16, .inl fF)), (aV, .inl (E.2.1, 16, .inl fV)), (aS, .inl (E.2.1, 16, .inl (xorM fG 0 (upd fE k ((fE k) ^^^ 128)) 16))), (aG, .inl (E.2.1, 16, .inl fG))] _ := hP
    have hD : va_D A [(oM, .inr (1, [.ref aS, .int (nI k), .int opn, .int end_, .int cmp_, .int dif])), (oK, .inr (0, [.ref aB, .ref aW, .ref aF, .ref aG, .ref aV, .int mde])), (aW, .inl (E.2.1, 176, .inl fW)), (aF, .inl (E.2.1, 16, .inl fF)), (aV, .inl (E.2.1, 16, .inl fV)), (aS, .inl (E.2.1, 16, .inl (xorM fG 0 (upd fE k ((fE k) ^^^ 128)) 16))), (aG, .inl (E.2.1, 16, .inl fG))] := hD
    refine lv_aload_n hx hb dX1_end_51 rfl (lv_at hl 1 rfl) ?_
    refine lv_aload_n hx hb dX1_end_52 rfl (lv_at hl 0 rfl) ?_
    refine x_get B hP 0 rfl rfl i_X1 0 (by decide) g_52 rfl dX1_end_53 ?_
    refine x_Vv (wr := [(oM, .inr (1, [.ref aS, .int (nI k), .int opn, .int end_, .int cmp_, .int dif])), (aF, .inl (E.2.1, 16, .inl fF)), (aG, .inl (E.2.1, 16, .inl fG))]) (isC := [1, 2, 4, 5]) (isR := [0, 3, 6]) (As := [.ref aS]) B (c_X0_goForth l E oK aB aW aF aG aV aS fW (xorM fG 0 (upd fE k ((fE k) ^^^ 128)) 16) fV mde hW (xorM_by hG (By.upd ht.1 (By.xor (ht.1 k (by omega)) by_128)) 16 (by decide) (by omega)) ht.2.1) k_X0_goForth g_196 s_X0_goForth ⟨by decide, by decide, rfl, rfl⟩ rfl 1 rfl hP hD hS ⟨rfl, rfl, rfl, rfl, by decide⟩ rfl hl.1 rfl (Nat.le_of_ble_eq_true rfl) dX1_end_56 ⟨by decide, by decide⟩ (fun H locs hP hD hS => ?_)
    have hP : va_P E.1 classes [(oM, .inr (1, [.ref aS, .int (nI k), .int opn, .int end_, .int cmp_, .int dif])), (aF, .inl (E.2.1, 16, .inl fF)), (aG, .inl (E.2.1, 16, .inl fG)), (oK, .inr (0, [.ref aB, .ref aW, .ref aF, .ref aG, .ref aV, .int mde])), (aW, .inl (E.2.1, 176, .inl fW)), (aV, .inl (E.2.1, 16, .inl ((forM fW (xorM fG 0 (upd fE k ((fE k) ^^^ 128)) 16) fV 10).2))), (aS, .inl (E.2.1, 16, .inl ((forM fW (xorM fG 0 (upd fE k ((fE k) ^^^ 128)) 16) fV 10).1)))] _ := hP
    have hD : va_D A [(oM, .inr (1, [.ref aS, .int (nI k), .int opn, .int end_, .int cmp_, .int dif])), (aF, .inl (E.2.1, 16, .inl fF)), (aG, .inl (E.2.1, 16, .inl fG)), (oK, .inr (0, [.ref aB, .ref aW, .ref aF, .ref aG, .ref aV, .int mde])), (aW, .inl (E.2.1, 176, .inl fW)), (aV, .inl (E.2.1, 16, .inl ((forM fW (xorM fG 0 (upd fE k ((fE k) ^^^ 128)) 16) fV 10).2))), (aS, .inl (E.2.1, 16, .inl ((forM fW (xorM fG 0 (upd fE k ((fE k) ^^^ 128)) 16) fV 10).1)))] := hD
    refine lv_aload_n hx hb dX1_end_59 rfl (lv_at hl 0 rfl) ?_
    refine lv_iconst (v := 0) hx hb dX1_end_60 (by decide) ?_
    refine x_put B hP hD hS 0 rfl rfl i_X1 tyX1 tyX1_ok nmX1 2 (by decide) g_55 rfl rfl rfl (Nat.le_of_ble_eq_true rfl) dX1_end_61 (fun H locs hP hD hS => ?_)
    have hP : va_P E.1 classes [(oM, .inr (1, [.ref aS, .int (nI k), .int 0, .int end_, .int cmp_, .int dif])), (aF, .inl (E.2.1, 16, .inl fF)), (aG, .inl (E.2.1, 16, .inl fG)), (oK, .inr (0, [.ref aB, .ref aW, .ref aF, .ref aG, .ref aV, .int mde])), (aW, .inl (E.2.1, 176, .inl fW)), (aV, .inl (E.2.1, 16, .inl ((forM fW (xorM fG 0 (upd fE k ((fE k) ^^^ 128)) 16) fV 10).2))), (aS, .inl (E.2.1, 16, .inl ((forM fW (xorM fG 0 (upd fE k ((fE k) ^^^ 128)) 16) fV 10).1)))] _ := hP
    have hD : va_D A [(oM, .inr (1, [.ref aS, .int (nI k), .int 0, .int end_, .int cmp_, .int dif])), (aF, .inl (E.2.1, 16, .inl fF)), (aG, .inl (E.2.1, 16, .inl fG)), (oK, .inr (0, [.ref aB, .ref aW, .ref aF, .ref aG, .ref aV, .int mde])), (aW, .inl (E.2.1, 176, .inl fW)), (aV, .inl (E.2.1, 16, .inl ((forM fW (xorM fG 0 (upd fE k ((fE k) ^^^ 128)) 16) fV 10).2))), (aS, .inl (E.2.1, 16, .inl ((forM fW (xorM fG 0 (upd fE k ((fE k) ^^^ 128)) 16) fV 10).1)))] := hD
    refine lv_aload_n hx hb dX1_end_64 rfl (lv_at hl 0 rfl) ?_
    refine lv_iconst (v := 1) hx hb dX1_end_65 (by decide) ?_
    refine x_put B hP hD hS 0 rfl rfl i_X1 tyX1 tyX1_ok nmX1 3 (by decide) g_57 rfl rfl rfl (Nat.le_of_ble_eq_true rfl) dX1_end_66 (fun H locs hP hD hS => ?_)
    have hP : va_P E.1 classes [(oM, .inr (1, [.ref aS, .int (nI k), .int 0, .int 1, .int cmp_, .int dif])), (aF, .inl (E.2.1, 16, .inl fF)), (aG, .inl (E.2.1, 16, .inl fG)), (oK, .inr (0, [.ref aB, .ref aW, .ref aF, .ref aG, .ref aV, .int mde])), (aW, .inl (E.2.1, 176, .inl fW)), (aV, .inl (E.2.1, 16, .inl ((forM fW (xorM fG 0 (upd fE k ((fE k) ^^^ 128)) 16) fV 10).2))), (aS, .inl (E.2.1, 16, .inl ((forM fW (xorM fG 0 (upd fE k ((fE k) ^^^ 128)) 16) fV 10).1)))] _ := hP
    have hD : va_D A [(oM, .inr (1, [.ref aS, .int (nI k), .int 0, .int 1, .int cmp_, .int dif])), (aF, .inl (E.2.1, 16, .inl fF)), (aG, .inl (E.2.1, 16, .inl fG)), (oK, .inr (0, [.ref aB, .ref aW, .ref aF, .ref aG, .ref aV, .int mde])), (aW, .inl (E.2.1, 176, .inl fW)), (aV, .inl (E.2.1, 16, .inl ((forM fW (xorM fG 0 (upd fE k ((fE k) ^^^ 128)) 16) fV 10).2))), (aS, .inl (E.2.1, 16, .inl ((forM fW (xorM fG 0 (upd fE k ((fE k) ^^^ 128)) 16) fV 10).1)))] := hD
    refine lv_aload_n hx hb dX1_end_69 rfl (lv_at hl 0 rfl) ?_
    refine lv_iconst (v := 0) hx hb dX1_end_70 (by decide) ?_
    refine x_put B hP hD hS 0 rfl rfl i_X1 tyX1 tyX1_ok nmX1 4 (by decide) g_59 rfl rfl rfl (Nat.le_of_ble_eq_true rfl) dX1_end_71 (fun H locs hP hD hS => ?_)
    have hP : va_P E.1 classes [(oM, .inr (1, [.ref aS, .int (nI k), .int 0, .int 1, .int 0, .int dif])), (aF, .inl (E.2.1, 16, .inl fF)), (aG, .inl (E.2.1, 16, .inl fG)), (oK, .inr (0, [.ref aB, .ref aW, .ref aF, .ref aG, .ref aV, .int mde])), (aW, .inl (E.2.1, 176, .inl fW)), (aV, .inl (E.2.1, 16, .inl ((forM fW (xorM fG 0 (upd fE k ((fE k) ^^^ 128)) 16) fV 10).2))), (aS, .inl (E.2.1, 16, .inl ((forM fW (xorM fG 0 (upd fE k ((fE k) ^^^ 128)) 16) fV 10).1)))] _ := hP
    have hD : va_D A [(oM, .inr (1, [.ref aS, .int (nI k), .int 0, .int 1, .int 0, .int dif])), (aF, .inl (E.2.1, 16, .inl fF)), (aG, .inl (E.2.1, 16, .inl fG)), (oK, .inr (0, [.ref aB, .ref aW, .ref aF, .ref aG, .ref aV, .int mde])), (aW, .inl (E.2.1, 176, .inl fW)), (aV, .inl (E.2.1, 16, .inl ((forM fW (xorM fG 0 (upd fE k ((fE k) ^^^ 128)) 16) fV 10).2))), (aS, .inl (E.2.1, 16, .inl ((forM fW (xorM fG 0 (upd fE k ((fE k) ^^^ 128)) 16) fV 10).1)))] := hD
    refine lv_aload_n hx hb dX1_end_74 rfl (lv_at hl 0 rfl) ?_
    refine lv_iconst (v := 0) hx hb dX1_end_75 (by decide) ?_
    refine x_put B hP hD hS 0 rfl rfl i_X1 tyX1 tyX1_ok nmX1 5 (by decide) g_61 rfl rfl rfl (Nat.le_of_ble_eq_true rfl) dX1_end_76 (fun H locs hP hD hS => ?_)
    have hP : va_P E.1 classes [(oM, .inr (1, [.ref aS, .int (nI k), .int 0, .int 1, .int 0, .int 0])), (aF, .inl (E.2.1, 16, .inl fF)), (aG, .inl (E.2.1, 16, .inl fG)), (oK, .inr (0, [.ref aB, .ref aW, .ref aF, .ref aG, .ref aV, .int mde])), (aW, .inl (E.2.1, 176, .inl fW)), (aV, .inl (E.2.1, 16, .inl ((forM fW (xorM fG 0 (upd fE k ((fE k) ^^^ 128)) 16) fV 10).2))), (aS, .inl (E.2.1, 16, .inl ((forM fW (xorM fG 0 (upd fE k ((fE k) ^^^ 128)) 16) fV 10).1)))] _ := hP
    have hD : va_D A [(oM, .inr (1, [.ref aS, .int (nI k), .int 0, .int 1, .int 0, .int 0])), (aF, .inl (E.2.1, 16, .inl fF)), (aG, .inl (E.2.1, 16, .inl fG)), (oK, .inr (0, [.ref aB, .ref aW, .ref aF, .ref aG, .ref aV, .int mde])), (aW, .inl (E.2.1, 176, .inl fW)), (aV, .inl (E.2.1, 16, .inl ((forM fW (xorM fG 0 (upd fE k ((fE k) ^^^ 128)) 16) fV 10).2))), (aS, .inl (E.2.1, 16, .inl ((forM fW (xorM fG 0 (upd fE k ((fE k) ^^^ 128)) 16) fV 10).1)))] := hD
    have hP := hP.sub (ws' := [(oM, .inr (1, [.ref aS, .int (nI k), .int 0, .int 1, .int 0, .int 0])), (aS, .inl (E.2.1, 16, .inl ((forM fW (xorM fG 0 (upd fE k ((fE k) ^^^ 128)) 16) fV 10).1))), (oK, .inr (0, [.ref aB, .ref aW, .ref aF, .ref aG, .ref aV, .int mde])), (aW, .inl (E.2.1, 176, .inl fW)), (aF, .inl (E.2.1, 16, .inl fF)), (aG, .inl (E.2.1, 16, .inl fG)), (aV, .inl (E.2.1, 16, .inl ((forM fW (xorM fG 0 (upd fE k ((fE k) ^^^ 128)) 16) fV 10).2)))]) [0, 6, 3, 4, 1, 2, 5] rfl
    have hD := hD.sub (ws' := [(oM, .inr (1, [.ref aS, .int (nI k), .int 0, .int 1, .int 0, .int 0])), (aS, .inl (E.2.1, 16, .inl ((forM fW (xorM fG 0 (upd fE k ((fE k) ^^^ 128)) 16) fV 10).1))), (oK, .inr (0, [.ref aB, .ref aW, .ref aF, .ref aG, .ref aV, .int mde])), (aW, .inl (E.2.1, 176, .inl fW)), (aF, .inl (E.2.1, 16, .inl fF)), (aG, .inl (E.2.1, 16, .inl fG)), (aV, .inl (E.2.1, 16, .inl ((forM fW (xorM fG 0 (upd fE k ((fE k) ^^^ 128)) 16) fV 10).2)))]) [0, 6, 3, 4, 1, 2, 5] (by decide) rfl
    have hP : va_P E.1 classes [(oM, .inr (1, [.ref aS, .int (nI k), .int 0, .int 1, .int 0, .int 0])), (aS, .inl (E.2.1, 16, .inl ((enM fW fF fG (fE, fV, k)).1))), (oK, .inr (0, [.ref aB, .ref aW, .ref aF, .ref aG, .ref aV, .int mde])), (aW, .inl (E.2.1, 176, .inl fW)), (aF, .inl (E.2.1, 16, .inl fF)), (aG, .inl (E.2.1, 16, .inl fG)), (aV, .inl (E.2.1, 16, .inl ((enM fW fF fG (fE, fV, k)).2)))] _ := (by rw [eF]; exact hP)
    have hD : va_D A [(oM, .inr (1, [.ref aS, .int (nI k), .int 0, .int 1, .int 0, .int 0])), (aS, .inl (E.2.1, 16, .inl ((enM fW fF fG (fE, fV, k)).1))), (oK, .inr (0, [.ref aB, .ref aW, .ref aF, .ref aG, .ref aV, .int mde])), (aW, .inl (E.2.1, 176, .inl fW)), (aF, .inl (E.2.1, 16, .inl fF)), (aG, .inl (E.2.1, 16, .inl fG)), (aV, .inl (E.2.1, 16, .inl ((enM fW fF fG (fE, fV, k)).2)))] := (by rw [eF]; exact hD)
    exact x_vret B hP hD hS dX1_end_79
  · have hk : k = 16 := (nI_eq (b := 16) (by have h3 : k ≤ 16 := ht.2.2; omega) (by decide)).mp c_6
    have eF : enM fW fF fG (fE, fV, k) = forM fW (xorM fF 0 fE 16) fV 10 := if_pos hk
    refine lv_aload_n hx hb dX1_end_9 rfl (lv_at hl 0 rfl) ?_
    refine x_get B hP 0 rfl rfl i_X1 0 (by decide) g_52 rfl dX1_end_10 ?_
    refine lv_aload_n hx hb dX1_end_13 rfl (lv_at hl 1 rfl) ?_
    refine x_getN B hP 2 rfl rfl i_X0 2 (by decide) n_24 rfl dX1_end_14 ?_
    refine lv_iconst (v := 0) hx hb dX1_end_17 (by decide) ?_
    refine x_SNv (wr := [(oM, .inr (1, [.ref aS, .int (nI k), .int opn, .int end_, .int cmp_, .int dif])), (oK, .inr (0, [.ref aB, .ref aW, .ref aF, .ref aG, .ref aV, .int mde])), (aW, .inl (E.2.1, 176, .inl fW)), (aG, .inl (E.2.1, 16, .inl fG)), (aV, .inl (E.2.1, 16, .inl fV))]) (isC := [1, 4]) (isR := [0, 2, 3, 5, 6]) (As := [.ref aS, .ref aF, .int 0]) B (c_X2_xor l E aS aF 16 0 fE fF 0 rfl (by omega) (by decide)) k_X2_xor n_209 s_X2_xor ⟨by decide, by decide, rfl, rfl⟩ hP hD hS ⟨rfl, rfl, rfl, rfl, by decide⟩ rfl hl.1 rfl (Nat.le_of_ble_eq_true rfl) dX1_end_18 ⟨by decide, by decide⟩ (fun H locs hP hD hS => ?_)
    have hP : va_P E.1 classes [(oM, .inr (1, [.ref aS, .int (nI k), .int opn, .int end_, .int cmp_, .int dif])), (oK, .inr (0, [.ref aB, .ref aW, .ref aF, .ref aG, .ref aV, .int mde])), (aW, .inl (E.2.1, 176, .inl fW)), (aG, .inl (E.2.1, 16, .inl fG)), (aV, .inl (E.2.1, 16, .inl fV)), (aS, .inl (E.2.1, 16, .inl (xorM fF 0 fE 16))), (aF, .inl (E.2.1, 16, .inl fF))] _ := hP
    have hD : va_D A [(oM, .inr (1, [.ref aS, .int (nI k), .int opn, .int end_, .int cmp_, .int dif])), (oK, .inr (0, [.ref aB, .ref aW, .ref aF, .ref aG, .ref aV, .int mde])), (aW, .inl (E.2.1, 176, .inl fW)), (aG, .inl (E.2.1, 16, .inl fG)), (aV, .inl (E.2.1, 16, .inl fV)), (aS, .inl (E.2.1, 16, .inl (xorM fF 0 fE 16))), (aF, .inl (E.2.1, 16, .inl fF))] := hD
    refine lv_goto (tgt := 51) hx hb dX1_end_21 (by decide) ?_
    refine lv_aload_n hx hb dX1_end_51 rfl (lv_at hl 1 rfl) ?_
    refine lv_aload_n hx hb dX1_end_52 rfl (lv_at hl 0 rfl) ?_
    refine x_get B hP 0 rfl rfl i_X1 0 (by decide) g_52 rfl dX1_end_53 ?_
    refine x_Vv (wr := [(oM, .inr (1, [.ref aS, .int (nI k), .int opn, .int end_, .int cmp_, .int dif])), (aG, .inl (E.2.1, 16, .inl fG)), (aF, .inl (E.2.1, 16, .inl fF))]) (isC := [1, 2, 4, 5]) (isR := [0, 3, 6]) (As := [.ref aS]) B (c_X0_goForth l E oK aB aW aF aG aV aS fW (xorM fF 0 fE 16) fV mde hW (xorM_by hF ht.1 16 (by decide) (by omega)) ht.2.1) k_X0_goForth g_196 s_X0_goForth ⟨by decide, by decide, rfl, rfl⟩ rfl 1 rfl hP hD hS ⟨rfl, rfl, rfl, rfl, by decide⟩ rfl hl.1 rfl (Nat.le_of_ble_eq_true rfl) dX1_end_56 ⟨by decide, by decide⟩ (fun H locs hP hD hS => ?_)
    have hP : va_P E.1 classes [(oM, .inr (1, [.ref aS, .int (nI k), .int opn, .int end_, .int cmp_, .int dif])), (aG, .inl (E.2.1, 16, .inl fG)), (aF, .inl (E.2.1, 16, .inl fF)), (oK, .inr (0, [.ref aB, .ref aW, .ref aF, .ref aG, .ref aV, .int mde])), (aW, .inl (E.2.1, 176, .inl fW)), (aV, .inl (E.2.1, 16, .inl ((forM fW (xorM fF 0 fE 16) fV 10).2))), (aS, .inl (E.2.1, 16, .inl ((forM fW (xorM fF 0 fE 16) fV 10).1)))] _ := hP
    have hD : va_D A [(oM, .inr (1, [.ref aS, .int (nI k), .int opn, .int end_, .int cmp_, .int dif])), (aG, .inl (E.2.1, 16, .inl fG)), (aF, .inl (E.2.1, 16, .inl fF)), (oK, .inr (0, [.ref aB, .ref aW, .ref aF, .ref aG, .ref aV, .int mde])), (aW, .inl (E.2.1, 176, .inl fW)), (aV, .inl (E.2.1, 16, .inl ((forM fW (xorM fF 0 fE 16) fV 10).2))), (aS, .inl (E.2.1, 16, .inl ((forM fW (xorM fF 0 fE 16) fV 10).1)))] := hD
    refine lv_aload_n hx hb dX1_end_59 rfl (lv_at hl 0 rfl) ?_
    refine lv_iconst (v := 0) hx hb dX1_end_60 (by decide) ?_
    refine x_put B hP hD hS 0 rfl rfl i_X1 tyX1 tyX1_ok nmX1 2 (by decide) g_55 rfl rfl rfl (Nat.le_of_ble_eq_true rfl) dX1_end_61 (fun H locs hP hD hS => ?_)
    have hP : va_P E.1 classes [(oM, .inr (1, [.ref aS, .int (nI k), .int 0, .int end_, .int cmp_, .int dif])), (aG, .inl (E.2.1, 16, .inl fG)), (aF, .inl (E.2.1, 16, .inl fF)), (oK, .inr (0, [.ref aB, .ref aW, .ref aF, .ref aG, .ref aV, .int mde])), (aW, .inl (E.2.1, 176, .inl fW)), (aV, .inl (E.2.1, 16, .inl ((forM fW (xorM fF 0 fE 16) fV 10).2))), (aS, .inl (E.2.1, 16, .inl ((forM fW (xorM fF 0 fE 16) fV 10).1)))] _ := hP
    have hD : va_D A [(oM, .inr (1, [.ref aS, .int (nI k), .int 0, .int end_, .int cmp_, .int dif])), (aG, .inl (E.2.1, 16, .inl fG)), (aF, .inl (E.2.1, 16, .inl fF)), (oK, .inr (0, [.ref aB, .ref aW, .ref aF, .ref aG, .ref aV, .int mde])), (aW, .inl (E.2.1, 176, .inl fW)), (aV, .inl (E.2.1, 16, .inl ((forM fW (xorM fF 0 fE 16) fV 10).2))), (aS, .inl (E.2.1, 16, .inl ((forM fW (xorM fF 0 fE 16) fV 10).1)))] := hD
    refine lv_aload_n hx hb dX1_end_64 rfl (lv_at hl 0 rfl) ?_
    refine lv_iconst (v := 1) hx hb dX1_end_65 (by decide) ?_
    refine x_put B hP hD hS 0 rfl rfl i_X1 tyX1 tyX1_ok nmX1 3 (by decide) g_57 rfl rfl rfl (Nat.le_of_ble_eq_true rfl) dX1_end_66 (fun H locs hP hD hS => ?_)
    have hP : va_P E.1 classes [(oM, .inr (1, [.ref aS, .int (nI k), .int 0, .int 1, .int cmp_, .int dif])), (aG, .inl (E.2.1, 16, .inl fG)), (aF, .inl (E.2.1, 16, .inl fF)), (oK, .inr (0, [.ref aB, .ref aW, .ref aF, .ref aG, .ref aV, .int mde])), (aW, .inl (E.2.1, 176, .inl fW)), (aV, .inl (E.2.1, 16, .inl ((forM fW (xorM fF 0 fE 16) fV 10).2))), (aS, .inl (E.2.1, 16, .inl ((forM fW (xorM fF 0 fE 16) fV 10).1)))] _ := hP
    have hD : va_D A [(oM, .inr (1, [.ref aS, .int (nI k), .int 0, .int 1, .int cmp_, .int dif])), (aG, .inl (E.2.1, 16, .inl fG)), (aF, .inl (E.2.1, 16, .inl fF)), (oK, .inr (0, [.ref aB, .ref aW, .ref aF, .ref aG, .ref aV, .int mde])), (aW, .inl (E.2.1, 176, .inl fW)), (aV, .inl (E.2.1, 16, .inl ((forM fW (xorM fF 0 fE 16) fV 10).2))), (aS, .inl (E.2.1, 16, .inl ((forM fW (xorM fF 0 fE 16) fV 10).1)))] := hD
    refine lv_aload_n hx hb dX1_end_69 rfl (lv_at hl 0 rfl) ?_
    refine lv_iconst (v := 0) hx hb dX1_end_70 (by decide) ?_
    refine x_put B hP hD hS 0 rfl rfl i_X1 tyX1 tyX1_ok nmX1 4 (by decide) g_59 rfl rfl rfl (Nat.le_of_ble_eq_true rfl) dX1_end_71 (fun H locs hP hD hS => ?_)
    have hP : va_P E.1 classes [(oM, .inr (1, [.ref aS, .int (nI k), .int 0, .int 1, .int 0, .int dif])), (aG, .inl (E.2.1, 16, .inl fG)), (aF, .inl (E.2.1, 16, .inl fF)), (oK, .inr (0, [.ref aB, .ref aW, .ref aF, .ref aG, .ref aV, .int mde])), (aW, .inl (E.2.1, 176, .inl fW)), (aV, .inl (E.2.1, 16, .inl ((forM fW (xorM fF 0 fE 16) fV 10).2))), (aS, .inl (E.2.1, 16, .inl ((forM fW (xorM fF 0 fE 16) fV 10).1)))] _ := hP
    have hD : va_D A [(oM, .inr (1, [.ref aS, .int (nI k), .int 0, .int 1, .int 0, .int dif])), (aG, .inl (E.2.1, 16, .inl fG)), (aF, .inl (E.2.1, 16, .inl fF)), (oK, .inr (0, [.ref aB, .ref aW, .ref aF, .ref aG, .ref aV, .int mde])), (aW, .inl (E.2.1, 176, .inl fW)), (aV, .inl (E.2.1, 16, .inl ((forM fW (xorM fF 0 fE 16) fV 10).2))), (aS, .inl (E.2.1, 16, .inl ((forM fW (xorM fF 0 fE 16) fV 10).1)))] := hD
    refine lv_aload_n hx hb dX1_end_74 rfl (lv_at hl 0 rfl) ?_
    refine lv_iconst (v := 0) hx hb dX1_end_75 (by decide) ?_
    refine x_put B hP hD hS 0 rfl rfl i_X1 tyX1 tyX1_ok nmX1 5 (by decide) g_61 rfl rfl rfl (Nat.le_of_ble_eq_true rfl) dX1_end_76 (fun H locs hP hD hS => ?_)
    have hP : va_P E.1 classes [(oM, .inr (1, [.ref aS, .int (nI k), .int 0, .int 1, .int 0, .int 0])), (aG, .inl (E.2.1, 16, .inl fG)), (aF, .inl (E.2.1, 16, .inl fF)), (oK, .inr (0, [.ref aB, .ref aW, .ref aF, .ref aG, .ref aV, .int mde])), (aW, .inl (E.2.1, 176, .inl fW)), (aV, .inl (E.2.1, 16, .inl ((forM fW (xorM fF 0 fE 16) fV 10).2))), (aS, .inl (E.2.1, 16, .inl ((forM fW (xorM fF 0 fE 16) fV 10).1)))] _ := hP
    have hD : va_D A [(oM, .inr (1, [.ref aS, .int (nI k), .int 0, .int 1, .int 0, .int 0])), (aG, .inl (E.2.1, 16, .inl fG)), (aF, .inl (E.2.1, 16, .inl fF)), (oK, .inr (0, [.ref aB, .ref aW, .ref aF, .ref aG, .ref aV, .int mde])), (aW, .inl (E.2.1, 176, .inl fW)), (aV, .inl (E.2.1, 16, .inl ((forM fW (xorM fF 0 fE 16) fV 10).2))), (aS, .inl (E.2.1, 16, .inl ((forM fW (xorM fF 0 fE 16) fV 10).1)))] := hD
    have hP := hP.sub (ws' := [(oM, .inr (1, [.ref aS, .int (nI k), .int 0, .int 1, .int 0, .int 0])), (aS, .inl (E.2.1, 16, .inl ((forM fW (xorM fF 0 fE 16) fV 10).1))), (oK, .inr (0, [.ref aB, .ref aW, .ref aF, .ref aG, .ref aV, .int mde])), (aW, .inl (E.2.1, 176, .inl fW)), (aF, .inl (E.2.1, 16, .inl fF)), (aG, .inl (E.2.1, 16, .inl fG)), (aV, .inl (E.2.1, 16, .inl ((forM fW (xorM fF 0 fE 16) fV 10).2)))]) [0, 6, 3, 4, 2, 1, 5] rfl
    have hD := hD.sub (ws' := [(oM, .inr (1, [.ref aS, .int (nI k), .int 0, .int 1, .int 0, .int 0])), (aS, .inl (E.2.1, 16, .inl ((forM fW (xorM fF 0 fE 16) fV 10).1))), (oK, .inr (0, [.ref aB, .ref aW, .ref aF, .ref aG, .ref aV, .int mde])), (aW, .inl (E.2.1, 176, .inl fW)), (aF, .inl (E.2.1, 16, .inl fF)), (aG, .inl (E.2.1, 16, .inl fG)), (aV, .inl (E.2.1, 16, .inl ((forM fW (xorM fF 0 fE 16) fV 10).2)))]) [0, 6, 3, 4, 2, 1, 5] (by decide) rfl
    have hP : va_P E.1 classes [(oM, .inr (1, [.ref aS, .int (nI k), .int 0, .int 1, .int 0, .int 0])), (aS, .inl (E.2.1, 16, .inl ((enM fW fF fG (fE, fV, k)).1))), (oK, .inr (0, [.ref aB, .ref aW, .ref aF, .ref aG, .ref aV, .int mde])), (aW, .inl (E.2.1, 176, .inl fW)), (aF, .inl (E.2.1, 16, .inl fF)), (aG, .inl (E.2.1, 16, .inl fG)), (aV, .inl (E.2.1, 16, .inl ((enM fW fF fG (fE, fV, k)).2)))] _ := (by rw [eF]; exact hP)
    have hD : va_D A [(oM, .inr (1, [.ref aS, .int (nI k), .int 0, .int 1, .int 0, .int 0])), (aS, .inl (E.2.1, 16, .inl ((enM fW fF fG (fE, fV, k)).1))), (oK, .inr (0, [.ref aB, .ref aW, .ref aF, .ref aG, .ref aV, .int mde])), (aW, .inl (E.2.1, 176, .inl fW)), (aF, .inl (E.2.1, 16, .inl fF)), (aG, .inl (E.2.1, 16, .inl fG)), (aV, .inl (E.2.1, 16, .inl ((enM fW fF fG (fE, fV, k)).2)))] := (by rw [eF]; exact hD)
    exact x_vret B hP hD hS dX1_end_79
set_option maxHeartbeats 4000000 in
set_option maxRecDepth 100000 in
/-- compare -/
theorem c_X1_compare (l : Launch) (E : EE) (oM aS : Nat) (fE : Nat → Int32) (fil opn end_ cmp_ dif : Int32) (k : Nat) (v x : Int32) (hv : v = nI k) (hk : k < 16) : Cv l yX1_compare (.code yX1_compare cX1_compare 3 none) ({ frames := 0, cells := 0, slots := 0, locals := 0 }) E [.ref oM, .int v, .int x] [(oM, .inr (1, [.ref aS, .int fil, .int opn, .int end_, .int cmp_, .int dif])), (aS, .inl (E.2.1, 16, .inl fE))] [(oM, .inr (1, [.ref aS, .int fil, .int opn, .int end_, .int (cmp_ ||| ((1 : Int32) <<< (v &&& 31))), .int (if fE k = x then dif else 1)])), (aS, .inl (E.2.1, 16, .inl fE))] := by
  refine Cv.of (by decide) (Nat.le_of_ble_eq_true rfl) ?_
  intro p e s m below meth c A ls B hP hD hS hl
  have hl : lv_has ls 3 [(0, .ref oM), (1, .int v), (2, .int x)] := hl
  have B : Bd p s m _ meth c cX1_compare 3 none RX1 E A := B
  have hx := B.1
  have hb := B.2.1
  have hP : va_P E.1 classes [(oM, .inr (1, [.ref aS, .int fil, .int opn, .int end_, .int cmp_, .int dif])), (aS, .inl (E.2.1, 16, .inl fE))] _ := hP
  have hD : va_D A [(oM, .inr (1, [.ref aS, .int fil, .int opn, .int end_, .int cmp_, .int dif])), (aS, .inl (E.2.1, 16, .inl fE))] := hD
  refine lv_aload_n hx hb dX1_compare_0 rfl (lv_at hl 0 rfl) ?_
  refine lv_dup hx hb dX1_compare_1 rfl ?_
  refine x_get B hP 0 rfl rfl i_X1 4 (by decide) g_59 rfl dX1_compare_2 ?_
  refine lv_iconst (v := 1) hx hb dX1_compare_5 (by decide) ?_
  refine lv_iload_n hx hb dX1_compare_6 rfl (lv_at hl 1 rfl) ?_
  refine lv_ishl hx hb dX1_compare_7 ?_
  refine lv_ior hx hb dX1_compare_8 ?_
  refine x_put B hP hD hS 0 rfl rfl i_X1 tyX1 tyX1_ok nmX1 4 (by decide) g_59 rfl rfl rfl (Nat.le_of_ble_eq_true rfl) dX1_compare_9 (fun H locs hP hD hS => ?_)
  have hP : va_P E.1 classes [(oM, .inr (1, [.ref aS, .int fil, .int opn, .int end_, .int (cmp_ ||| (1 <<< ((v : Int32) &&& 31))), .int dif])), (aS, .inl (E.2.1, 16, .inl fE))] _ := hP
  have hD : va_D A [(oM, .inr (1, [.ref aS, .int fil, .int opn, .int end_, .int (cmp_ ||| (1 <<< ((v : Int32) &&& 31))), .int dif])), (aS, .inl (E.2.1, 16, .inl fE))] := hD
  refine lv_aload_n hx hb dX1_compare_12 rfl (lv_at hl 0 rfl) ?_
  refine x_get B hP 0 rfl rfl i_X1 0 (by decide) g_52 rfl dX1_compare_13 ?_
  refine lv_iload_n hx hb dX1_compare_16 rfl (lv_at hl 1 rfl) ?_
  refine x_ald B hP 1 rfl k hv (by omega) (by decide) dX1_compare_17 ?_
  refine lv_iload_n hx hb dX1_compare_18 rfl (lv_at hl 2 rfl) ?_
  refine lv_icmp_eq (tgt := 27) hx hb dX1_compare_19 (by decide) (fun c_19 => ?_) (fun c_19 => ?_)
  · have eF : (if fE k = x then dif else 1) = dif := if_pos c_19
    have hP : va_P E.1 classes [(oM, .inr (1, [.ref aS, .int fil, .int opn, .int end_, .int (cmp_ ||| ((1 : Int32) <<< (v &&& 31))), .int (if fE k = x then dif else 1)])), (aS, .inl (E.2.1, 16, .inl fE))] _ := (by rw [eF]; exact hP)
    have hD : va_D A [(oM, .inr (1, [.ref aS, .int fil, .int opn, .int end_, .int (cmp_ ||| ((1 : Int32) <<< (v &&& 31))), .int (if fE k = x then dif else 1)])), (aS, .inl (E.2.1, 16, .inl fE))] := (by rw [eF]; exact hD)
    exact x_vret B hP hD hS dX1_compare_27
  · have eF : (if fE k = x then dif else 1) = 1 := if_neg c_19
    refine lv_aload_n hx hb dX1_compare_22 rfl (lv_at hl 0 rfl) ?_
    refine lv_iconst (v := 1) hx hb dX1_compare_23 (by decide) ?_
    refine x_put B hP hD hS 0 rfl rfl i_X1 tyX1 tyX1_ok nmX1 5 (by decide) g_61 rfl rfl rfl (Nat.le_of_ble_eq_true rfl) dX1_compare_24 (fun H locs hP hD hS => ?_)
    have hP : va_P E.1 classes [(oM, .inr (1, [.ref aS, .int fil, .int opn, .int end_, .int (cmp_ ||| (1 <<< ((v : Int32) &&& 31))), .int 1])), (aS, .inl (E.2.1, 16, .inl fE))] _ := hP
    have hD : va_D A [(oM, .inr (1, [.ref aS, .int fil, .int opn, .int end_, .int (cmp_ ||| (1 <<< ((v : Int32) &&& 31))), .int 1])), (aS, .inl (E.2.1, 16, .inl fE))] := hD
    have hP : va_P E.1 classes [(oM, .inr (1, [.ref aS, .int fil, .int opn, .int end_, .int (cmp_ ||| ((1 : Int32) <<< (v &&& 31))), .int (if fE k = x then dif else 1)])), (aS, .inl (E.2.1, 16, .inl fE))] _ := (by rw [eF]; exact hP)
    have hD : va_D A [(oM, .inr (1, [.ref aS, .int fil, .int opn, .int end_, .int (cmp_ ||| ((1 : Int32) <<< (v &&& 31))), .int (if fE k = x then dif else 1)])), (aS, .inl (E.2.1, 16, .inl fE))] := (by rw [eF]; exact hD)
    exact x_vret B hP hD hS dX1_compare_27
