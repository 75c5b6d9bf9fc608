set_option maxHeartbeats 4000000 in
set_option maxRecDepth 100000 in
theorem lp_add {p : Program} {l : Launch} {e : Env} {R : Room} {s : State} {m : MethodId} {args : Array Value} {below : List Frame} {meth : Method} {c : Code} {cells slots : Nat} {Q : State → Prop} {E : EE} {A : Nat → Prop} {r bK bB bP bS bU bW bH bT bV bC bL bZ : Nat} {thr rdr mdr msr lcr wrr : Int32} {gW gT : Nat → Int32} {k : Nat} {v : Int32} (B : Bd p s m args meth c cX3_add 3 none RX3 E A) (hf : cells ≤ R.cells ∧ slots ≤ R.slots) (hv : v = nI k) (hk : k ≤ 10)
    (kk : ∀ (H : Heap) (locs : List Loc) (ls : Array Slot), va_P E.1 classes [(r, .inr (3, [.int thr, .int rdr, .int mdr, .int msr, .ref bK, .ref bB, .ref bP, .ref bS, .ref bU, .ref bW, .ref bH, .ref bT, .ref bV, .ref bC, .ref bL, .int lcr, .ref bZ, .int wrr])), (bW, .inl (E.2.1, 176, .inl gW)), (bT, .inl (E.2.1, 16, .inl (xorM gW (16 * k) gT 16)))] H → va_D A [(r, .inr (3, [.int thr, .int rdr, .int mdr, .int msr, .ref bK, .ref bB, .ref bP, .ref bS, .ref bU, .ref bW, .ref bH, .ref bT, .ref bV, .ref bC, .ref bL, .int lcr, .ref bZ, .int wrr])), (bW, .inl (E.2.1, 176, .inl gW)), (bT, .inl (E.2.1, 16, .inl (xorM gW (16 * k) gT 16)))] → va_S A s.heap H locs → lv_has ls 3 [(2, .int (nI 16)), (0, .ref r), (1, .int v)] → W p l e R s m args below meth c H locs cells slots Q (F0 m 38 ls [])) :
    ∀ (fu i : Nat), i ≤ 16 → 16 < i + fu → ∀ (H : Heap) (locs : List Loc) (ls : Array Slot), va_P E.1 classes [(r, .inr (3, [.int thr, .int rdr, .int mdr, .int msr, .ref bK, .ref bB, .ref bP, .ref bS, .ref bU, .ref bW, .ref bH, .ref bT, .ref bV, .ref bC, .ref bL, .int lcr, .ref bZ, .int wrr])), (bW, .inl (E.2.1, 176, .inl gW)), (bT, .inl (E.2.1, 16, .inl (xorM gW (16 * k) gT i)))] H → va_D A [(r, .inr (3, [.int thr, .int rdr, .int mdr, .int msr, .ref bK, .ref bB, .ref bP, .ref bS, .ref bU, .ref bW, .ref bH, .ref bT, .ref bV, .ref bC, .ref bL, .int lcr, .ref bZ, .int wrr])), (bW, .inl (E.2.1, 176, .inl gW)), (bT, .inl (E.2.1, 16, .inl (xorM gW (16 * k) gT i)))] → va_S A s.heap H locs → lv_has ls 3 [(2, .int (nI i)), (0, .ref r), (1, .int v)] → W p l e R s m args below meth c H locs cells slots Q (F0 m 2 ls []) := by
  have hx := B.1
  have hb := B.2.1
  intro fu
  induction fu with
  | zero =>
    intro i h1 h2
    exact absurd h2 (by omega)
  | succ fu ih =>
    intro i hi hin H locs ls hP hD hS hl
    refine lv_iload_n hx hb dX3_add_2 rfl (lv_at hl 0 rfl) ?_
    refine lv_bipush (v := 16) hx hb dX3_add_3 (by decide) ?_
    refine lv_icmp_ge (tgt := 38) hx hb dX3_add_5 (by decide) (fun c_5 => ?_) (fun c_5 => ?_)
    · have hj : i = 16 := by have := ge_t (b := 16) c_5 (by omega) (by omega); omega
      subst hj
      exact kk _ _ _ hP hD hS hl
    · have hj : i < 16 := by have := ge_f (b := 16) c_5 (by omega) (by omega); omega
      refine lv_aload_n hx hb dX3_add_8 rfl (lv_at hl 1 rfl) ?_
      refine x_get B hP 0 rfl rfl i_X3 11 (by decide) g_300 rfl dX3_add_9 ?_
      refine lv_iload_n hx hb dX3_add_12 rfl (lv_at hl 0 rfl) ?_
      refine lv_aload_n hx hb dX3_add_13 rfl (lv_at hl 1 rfl) ?_
      refine x_get B hP 0 rfl rfl i_X3 11 (by decide) g_300 rfl dX3_add_14 ?_
      refine lv_iload_n hx hb dX3_add_17 rfl (lv_at hl 0 rfl) ?_
      refine x_ald B hP 2 rfl i rfl (by omega) (by decide) dX3_add_18 ?_
      refine lv_aload_n hx hb dX3_add_19 rfl (lv_at hl 1 rfl) ?_
      refine x_get B hP 0 rfl rfl i_X3 9 (by decide) g_298 rfl dX3_add_20 ?_
      refine lv_bipush (v := 16) hx hb dX3_add_23 (by decide) ?_
      refine lv_iload_n hx hb dX3_add_25 rfl (lv_at hl 2 rfl) ?_
      refine lv_imul hx hb dX3_add_26 ?_
      refine lv_iload_n hx hb dX3_add_27 rfl (lv_at hl 0 rfl) ?_
      refine lv_iadd hx hb dX3_add_28 ?_
      refine x_ald B hP 1 rfl ((16 * k) + i) (na_add (na_mul rfl hv) rfl) (by omega) (by decide) dX3_add_29 ?_
      refine lv_ixor hx hb dX3_add_30 ?_
      refine x_ast B hP hD hS 2 rfl i rfl (by omega) (by decide) dX3_add_31 (fun H locs hP hD hS => ?_)
      have hP : va_P E.1 classes [(r, .inr (3, [.int thr, .int rdr, .int mdr, .int msr, .ref bK, .ref bB, .ref bP, .ref bS, .ref bU, .ref bW, .ref bH, .ref bT, .ref bV, .ref bC, .ref bL, .int lcr, .ref bZ, .int wrr])), (bW, .inl (E.2.1, 176, .inl gW)), (bT, .inl (E.2.1, 16, .inl (upd (xorM gW (16 * k) gT i) i (((xorM gW (16 * k) gT i) i) ^^^ (gW ((16 * k) + i))))))] _ := hP
      have hD : va_D A [(r, .inr (3, [.int thr, .int rdr, .int mdr, .int msr, .ref bK, .ref bB, .ref bP, .ref bS, .ref bU, .ref bW, .ref bH, .ref bT, .ref bV, .ref bC, .ref bL, .int lcr, .ref bZ, .int wrr])), (bW, .inl (E.2.1, 176, .inl gW)), (bT, .inl (E.2.1, 16, .inl (upd (xorM gW (16 * k) gT i) i (((xorM gW (16 * k) gT i) i) ^^^ (gW ((16 * k) + i))))))] := hD
      refine lv_iinc (v := (nI (i + 1))) (lv' := [(2, .int (nI (i + 1))), (0, .ref r), (1, .int v)]) hx hb dX3_add_32 hl (k := 0) rfl (ii_1 i) (by decide) rfl (fun ls hl => ?_)
      refine lv_goto (tgt := 2) hx hb dX3_add_35 (by decide) ?_
      have hP : va_P E.1 classes [(r, .inr (3, [.int thr, .int rdr, .int mdr, .int msr, .ref bK, .ref bB, .ref bP, .ref bS, .ref bU, .ref bW, .ref bH, .ref bT, .ref bV, .ref bC, .ref bL, .int lcr, .ref bZ, .int wrr])), (bW, .inl (E.2.1, 176, .inl gW)), (bT, .inl (E.2.1, 16, .inl (xorM gW (16 * k) gT (i + 1))))] _ := hP
      have hD : va_D A [(r, .inr (3, [.int thr, .int rdr, .int mdr, .int msr, .ref bK, .ref bB, .ref bP, .ref bS, .ref bU, .ref bW, .ref bH, .ref bT, .ref bV, .ref bC, .ref bL, .int lcr, .ref bZ, .int wrr])), (bW, .inl (E.2.1, 176, .inl gW)), (bT, .inl (E.2.1, 16, .inl (xorM gW (16 * k) gT (i + 1))))] := hD
      exact ih (i + 1) (by omega) (by omega) _ _ _ hP hD hS (lv_sub hl [0, 1, 2] rfl)
set_option maxHeartbeats 4000000 in
set_option maxRecDepth 100000 in
/-- the reference: add -/
theorem c_X3_add (l : Launch) (E : EE) (r bK bB bP bS bU bW bH bT bV bC bL bZ : Nat) (thr rdr mdr msr lcr wrr : Int32) (gW gT : Nat → Int32) (k : Nat) (v : Int32) (hv : v = nI k) (hk : k ≤ 10) : Cv l yX3_add (.code yX3_add cX3_add 3 none) ({ frames := 0, cells := 0, slots := 0, locals := 0 }) E [.ref r, .int v] [(r, .inr (3, [.int thr, .int rdr, .int mdr, .int msr, .ref bK, .ref bB, .ref bP, .ref bS, .ref bU, .ref bW, .ref bH, .ref bT, .ref bV, .ref bC, .ref bL, .int lcr, .ref bZ, .int wrr])), (bW, .inl (E.2.1, 176, .inl gW)), (bT, .inl (E.2.1, 16, .inl gT))] [(r, .inr (3, [.int thr, .int rdr, .int mdr, .int msr, .ref bK, .ref bB, .ref bP, .ref bS, .ref bU, .ref bW, .ref bH, .ref bT, .ref bV, .ref bC, .ref bL, .int lcr, .ref bZ, .int wrr])), (bW, .inl (E.2.1, 176, .inl gW)), (bT, .inl (E.2.1, 16, .inl (xorM gW (16 * k) gT 16)))] := by
  refine Cv.of (by decide) (Nat.le_of_ble_eq_true rfl) ?_
  intro p e s m below meth c A ls B hP hD hS hl
  have hl : lv_has ls 3 [(0, .ref r), (1, .int v)] := hl
  have B : Bd p s m _ meth c cX3_add 3 none RX3 E A := B
  have hx := B.1
  have hb := B.2.1
  have hP : va_P E.1 classes [(r, .inr (3, [.int thr, .int rdr, .int mdr, .int msr, .ref bK, .ref bB, .ref bP, .ref bS, .ref bU, .ref bW, .ref bH, .ref bT, .ref bV, .ref bC, .ref bL, .int lcr, .ref bZ, .int wrr])), (bW, .inl (E.2.1, 176, .inl gW)), (bT, .inl (E.2.1, 16, .inl gT))] _ := hP
  have hD : va_D A [(r, .inr (3, [.int thr, .int rdr, .int mdr, .int msr, .ref bK, .ref bB, .ref bP, .ref bS, .ref bU, .ref bW, .ref bH, .ref bT, .ref bV, .ref bC, .ref bL, .int lcr, .ref bZ, .int wrr])), (bW, .inl (E.2.1, 176, .inl gW)), (bT, .inl (E.2.1, 16, .inl gT))] := hD
  refine lv_iconst (v := 0) hx hb dX3_add_0 (by decide) ?_
  refine lv_istore_n (lv' := [(2, .int 0), (0, .ref r), (1, .int v)]) hx hb dX3_add_1 rfl hl (by decide) rfl (fun ls hl => ?_)
  have hP : va_P E.1 classes [(r, .inr (3, [.int thr, .int rdr, .int mdr, .int msr, .ref bK, .ref bB, .ref bP, .ref bS, .ref bU, .ref bW, .ref bH, .ref bT, .ref bV, .ref bC, .ref bL, .int lcr, .ref bZ, .int wrr])), (bW, .inl (E.2.1, 176, .inl gW)), (bT, .inl (E.2.1, 16, .inl (xorM gW (16 * k) gT 0)))] _ := hP
  have hD : va_D A [(r, .inr (3, [.int thr, .int rdr, .int mdr, .int msr, .ref bK, .ref bB, .ref bP, .ref bS, .ref bU, .ref bW, .ref bH, .ref bT, .ref bV, .ref bC, .ref bL, .int lcr, .ref bZ, .int wrr])), (bW, .inl (E.2.1, 176, .inl gW)), (bT, .inl (E.2.1, 16, .inl (xorM gW (16 * k) gT 0)))] := hD
  refine lp_add B ⟨by decide, by decide⟩ hv hk (fun H locs ls hP hD hS hl => ?_) 17 0 (by omega) (by omega) _ _ _ hP hD hS (lv_sub hl [0, 1, 2] rfl)
  have hP : va_P E.1 classes [(r, .inr (3, [.int thr, .int rdr, .int mdr, .int msr, .ref bK, .ref bB, .ref bP, .ref bS, .ref bU, .ref bW, .ref bH, .ref bT, .ref bV, .ref bC, .ref bL, .int lcr, .ref bZ, .int wrr])), (bW, .inl (E.2.1, 176, .inl gW)), (bT, .inl (E.2.1, 16, .inl (xorM gW (16 * k) gT 16)))] _ := hP
  have hD : va_D A [(r, .inr (3, [.int thr, .int rdr, .int mdr, .int msr, .ref bK, .ref bB, .ref bP, .ref bS, .ref bU, .ref bW, .ref bH, .ref bT, .ref bV, .ref bC, .ref bL, .int lcr, .ref bZ, .int wrr])), (bW, .inl (E.2.1, 176, .inl gW)), (bT, .inl (E.2.1, 16, .inl (xorM gW (16 * k) gT 16)))] := hD
  exact x_vret B hP hD hS dX3_add_38
set_option maxHeartbeats 4000000 in
set_option maxRecDepth 100000 in
theorem lp_col1 {p : Program} {l : Launch} {e : Env} {R : Room} {s : State} {m : MethodId} {args : Array Value} {below : List Frame} {meth : Method} {c : Code} {cells slots : Nat} {Q : State → Prop} {E : EE} {A : Nat → Prop} {r bK bB bP bS bU bW bH bT bV bC bL bZ : Nat} {thr rdr mdr msr lcr wrr : Int32} {gT gV : Nat → Int32} {x1 x2 x3 x4 : Int32} (B : Bd p s m args meth c cX3_columns 7 none RX3 E A) (hf : cells ≤ R.cells ∧ slots ≤ R.slots) (hR : 1 ≤ R.frames ∧ 24 ≤ R.locals) 
    (kk : ∀ (H : Heap) (locs : List Loc) (ls : Array Slot), va_P E.1 classes [(r, .inr (3, [.int thr, .int rdr, .int mdr, .int msr, .ref bK, .ref bB, .ref bP, .ref bS, .ref bU, .ref bW, .ref bH, .ref bT, .ref bV, .ref bC, .ref bL, .int lcr, .ref bZ, .int wrr])), (bT, .inl (E.2.1, 16, .inl gT)), (bV, .inl (E.2.1, 16, .inl (colM x1 x2 x3 x4 gT gV 16)))] H → va_D A [(r, .inr (3, [.int thr, .int rdr, .int mdr, .int msr, .ref bK, .ref bB, .ref bP, .ref bS, .ref bU, .ref bW, .ref bH, .ref bT, .ref bV, .ref bC, .ref bL, .int lcr, .ref bZ, .int wrr])), (bT, .inl (E.2.1, 16, .inl gT)), (bV, .inl (E.2.1, 16, .inl (colM x1 x2 x3 x4 gT gV 16)))] → va_S A s.heap H locs → lv_has ls 7 [(5, .int (nI 16)), (0, .ref r), (1, .int x1), (2, .int x2), (3, .int x3), (4, .int x4)] → W p l e R s m args below meth c H locs cells slots Q (F0 m 101 ls [])) :
    ∀ (fu i : Nat), i ≤ 16 → 16 < i + fu → ∀ (H : Heap) (locs : List Loc) (ls : Array Slot), va_P E.1 classes [(r, .inr (3, [.int thr, .int rdr, .int mdr, .int msr, .ref bK, .ref bB, .ref bP, .ref bS, .ref bU, .ref bW, .ref bH, .ref bT, .ref bV, .ref bC, .ref bL, .int lcr, .ref bZ, .int wrr])), (bT, .inl (E.2.1, 16, .inl gT)), (bV, .inl (E.2.1, 16, .inl (colM x1 x2 x3 x4 gT gV i)))] H → va_D A [(r, .inr (3, [.int thr, .int rdr, .int mdr, .int msr, .ref bK, .ref bB, .ref bP, .ref bS, .ref bU, .ref bW, .ref bH, .ref bT, .ref bV, .ref bC, .ref bL, .int lcr, .ref bZ, .int wrr])), (bT, .inl (E.2.1, 16, .inl gT)), (bV, .inl (E.2.1, 16, .inl (colM x1 x2 x3 x4 gT gV i)))] → va_S A s.heap H locs → lv_has ls 7 [(5, .int (nI i)), (0, .ref r), (1, .int x1), (2, .int x2), (3, .int x3), (4, .int x4)] → W p l e R s m args below meth c H locs cells slots Q (F0 m 3 ls []) := by
  have hx := B.1
  have hb := B.2.1
  intro fu
  induction fu with
  | zero =>
    intro i h1 h2
    exact absurd h2 (by omega)
  | succ fu ih =>
    intro i hi hin H locs ls hP hD hS hl
    refine lv_iload hx hb dX3_columns_3 (lv_at hl 0 rfl) ?_
    refine lv_bipush (v := 16) hx hb dX3_columns_5 (by decide) ?_
    refine lv_icmp_ge (tgt := 101) hx hb dX3_columns_7 (by decide) (fun c_7 => ?_) (fun c_7 => ?_)
    · have hj : i = 16 := by have := ge_t (b := 16) c_7 (by omega) (by omega); omega
      subst hj
      exact kk _ _ _ hP hD hS hl
    · have hj : i < 16 := by have := ge_f (b := 16) c_7 (by omega) (by omega); omega
      refine lv_iload hx hb dX3_columns_10 (lv_at hl 0 rfl) ?_
      refine lv_iload hx hb dX3_columns_12 (lv_at hl 0 rfl) ?_
      refine lv_iconst (v := 4) hx hb dX3_columns_14 (by decide) ?_
      refine lv_irem hx hb dX3_columns_15 (by decide) ?_
      refine lv_isub hx hb dX3_columns_16 ?_
      refine lv_istore (lv' := [(6, .int ((nI i) - ((nI i) - (nI i) / 4 * 4))), (5, .int (nI i)), (0, .ref r), (1, .int x1), (2, .int x2), (3, .int x3), (4, .int x4)]) hx hb dX3_columns_17 hl (by decide) rfl (fun ls hl => ?_)
      refine lv_aload_n hx hb dX3_columns_19 rfl (lv_at hl 2 rfl) ?_
      refine x_get B hP 0 rfl rfl i_X3 12 (by decide) g_301 rfl dX3_columns_20 ?_
      refine lv_iload hx hb dX3_columns_23 (lv_at hl 1 rfl) ?_
      refine lv_aload_n hx hb dX3_columns_25 rfl (lv_at hl 2 rfl) ?_
      refine x_get B hP 0 rfl rfl i_X3 11 (by decide) g_300 rfl dX3_columns_26 ?_
      refine lv_iload hx hb dX3_columns_29 (lv_at hl 1 rfl) ?_
      refine x_ald B hP 1 rfl i rfl (by omega) (by decide) dX3_columns_31 ?_
      refine lv_iload_n hx hb dX3_columns_32 rfl (lv_at hl 3 rfl) ?_
      refine x_Si (wr := [(r, .inr (3, [.int thr, .int rdr, .int mdr, .int msr, .ref bK, .ref bB, .ref bP, .ref bS, .ref bU, .ref bW, .ref bH, .ref bT, .ref bV, .ref bC, .ref bL, .int lcr, .ref bZ, .int wrr])), (bT, .inl (E.2.1, 16, .inl gT)), (bV, .inl (E.2.1, 16, .inl (colM x1 x2 x3 x4 gT gV i)))]) (isC := []) (isR := [0, 1, 2]) (As := [.int (gT i), .int x1]) B (c_X3_times l E (gT i) x1) k_X3_times g_286 s_X3_times ⟨Nat.le_trans (by decide) hR.1, Nat.le_trans (by decide) hR.2, rfl, rfl⟩ hP hD hS ⟨rfl, rfl, rfl, rfl, by decide⟩ rfl hl.1 rfl (Nat.le_of_ble_eq_true rfl) dX3_columns_33 hf (fun H locs hP hD hS => ?_)
      have hP : va_P E.1 classes [(r, .inr (3, [.int thr, .int rdr, .int mdr, .int msr, .ref bK, .ref bB, .ref bP, .ref bS, .ref bU, .ref bW, .ref bH, .ref bT, .ref bV, .ref bC, .ref bL, .int lcr, .ref bZ, .int wrr])), (bT, .inl (E.2.1, 16, .inl gT)), (bV, .inl (E.2.1, 16, .inl (colM x1 x2 x3 x4 gT gV i)))] _ := hP
      have hD : va_D A [(r, .inr (3, [.int thr, .int rdr, .int mdr, .int msr, .ref bK, .ref bB, .ref bP, .ref bS, .ref bU, .ref bW, .ref bH, .ref bT, .ref bV, .ref bC, .ref bL, .int lcr, .ref bZ, .int wrr])), (bT, .inl (E.2.1, 16, .inl gT)), (bV, .inl (E.2.1, 16, .inl (colM x1 x2 x3 x4 gT gV i)))] := hD
      refine lv_aload_n hx hb dX3_columns_36 rfl (lv_at hl 2 rfl) ?_
      refine x_get B hP 0 rfl rfl i_X3 11 (by decide) g_300 rfl dX3_columns_37 ?_
      refine lv_iload hx hb dX3_columns_40 (lv_at hl 0 rfl) ?_
      refine lv_iload hx hb dX3_columns_42 (lv_at hl 1 rfl) ?_
      refine lv_iconst (v := 1) hx hb dX3_columns_44 (by decide) ?_
      refine lv_iadd hx hb dX3_columns_45 ?_
      refine lv_iconst (v := 4) hx hb dX3_columns_46 (by decide) ?_
      refine lv_irem hx hb dX3_columns_47 (by decide) ?_
      refine lv_iadd hx hb dX3_columns_48 ?_
      refine x_ald B hP 1 rfl ((i - (i % 4)) + ((i + 1) % 4)) (na_add (na_sub rfl (na_rem rfl rfl (by omega) (by decide) (by decide)) (by omega)) (na_rem (na_add rfl rfl) rfl (by omega) (by decide) (by decide))) (by omega) (by decide) dX3_columns_49 ?_
      refine lv_iload_n hx hb dX3_columns_50 rfl (lv_at hl 4 rfl) ?_
      refine x_Si (wr := [(r, .inr (3, [.int thr, .int rdr, .int mdr, .int msr, .ref bK, .ref bB, .ref bP, .ref bS, .ref bU, .ref bW, .ref bH, .ref bT, .ref bV, .ref bC, .ref bL, .int lcr, .ref bZ, .int wrr])), (bT, .inl (E.2.1, 16, .inl gT)), (bV, .inl (E.2.1, 16, .inl (colM x1 x2 x3 x4 gT gV i)))]) (isC := []) (isR := [0, 1, 2]) (As := [.int (gT ((i - (i % 4)) + ((i + 1) % 4))), .int x2]) B (c_X3_times l E (gT ((i - (i % 4)) + ((i + 1) % 4))) x2) k_X3_times g_286 s_X3_times ⟨Nat.le_trans (by decide) hR.1, Nat.le_trans (by decide) hR.2, rfl, rfl⟩ hP hD hS ⟨rfl, rfl, rfl, rfl, by decide⟩ rfl hl.1 rfl (Nat.le_of_ble_eq_true rfl) dX3_columns_51 hf (fun H locs hP hD hS => ?_)
      have hP : va_P E.1 classes [(r, .inr (3, [.int thr, .int rdr, .int mdr, .int msr, .ref bK, .ref bB, .ref bP, .ref bS, .ref bU, .ref bW, .ref bH, .ref bT, .ref bV, .ref bC, .ref bL, .int lcr, .ref bZ, .int wrr])), (bT, .inl (E.2.1, 16, .inl gT)), (bV, .inl (E.2.1, 16, .inl (colM x1 x2 x3 x4 gT gV i)))] _ := hP
      have hD : va_D A [(r, .inr (3, [.int thr, .int rdr, .int mdr, .int msr, .ref bK, .ref bB, .ref bP, .ref bS, .ref bU, .ref bW, .ref bH, .ref bT, .ref bV, .ref bC, .ref bL, .int lcr, .ref bZ, .int wrr])), (bT, .inl (E.2.1, 16, .inl gT)), (bV, .inl (E.2.1, 16, .inl (colM x1 x2 x3 x4 gT gV i)))] := hD
      refine lv_ixor hx hb dX3_columns_54 ?_
      refine lv_aload_n hx hb dX3_columns_55 rfl (lv_at hl 2 rfl) ?_
      refine x_get B hP 0 rfl rfl i_X3 11 (by decide) g_300 rfl dX3_columns_56 ?_
      refine lv_iload hx hb dX3_columns_59 (lv_at hl 0 rfl) ?_
      refine lv_iload hx hb dX3_columns_61 (lv_at hl 1 rfl) ?_
      refine lv_iconst (v := 2) hx hb dX3_columns_63 (by decide) ?_
      refine lv_iadd hx hb dX3_columns_64 ?_
      refine lv_iconst (v := 4) hx hb dX3_columns_65 (by decide) ?_
      refine lv_irem hx hb dX3_columns_66 (by decide) ?_
      refine lv_iadd hx hb dX3_columns_67 ?_
      refine x_ald B hP 1 rfl ((i - (i % 4)) + ((i + 2) % 4)) (na_add (na_sub rfl (na_rem rfl rfl (by omega) (by decide) (by decide)) (by omega)) (na_rem (na_add rfl rfl) rfl (by omega) (by decide) (by decide))) (by omega) (by decide) dX3_columns_68 ?_
      refine lv_iload_n hx hb dX3_columns_69 rfl (lv_at hl 5 rfl) ?_
      refine x_Si (wr := [(r, .inr (3, [.int thr, .int rdr, .int mdr, .int msr, .ref bK, .ref bB, .ref bP, .ref bS, .ref bU, .ref bW, .ref bH, .ref bT, .ref bV, .ref bC, .ref bL, .int lcr, .ref bZ, .int wrr])), (bT, .inl (E.2.1, 16, .inl gT)), (bV, .inl (E.2.1, 16, .inl (colM x1 x2 x3 x4 gT gV i)))]) (isC := []) (isR := [0, 1, 2]) (As := [.int (gT ((i - (i % 4)) + ((i + 2) % 4))), .int x3]) B (c_X3_times l E (gT ((i - (i % 4)) + ((i + 2) % 4))) x3) k_X3_times g_286 s_X3_times ⟨Nat.le_trans (by decide) hR.1, Nat.le_trans (by decide) hR.2, rfl, rfl⟩ hP hD hS ⟨rfl, rfl, rfl, rfl, by decide⟩ rfl hl.1 rfl (Nat.le_of_ble_eq_true rfl) dX3_columns_70 hf (fun H locs hP hD hS => ?_)
      have hP : va_P E.1 classes [(r, .inr (3, [.int thr, .int rdr, .int mdr, .int msr, .ref bK, .ref bB, .ref bP, .ref bS, .ref bU, .ref bW, .ref bH, .ref bT, .ref bV, .ref bC, .ref bL, .int lcr, .ref bZ, .int wrr])), (bT, .inl (E.2.1, 16, .inl gT)), (bV, .inl (E.2.1, 16, .inl (colM x1 x2 x3 x4 gT gV i)))] _ := hP
      have hD : va_D A [(r, .inr (3, [.int thr, .int rdr, .int mdr, .int msr, .ref bK, .ref bB, .ref bP, .ref bS, .ref bU, .ref bW, .ref bH, .ref bT, .ref bV, .ref bC, .ref bL, .int lcr, .ref bZ, .int wrr])), (bT, .inl (E.2.1, 16, .inl gT)), (bV, .inl (E.2.1, 16, .inl (colM x1 x2 x3 x4 gT gV i)))] := hD
      refine lv_ixor hx hb dX3_columns_73 ?_
      refine lv_aload_n hx hb dX3_columns_74 rfl (lv_at hl 2 rfl) ?_
      refine x_get B hP 0 rfl rfl i_X3 11 (by decide) g_300 rfl dX3_columns_75 ?_
      refine lv_iload hx hb dX3_columns_78 (lv_at hl 0 rfl) ?_
      refine lv_iload hx hb dX3_columns_80 (lv_at hl 1 rfl) ?_
      refine lv_iconst (v := 3) hx hb dX3_columns_82 (by decide) ?_
      refine lv_iadd hx hb dX3_columns_83 ?_
      refine lv_iconst (v := 4) hx hb dX3_columns_84 (by decide) ?_
      refine lv_irem hx hb dX3_columns_85 (by decide) ?_
      refine lv_iadd hx hb dX3_columns_86 ?_
      refine x_ald B hP 1 rfl ((i - (i % 4)) + ((i + 3) % 4)) (na_add (na_sub rfl (na_rem rfl rfl (by omega) (by decide) (by decide)) (by omega)) (na_rem (na_add rfl rfl) rfl (by omega) (by decide) (by decide))) (by omega) (by decide) dX3_columns_87 ?_
      refine lv_iload hx hb dX3_columns_88 (lv_at hl 6 rfl) ?_
      refine x_Si (wr := [(r, .inr (3, [.int thr, .int rdr, .int mdr, .int msr, .ref bK, .ref bB, .ref bP, .ref bS, .ref bU, .ref bW, .ref bH, .ref bT, .ref bV, .ref bC, .ref bL, .int lcr, .ref bZ, .int wrr])), (bT, .inl (E.2.1, 16, .inl gT)), (bV, .inl (E.2.1, 16, .inl (colM x1 x2 x3 x4 gT gV i)))]) (isC := []) (isR := [0, 1, 2]) (As := [.int (gT ((i - (i % 4)) + ((i + 3) % 4))), .int x4]) B (c_X3_times l E (gT ((i - (i % 4)) + ((i + 3) % 4))) x4) k_X3_times g_286 s_X3_times ⟨Nat.le_trans (by decide) hR.1, Nat.le_trans (by decide) hR.2, rfl, rfl⟩ hP hD hS ⟨rfl, rfl, rfl, rfl, by decide⟩ rfl hl.1 rfl (Nat.le_of_ble_eq_true rfl) dX3_columns_90 hf (fun H locs hP hD hS => ?_)
      have hP : va_P E.1 classes [(r, .inr (3, [.int thr, .int rdr, .int mdr, .int msr, .ref bK, .ref bB, .ref bP, .ref bS, .ref bU, .ref bW, .ref bH, .ref bT, .ref bV, .ref bC, .ref bL, .int lcr, .ref bZ, .int wrr])), (bT, .inl (E.2.1, 16, .inl gT)), (bV, .inl (E.2.1, 16, .inl (colM x1 x2 x3 x4 gT gV i)))] _ := hP
      have hD : va_D A [(r, .inr (3, [.int thr, .int rdr, .int mdr, .int msr, .ref bK, .ref bB, .ref bP, .ref bS, .ref bU, .ref bW, .ref bH, .ref bT, .ref bV, .ref bC, .ref bL, .int lcr, .ref bZ, .int wrr])), (bT, .inl (E.2.1, 16, .inl gT)), (bV, .inl (E.2.1, 16, .inl (colM x1 x2 x3 x4 gT gV i)))] := hD
      refine lv_ixor hx hb dX3_columns_93 ?_
      refine x_ast B hP hD hS 2 rfl i rfl (by omega) (by decide) dX3_columns_94 (fun H locs hP hD hS => ?_)
      have hP : va_P E.1 classes [(r, .inr (3, [.int thr, .int rdr, .int mdr, .int msr, .ref bK, .ref bB, .ref bP, .ref bS, .ref bU, .ref bW, .ref bH, .ref bT, .ref bV, .ref bC, .ref bL, .int lcr, .ref bZ, .int wrr])), (bT, .inl (E.2.1, 16, .inl gT)), (bV, .inl (E.2.1, 16, .inl (upd (colM x1 x2 x3 x4 gT gV i) i ((((tmR (gT i) x1) ^^^ (tmR (gT ((i - (i % 4)) + ((i + 1) % 4))) x2)) ^^^ (tmR (gT ((i - (i % 4)) + ((i + 2) % 4))) x3)) ^^^ (tmR (gT ((i - (i % 4)) + ((i + 3) % 4))) x4)))))] _ := hP
      have hD : va_D A [(r, .inr (3, [.int thr, .int rdr, .int mdr, .int msr, .ref bK, .ref bB, .ref bP, .ref bS, .ref bU, .ref bW, .ref bH, .ref bT, .ref bV, .ref bC, .ref bL, .int lcr, .ref bZ, .int wrr])), (bT, .inl (E.2.1, 16, .inl gT)), (bV, .inl (E.2.1, 16, .inl (upd (colM x1 x2 x3 x4 gT gV i) i ((((tmR (gT i) x1) ^^^ (tmR (gT ((i - (i % 4)) + ((i + 1) % 4))) x2)) ^^^ (tmR (gT ((i - (i % 4)) + ((i + 2) % 4))) x3)) ^^^ (tmR (gT ((i - (i % 4)) + ((i + 3) % 4))) x4)))))] := hD
      refine lv_iinc (v := (nI (i + 1))) (lv' := [(5, .int (nI (i + 1))), (6, .int ((nI i) - ((nI i) - (nI i) / 4 * 4))), (0, .ref r), (1, .int x1), (2, .int x2), (3, .int x3), (4, .int x4)]) hx hb dX3_columns_95 hl (k := 1) rfl (ii_1 i) (by decide) rfl (fun ls hl => ?_)
      refine lv_goto (tgt := 3) hx hb dX3_columns_98 (by decide) ?_
      have hP : va_P E.1 classes [(r, .inr (3, [.int thr, .int rdr, .int mdr, .int msr, .ref bK, .ref bB, .ref bP, .ref bS, .ref bU, .ref bW, .ref bH, .ref bT, .ref bV, .ref bC, .ref bL, .int lcr, .ref bZ, .int wrr])), (bT, .inl (E.2.1, 16, .inl gT)), (bV, .inl (E.2.1, 16, .inl (colM x1 x2 x3 x4 gT gV (i + 1))))] _ := hP
      have hD : va_D A [(r, .inr (3, [.int thr, .int rdr, .int mdr, .int msr, .ref bK, .ref bB, .ref bP, .ref bS, .ref bU, .ref bW, .ref bH, .ref bT, .ref bV, .ref bC, .ref bL, .int lcr, .ref bZ, .int wrr])), (bT, .inl (E.2.1, 16, .inl gT)), (bV, .inl (E.2.1, 16, .inl (colM x1 x2 x3 x4 gT gV (i + 1))))] := hD
      exact ih (i + 1) (by omega) (by omega) _ _ _ hP hD hS (lv_sub hl [0, 2, 3, 4, 5, 6] rfl)
set_option maxHeartbeats 4000000 in
set_option maxRecDepth 100000 in
theorem lp_col2 {p : Program} {l : Launch} {e : Env} {R : Room} {s : State} {m : MethodId} {args : Array Value} {below : List Frame} {meth : Method} {c : Code} {cells slots : Nat} {Q : State → Prop} {E : EE} {A : Nat → Prop} {r bK bB bP bS bU bW bH bT bV bC bL bZ : Nat} {thr rdr mdr msr lcr wrr : Int32} {gT gV : Nat → Int32} (B : Bd p s m args meth c cX3_columns 7 none RX3 E A) (hf : cells ≤ R.cells ∧ slots ≤ R.slots) 
    (kk : ∀ (H : Heap) (locs : List Loc) (ls : Array Slot), va_P E.1 classes [(r, .inr (3, [.int thr, .int rdr, .int mdr, .int msr, .ref bK, .ref bB, .ref bP, .ref bS, .ref bU, .ref bW, .ref bH, .ref bT, .ref bV, .ref bC, .ref bL, .int lcr, .ref bZ, .int wrr])), (bT, .inl (E.2.1, 16, .inl (cpM gV gT 16))), (bV, .inl (E.2.1, 16, .inl gV))] H → va_D A [(r, .inr (3, [.int thr, .int rdr, .int mdr, .int msr, .ref bK, .ref bB, .ref bP, .ref bS, .ref bU, .ref bW, .ref bH, .ref bT, .ref bV, .ref bC, .ref bL, .int lcr, .ref bZ, .int wrr])), (bT, .inl (E.2.1, 16, .inl (cpM gV gT 16))), (bV, .inl (E.2.1, 16, .inl gV))] → va_S A s.heap H locs → lv_has ls 7 [(5, .int (nI 16)), (0, .ref r)] → W p l e R s m args below meth c H locs cells slots Q (F0 m 131 ls [])) :
    ∀ (fu i : Nat), i ≤ 16 → 16 < i + fu → ∀ (H : Heap) (locs : List Loc) (ls : Array Slot), va_P E.1 classes [(r, .inr (3, [.int thr, .int rdr, .int mdr, .int msr, .ref bK, .ref bB, .ref bP, .ref bS, .ref bU, .ref bW, .ref bH, .ref bT, .ref bV, .ref bC, .ref bL, .int lcr, .ref bZ, .int wrr])), (bT, .inl (E.2.1, 16, .inl (cpM gV gT i))), (bV, .inl (E.2.1, 16, .inl gV))] H → va_D A [(r, .inr (3, [.int thr, .int rdr, .int mdr, .int msr, .ref bK, .ref bB, .ref bP, .ref bS, .ref bU, .ref bW, .ref bH, .ref bT, .ref bV, .ref bC, .ref bL, .int lcr, .ref bZ, .int wrr])), (bT, .inl (E.2.1, 16, .inl (cpM gV gT i))), (bV, .inl (E.2.1, 16, .inl gV))] → va_S A s.heap H locs → lv_has ls 7 [(5, .int (nI i)), (0, .ref r)] → W p l e R s m args below meth c H locs cells slots Q (F0 m 104 ls []) := by
  have hx := B.1
  have hb := B.2.1
  intro fu
  induction fu with
  | zero =>
    intro i h1 h2
    exact absurd h2 (by omega)
  | succ fu ih =>
    intro i hi hin H locs ls hP hD hS hl
    refine lv_iload hx hb dX3_columns_104 (lv_at hl 0 rfl) ?_
    refine lv_bipush (v := 16) hx hb dX3_columns_106 (by decide) ?_
    refine lv_icmp_ge (tgt := 131) hx hb dX3_columns_108 (by decide) (fun c_108 => ?_) (fun c_108 => ?_)
    · have hj : i = 16 := by have := ge_t (b := 16) c_108 (by omega) (by omega); omega
      subst hj
      exact kk _ _ _ hP hD hS hl
    · have hj : i < 16 := by have := ge_f (b := 16) c_108 (by omega) (by omega); omega
      refine lv_aload_n hx hb dX3_columns_111 rfl (lv_at hl 1 rfl) ?_
      refine x_get B hP 0 rfl rfl i_X3 11 (by decide) g_300 rfl dX3_columns_112 ?_
      refine lv_iload hx hb dX3_columns_115 (lv_at hl 0 rfl) ?_
      refine lv_aload_n hx hb dX3_columns_117 rfl (lv_at hl 1 rfl) ?_
      refine x_get B hP 0 rfl rfl i_X3 12 (by decide) g_301 rfl dX3_columns_118 ?_
      refine lv_iload hx hb dX3_columns_121 (lv_at hl 0 rfl) ?_
      refine x_ald B hP 2 rfl i rfl (by omega) (by decide) dX3_columns_123 ?_
      refine x_ast B hP hD hS 1 rfl i rfl (by omega) (by decide) dX3_columns_124 (fun H locs hP hD hS => ?_)
      have hP : va_P E.1 classes [(r, .inr (3, [.int thr, .int rdr, .int mdr, .int msr, .ref bK, .ref bB, .ref bP, .ref bS, .ref bU, .ref bW, .ref bH, .ref bT, .ref bV, .ref bC, .ref bL, .int lcr, .ref bZ, .int wrr])), (bT, .inl (E.2.1, 16, .inl (upd (cpM gV gT i) i (gV i)))), (bV, .inl (E.2.1, 16, .inl gV))] _ := hP
      have hD : va_D A [(r, .inr (3, [.int thr, .int rdr, .int mdr, .int msr, .ref bK, .ref bB, .ref bP, .ref bS, .ref bU, .ref bW, .ref bH, .ref bT, .ref bV, .ref bC, .ref bL, .int lcr, .ref bZ, .int wrr])), (bT, .inl (E.2.1, 16, .inl (upd (cpM gV gT i) i (gV i)))), (bV, .inl (E.2.1, 16, .inl gV))] := hD
      refine lv_iinc (v := (nI (i + 1))) (lv' := [(5, .int (nI (i + 1))), (0, .ref r)]) hx hb dX3_columns_125 hl (k := 0) rfl (ii_1 i) (by decide) rfl (fun ls hl => ?_)
      refine lv_goto (tgt := 104) hx hb dX3_columns_128 (by decide) ?_
      have hP : va_P E.1 classes [(r, .inr (3, [.int thr, .int rdr, .int mdr, .int msr, .ref bK, .ref bB, .ref bP, .ref bS, .ref bU, .ref bW, .ref bH, .ref bT, .ref bV, .ref bC, .ref bL, .int lcr, .ref bZ, .int wrr])), (bT, .inl (E.2.1, 16, .inl (cpM gV gT (i + 1)))), (bV, .inl (E.2.1, 16, .inl gV))] _ := hP
      have hD : va_D A [(r, .inr (3, [.int thr, .int rdr, .int mdr, .int msr, .ref bK, .ref bB, .ref bP, .ref bS, .ref bU, .ref bW, .ref bH, .ref bT, .ref bV, .ref bC, .ref bL, .int lcr, .ref bZ, .int wrr])), (bT, .inl (E.2.1, 16, .inl (cpM gV gT (i + 1)))), (bV, .inl (E.2.1, 16, .inl gV))] := hD
      exact ih (i + 1) (by omega) (by omega) _ _ _ hP hD hS (lv_sub hl [0, 1] rfl)
set_option maxHeartbeats 4000000 in
set_option maxRecDepth 100000 in
/-- the reference: columns -/
theorem c_X3_columns (l : Launch) (E : EE) (r bK bB bP bS bU bW bH bT bV bC bL bZ : Nat) (thr rdr mdr msr lcr wrr : Int32) (gT gV : Nat → Int32) (x1 x2 x3 x4 : Int32) : Cv l yX3_columns (.code yX3_columns cX3_columns 7 none) ({ frames := 1, cells := 0, slots := 0, locals := 24 }) E [.ref r, .int x1, .int x2, .int x3, .int x4] [(r, .inr (3, [.int thr, .int rdr, .int mdr, .int msr, .ref bK, .ref bB, .ref bP, .ref bS, .ref bU, .ref bW, .ref bH, .ref bT, .ref bV, .ref bC, .ref bL, .int lcr, .ref bZ, .int wrr])), (bT, .inl (E.2.1, 16, .inl gT)), (bV, .inl (E.2.1, 16, .inl gV))] [(r, .inr (3, [.int thr, .int rdr, .int mdr, .int msr, .ref bK, .ref bB, .ref bP, .ref bS, .ref bU, .ref bW, .ref bH, .ref bT, .ref bV, .ref bC, .ref bL, .int lcr, .ref bZ, .int wrr])), (bT, .inl (E.2.1, 16, .inl ((colW x1 x2 x3 x4 gT gV).1))), (bV, .inl (E.2.1, 16, .inl ((colW x1 x2 x3 x4 gT gV).2)))] := by
  refine Cv.of (by decide) (Nat.le_of_ble_eq_true rfl) ?_
  intro p e s m below meth c A ls B hP hD hS hl
  have hl : lv_has ls 7 [(0, .ref r), (1, .int x1), (2, .int x2), (3, .int x3), (4, .int x4)] := hl
  have B : Bd p s m _ meth c cX3_columns 7 none RX3 E A := B
  have hx := B.1
  have hb := B.2.1
  have hP : va_P E.1 classes [(r, .inr (3, [.int thr, .int rdr, .int mdr, .int msr, .ref bK, .ref bB, .ref bP, .ref bS, .ref bU, .ref bW, .ref bH, .ref bT, .ref bV, .ref bC, .ref bL, .int lcr, .ref bZ, .int wrr])), (bT, .inl (E.2.1, 16, .inl gT)), (bV, .inl (E.2.1, 16, .inl gV))] _ := hP
  have hD : va_D A [(r, .inr (3, [.int thr, .int rdr, .int mdr, .int msr, .ref bK, .ref bB, .ref bP, .ref bS, .ref bU, .ref bW, .ref bH, .ref bT, .ref bV, .ref bC, .ref bL, .int lcr, .ref bZ, .int wrr])), (bT, .inl (E.2.1, 16, .inl gT)), (bV, .inl (E.2.1, 16, .inl gV))] := hD
  refine lv_iconst (v := 0) hx hb dX3_columns_0 (by decide) ?_
  refine lv_istore (lv' := [(5, .int 0), (0, .ref r), (1, .int x1), (2, .int x2), (3, .int x3), (4, .int x4)]) hx hb dX3_columns_1 hl (by decide) rfl (fun ls hl => ?_)
  have hP : va_P E.1 classes [(r, .inr (3, [.int thr, .int rdr, .int mdr, .int msr, .ref bK, .ref bB, .ref bP, .ref bS, .ref bU, .ref bW, .ref bH, .ref bT, .ref bV, .ref bC, .ref bL, .int lcr, .ref bZ, .int wrr])), (bT, .inl (E.2.1, 16, .inl gT)), (bV, .inl (E.2.1, 16, .inl (colM x1 x2 x3 x4 gT gV 0)))] _ := hP
  have hD : va_D A [(r, .inr (3, [.int thr, .int rdr, .int mdr, .int msr, .ref bK, .ref bB, .ref bP, .ref bS, .ref bU, .ref bW, .ref bH, .ref bT, .ref bV, .ref bC, .ref bL, .int lcr, .ref bZ, .int wrr])), (bT, .inl (E.2.1, 16, .inl gT)), (bV, .inl (E.2.1, 16, .inl (colM x1 x2 x3 x4 gT gV 0)))] := hD
  refine lp_col1 B ⟨by decide, by decide⟩ ⟨by decide, by decide⟩  (fun H locs ls hP hD hS hl => ?_) 17 0 (by omega) (by omega) _ _ _ hP hD hS (lv_sub hl [0, 1, 2, 3, 4, 5] rfl)
  refine lv_iconst (v := 0) hx hb dX3_columns_101 (by decide) ?_
  refine lv_istore (lv' := [(5, .int 0), (0, .ref r), (1, .int x1), (2, .int x2), (3, .int x3), (4, .int x4)]) hx hb dX3_columns_102 hl (by decide) rfl (fun ls hl => ?_)
  have hP : va_P E.1 classes [(r, .inr (3, [.int thr, .int rdr, .int mdr, .int msr, .ref bK, .ref bB, .ref bP, .ref bS, .ref bU, .ref bW, .ref bH, .ref bT, .ref bV, .ref bC, .ref bL, .int lcr, .ref bZ, .int wrr])), (bT, .inl (E.2.1, 16, .inl (cpM (colM x1 x2 x3 x4 gT gV 16) gT 0))), (bV, .inl (E.2.1, 16, .inl (colM x1 x2 x3 x4 gT gV 16)))] _ := hP
  have hD : va_D A [(r, .inr (3, [.int thr, .int rdr, .int mdr, .int msr, .ref bK, .ref bB, .ref bP, .ref bS, .ref bU, .ref bW, .ref bH, .ref bT, .ref bV, .ref bC, .ref bL, .int lcr, .ref bZ, .int wrr])), (bT, .inl (E.2.1, 16, .inl (cpM (colM x1 x2 x3 x4 gT gV 16) gT 0))), (bV, .inl (E.2.1, 16, .inl (colM x1 x2 x3 x4 gT gV 16)))] := hD
  refine lp_col2 B ⟨by decide, by decide⟩  (fun H locs ls hP hD hS hl => ?_) 17 0 (by omega) (by omega) _ _ _ hP hD hS (lv_sub hl [0, 1] rfl)
  have hP : va_P E.1 classes [(r, .inr (3, [.int thr, .int rdr, .int mdr, .int msr, .ref bK, .ref bB, .ref bP, .ref bS, .ref bU, .ref bW, .ref bH, .ref bT, .ref bV, .ref bC, .ref bL, .int lcr, .ref bZ, .int wrr])), (bT, .inl (E.2.1, 16, .inl ((colW x1 x2 x3 x4 gT gV).1))), (bV, .inl (E.2.1, 16, .inl ((colW x1 x2 x3 x4 gT gV).2)))] _ := hP
  have hD : va_D A [(r, .inr (3, [.int thr, .int rdr, .int mdr, .int msr, .ref bK, .ref bB, .ref bP, .ref bS, .ref bU, .ref bW, .ref bH, .ref bT, .ref bV, .ref bC, .ref bL, .int lcr, .ref bZ, .int wrr])), (bT, .inl (E.2.1, 16, .inl ((colW x1 x2 x3 x4 gT gV).1))), (bV, .inl (E.2.1, 16, .inl ((colW x1 x2 x3 x4 gT gV).2)))] := hD
  exact x_vret B hP hD hS dX3_columns_131
set_option maxHeartbeats 4000000 in
set_option maxRecDepth 100000 in
theorem lp_fsub {p : Program} {l : Launch} {e : Env} {R : Room} {s : State} {m : MethodId} {args : Array Value} {below : List Frame} {meth : Method} {c : Code} {cells slots : Nat} {Q : State → Prop} {E : EE} {A : Nat → Prop} {r bK bB bP bS bU bW bH bT bV bC bL bZ : Nat} {thr rdr mdr msr lcr wrr : Int32} {gS gW gT gV : Nat → Int32} {rd : Int32} (B : Bd p s m args meth c cX3_forth 3 none RX3 E A) (hf : cells ≤ R.cells ∧ slots ≤ R.slots) (hs : ∀ i, i < 256 → By (gS i)) (ht : ∀ i, i < 16 → By (gT i))
    (kk : ∀ (H : Heap) (locs : List Loc) (ls : Array Slot), va_P E.1 classes [(r, .inr (3, [.int thr, .int rdr, .int mdr, .int msr, .ref bK, .ref bB, .ref bP, .ref bS, .ref bU, .ref bW, .ref bH, .ref bT, .ref bV, .ref bC, .ref bL, .int lcr, .ref bZ, .int wrr])), (bS, .inl (E.2.1, 256, .inl gS)), (bW, .inl (E.2.1, 176, .inl gW)), (bT, .inl (E.2.1, 16, .inl gT)), (bV, .inl (E.2.1, 16, .inl (subR gS gT gV 16)))] H → va_D A [(r, .inr (3, [.int thr, .int rdr, .int mdr, .int msr, .ref bK, .ref bB, .ref bP, .ref bS, .ref bU, .ref bW, .ref bH, .ref bT, .ref bV, .ref bC, .ref bL, .int lcr, .ref bZ, .int wrr])), (bS, .inl (E.2.1, 256, .inl gS)), (bW, .inl (E.2.1, 176, .inl gW)), (bT, .inl (E.2.1, 16, .inl gT)), (bV, .inl (E.2.1, 16, .inl (subR gS gT gV 16)))] → va_S A s.heap H locs → lv_has ls 3 [(2, .int (nI 16)), (0, .ref r), (1, .int rd)] → W p l e R s m args below meth c H locs cells slots Q (F0 m 58 ls [])) :
    ∀ (fu i : Nat), i ≤ 16 → 16 < i + fu → ∀ (H : Heap) (locs : List Loc) (ls : Array Slot), va_P E.1 classes [(r, .inr (3, [.int thr, .int rdr, .int mdr, .int msr, .ref bK, .ref bB, .ref bP, .ref bS, .ref bU, .ref bW, .ref bH, .ref bT, .ref bV, .ref bC, .ref bL, .int lcr, .ref bZ, .int wrr])), (bS, .inl (E.2.1, 256, .inl gS)), (bW, .inl (E.2.1, 176, .inl gW)), (bT, .inl (E.2.1, 16, .inl gT)), (bV, .inl (E.2.1, 16, .inl (subR gS gT gV i)))] H → va_D A [(r, .inr (3, [.int thr, .int rdr, .int mdr, .int msr, .ref bK, .ref bB, .ref bP, .ref bS, .ref bU, .ref bW, .ref bH, .ref bT, .ref bV, .ref bC, .ref bL, .int lcr, .ref bZ, .int wrr])), (bS, .inl (E.2.1, 256, .inl gS)), (bW, .inl (E.2.1, 176, .inl gW)), (bT, .inl (E.2.1, 16, .inl gT)), (bV, .inl (E.2.1, 16, .inl (subR gS gT gV i)))] → va_S A s.heap H locs → lv_has ls 3 [(2, .int (nI i)), (0, .ref r), (1, .int rd)] → W p l e R s m args below meth c H locs cells slots Q (F0 m 15 ls []) := by
  have hx := B.1
  have hb := B.2.1
  intro fu
  induction fu with
  | zero =>
    intro i h1 h2
    exact absurd h2 (by omega)
  | succ fu ih =>
    intro i hi hin H locs ls hP hD hS hl
    refine lv_iload_n hx hb dX3_forth_15 rfl (lv_at hl 0 rfl) ?_
    refine lv_bipush (v := 16) hx hb dX3_forth_16 (by decide) ?_
    refine lv_icmp_ge (tgt := 58) hx hb dX3_forth_18 (by decide) (fun c_18 => ?_) (fun c_18 => ?_)
    · have hj : i = 16 := by have := ge_t (b := 16) c_18 (by omega) (by omega); omega
      subst hj
      exact kk _ _ _ hP hD hS hl
    · have hj : i < 16 := by have := ge_f (b := 16) c_18 (by omega) (by omega); omega
      refine lv_aload_n hx hb dX3_forth_21 rfl (lv_at hl 1 rfl) ?_
      refine x_get B hP 0 rfl rfl i_X3 12 (by decide) g_301 rfl dX3_forth_22 ?_
      refine lv_iload_n hx hb dX3_forth_25 rfl (lv_at hl 0 rfl) ?_
      refine lv_aload_n hx hb dX3_forth_26 rfl (lv_at hl 1 rfl) ?_
      refine x_get B hP 0 rfl rfl i_X3 7 (by decide) g_296 rfl dX3_forth_27 ?_
      refine lv_aload_n hx hb dX3_forth_30 rfl (lv_at hl 1 rfl) ?_
      refine x_get B hP 0 rfl rfl i_X3 11 (by decide) g_300 rfl dX3_forth_31 ?_
      refine lv_iload_n hx hb dX3_forth_34 rfl (lv_at hl 0 rfl) ?_
      refine lv_iconst (v := 4) hx hb dX3_forth_35 (by decide) ?_
      refine lv_idiv hx hb dX3_forth_36 (by decide) ?_
      refine lv_iload_n hx hb dX3_forth_37 rfl (lv_at hl 0 rfl) ?_
      refine lv_iconst (v := 4) hx hb dX3_forth_38 (by decide) ?_
      refine lv_irem hx hb dX3_forth_39 (by decide) ?_
      refine lv_iadd hx hb dX3_forth_40 ?_
      refine lv_iconst (v := 4) hx hb dX3_forth_41 (by decide) ?_
      refine lv_irem hx hb dX3_forth_42 (by decide) ?_
      refine lv_iconst (v := 4) hx hb dX3_forth_43 (by decide) ?_
      refine lv_imul hx hb dX3_forth_44 ?_
      refine lv_iload_n hx hb dX3_forth_45 rfl (lv_at hl 0 rfl) ?_
      refine lv_iconst (v := 4) hx hb dX3_forth_46 (by decide) ?_
      refine lv_irem hx hb dX3_forth_47 (by decide) ?_
      refine lv_iadd hx hb dX3_forth_48 ?_
      refine x_ald B hP 3 rfl (((((i / 4) + (i % 4)) % 4) * 4) + (i % 4)) (na_add (na_mul (na_rem (na_add (na_div rfl rfl (by omega) (by decide) (by decide)) (na_rem rfl rfl (by omega) (by decide) (by decide))) rfl (by omega) (by decide) (by decide)) rfl) (na_rem rfl rfl (by omega) (by decide) (by decide))) (by omega) (by decide) dX3_forth_49 ?_
      refine x_ald B hP 1 rfl ((gT (((((i / 4) + (i % 4)) % 4) * 4) + (i % 4))).toNatClampNeg) (((ht (((((i / 4) + (i % 4)) % 4) * 4) + (i % 4)) (by omega))).1) (((ht (((((i / 4) + (i % 4)) % 4) * 4) + (i % 4)) (by omega))).2) (by decide) dX3_forth_50 ?_
      refine x_ast B hP hD hS 4 rfl i rfl (by omega) (by decide) dX3_forth_51 (fun H locs hP hD hS => ?_)
      have hP : va_P E.1 classes [(r, .inr (3, [.int thr, .int rdr, .int mdr, .int msr, .ref bK, .ref bB, .ref bP, .ref bS, .ref bU, .ref bW, .ref bH, .ref bT, .ref bV, .ref bC, .ref bL, .int lcr, .ref bZ, .int wrr])), (bS, .inl (E.2.1, 256, .inl gS)), (bW, .inl (E.2.1, 176, .inl gW)), (bT, .inl (E.2.1, 16, .inl gT)), (bV, .inl (E.2.1, 16, .inl (upd (subR gS gT gV i) i (gS ((gT (((((i / 4) + (i % 4)) % 4) * 4) + (i % 4))).toNatClampNeg)))))] _ := hP
      have hD : va_D A [(r, .inr (3, [.int thr, .int rdr, .int mdr, .int msr, .ref bK, .ref bB, .ref bP, .ref bS, .ref bU, .ref bW, .ref bH, .ref bT, .ref bV, .ref bC, .ref bL, .int lcr, .ref bZ, .int wrr])), (bS, .inl (E.2.1, 256, .inl gS)), (bW, .inl (E.2.1, 176, .inl gW)), (bT, .inl (E.2.1, 16, .inl gT)), (bV, .inl (E.2.1, 16, .inl (upd (subR gS gT gV i) i (gS ((gT (((((i / 4) + (i % 4)) % 4) * 4) + (i % 4))).toNatClampNeg)))))] := hD
      refine lv_iinc (v := (nI (i + 1))) (lv' := [(2, .int (nI (i + 1))), (0, .ref r), (1, .int rd)]) hx hb dX3_forth_52 hl (k := 0) rfl (ii_1 i) (by decide) rfl (fun ls hl => ?_)
      refine lv_goto (tgt := 15) hx hb dX3_forth_55 (by decide) ?_
      have hP : va_P E.1 classes [(r, .inr (3, [.int thr, .int rdr, .int mdr, .int msr, .ref bK, .ref bB, .ref bP, .ref bS, .ref bU, .ref bW, .ref bH, .ref bT, .ref bV, .ref bC, .ref bL, .int lcr, .ref bZ, .int wrr])), (bS, .inl (E.2.1, 256, .inl gS)), (bW, .inl (E.2.1, 176, .inl gW)), (bT, .inl (E.2.1, 16, .inl gT)), (bV, .inl (E.2.1, 16, .inl (subR gS gT gV (i + 1))))] _ := hP
      have hD : va_D A [(r, .inr (3, [.int thr, .int rdr, .int mdr, .int msr, .ref bK, .ref bB, .ref bP, .ref bS, .ref bU, .ref bW, .ref bH, .ref bT, .ref bV, .ref bC, .ref bL, .int lcr, .ref bZ, .int wrr])), (bS, .inl (E.2.1, 256, .inl gS)), (bW, .inl (E.2.1, 176, .inl gW)), (bT, .inl (E.2.1, 16, .inl gT)), (bV, .inl (E.2.1, 16, .inl (subR gS gT gV (i + 1))))] := hD
      exact ih (i + 1) (by omega) (by omega) _ _ _ hP hD hS (lv_sub hl [0, 1, 2] rfl)
set_option maxHeartbeats 4000000 in
set_option maxRecDepth 100000 in
theorem lp_fcp {p : Program} {l : Launch} {e : Env} {R : Room} {s : State} {m : MethodId} {args : Array Value} {below : List Frame} {meth : Method} {c : Code} {cells slots : Nat} {Q : State → Prop} {E : EE} {A : Nat → Prop} {r bK bB bP bS bU bW bH bT bV bC bL bZ : Nat} {thr rdr mdr msr lcr wrr : Int32} {gS gW gT gV : Nat → Int32} {rd : Int32} (B : Bd p s m args meth c cX3_forth 3 none RX3 E A) (hf : cells ≤ R.cells ∧ slots ≤ R.slots) 
    (kk : ∀ (H : Heap) (locs : List Loc) (ls : Array Slot), va_P E.1 classes [(r, .inr (3, [.int thr, .int rdr, .int mdr, .int msr, .ref bK, .ref bB, .ref bP, .ref bS, .ref bU, .ref bW, .ref bH, .ref bT, .ref bV, .ref bC, .ref bL, .int lcr, .ref bZ, .int wrr])), (bS, .inl (E.2.1, 256, .inl gS)), (bW, .inl (E.2.1, 176, .inl gW)), (bT, .inl (E.2.1, 16, .inl (cpM gV gT 16))), (bV, .inl (E.2.1, 16, .inl gV))] H → va_D A [(r, .inr (3, [.int thr, .int rdr, .int mdr, .int msr, .ref bK, .ref bB, .ref bP, .ref bS, .ref bU, .ref bW, .ref bH, .ref bT, .ref bV, .ref bC, .ref bL, .int lcr, .ref bZ, .int wrr])), (bS, .inl (E.2.1, 256, .inl gS)), (bW, .inl (E.2.1, 176, .inl gW)), (bT, .inl (E.2.1, 16, .inl (cpM gV gT 16))), (bV, .inl (E.2.1, 16, .inl gV))] → va_S A s.heap H locs → lv_has ls 3 [(2, .int (nI 16)), (0, .ref r), (1, .int rd)] → W p l e R s m args below meth c H locs cells slots Q (F0 m 84 ls [])) :
    ∀ (fu i : Nat), i ≤ 16 → 16 < i + fu → ∀ (H : Heap) (locs : List Loc) (ls : Array Slot), va_P E.1 classes [(r, .inr (3, [.int thr, .int rdr, .int mdr, .int msr, .ref bK, .ref bB, .ref bP, .ref bS, .ref bU, .ref bW, .ref bH, .ref bT, .ref bV, .ref bC, .ref bL, .int lcr, .ref bZ, .int wrr])), (bS, .inl (E.2.1, 256, .inl gS)), (bW, .inl (E.2.1, 176, .inl gW)), (bT, .inl (E.2.1, 16, .inl (cpM gV gT i))), (bV, .inl (E.2.1, 16, .inl gV))] H → va_D A [(r, .inr (3, [.int thr, .int rdr, .int mdr, .int msr, .ref bK, .ref bB, .ref bP, .ref bS, .ref bU, .ref bW, .ref bH, .ref bT, .ref bV, .ref bC, .ref bL, .int lcr, .ref bZ, .int wrr])), (bS, .inl (E.2.1, 256, .inl gS)), (bW, .inl (E.2.1, 176, .inl gW)), (bT, .inl (E.2.1, 16, .inl (cpM gV gT i))), (bV, .inl (E.2.1, 16, .inl gV))] → va_S A s.heap H locs → lv_has ls 3 [(2, .int (nI i)), (0, .ref r), (1, .int rd)] → W p l e R s m args below meth c H locs cells slots Q (F0 m 60 ls []) := by
  have hx := B.1
  have hb := B.2.1
  intro fu
  induction fu with
  | zero =>
    intro i h1 h2
    exact absurd h2 (by omega)
  | succ fu ih =>
    intro i hi hin H locs ls hP hD hS hl
    refine lv_iload_n hx hb dX3_forth_60 rfl (lv_at hl 0 rfl) ?_
    refine lv_bipush (v := 16) hx hb dX3_forth_61 (by decide) ?_
    refine lv_icmp_ge (tgt := 84) hx hb dX3_forth_63 (by decide) (fun c_63 => ?_) (fun c_63 => ?_)
    · have hj : i = 16 := by have := ge_t (b := 16) c_63 (by omega) (by omega); omega
      subst hj
      exact kk _ _ _ hP hD hS hl
    · have hj : i < 16 := by have := ge_f (b := 16) c_63 (by omega) (by omega); omega
      refine lv_aload_n hx hb dX3_forth_66 rfl (lv_at hl 1 rfl) ?_
      refine x_get B hP 0 rfl rfl i_X3 11 (by decide) g_300 rfl dX3_forth_67 ?_
      refine lv_iload_n hx hb dX3_forth_70 rfl (lv_at hl 0 rfl) ?_
      refine lv_aload_n hx hb dX3_forth_71 rfl (lv_at hl 1 rfl) ?_
      refine x_get B hP 0 rfl rfl i_X3 12 (by decide) g_301 rfl dX3_forth_72 ?_
      refine lv_iload_n hx hb dX3_forth_75 rfl (lv_at hl 0 rfl) ?_
      refine x_ald B hP 4 rfl i rfl (by omega) (by decide) dX3_forth_76 ?_
      refine x_ast B hP hD hS 3 rfl i rfl (by omega) (by decide) dX3_forth_77 (fun H locs hP hD hS => ?_)
      have hP : va_P E.1 classes [(r, .inr (3, [.int thr, .int rdr, .int mdr, .int msr, .ref bK, .ref bB, .ref bP, .ref bS, .ref bU, .ref bW, .ref bH, .ref bT, .ref bV, .ref bC, .ref bL, .int lcr, .ref bZ, .int wrr])), (bS, .inl (E.2.1, 256, .inl gS)), (bW, .inl (E.2.1, 176, .inl gW)), (bT, .inl (E.2.1, 16, .inl (upd (cpM gV gT i) i (gV i)))), (bV, .inl (E.2.1, 16, .inl gV))] _ := hP
      have hD : va_D A [(r, .inr (3, [.int thr, .int rdr, .int mdr, .int msr, .ref bK, .ref bB, .ref bP, .ref bS, .ref bU, .ref bW, .ref bH, .ref bT, .ref bV, .ref bC, .ref bL, .int lcr, .ref bZ, .int wrr])), (bS, .inl (E.2.1, 256, .inl gS)), (bW, .inl (E.2.1, 176, .inl gW)), (bT, .inl (E.2.1, 16, .inl (upd (cpM gV gT i) i (gV i)))), (bV, .inl (E.2.1, 16, .inl gV))] := hD
      refine lv_iinc (v := (nI (i + 1))) (lv' := [(2, .int (nI (i + 1))), (0, .ref r), (1, .int rd)]) hx hb dX3_forth_78 hl (k := 0) rfl (ii_1 i) (by decide) rfl (fun ls hl => ?_)
      refine lv_goto (tgt := 60) hx hb dX3_forth_81 (by decide) ?_
      have hP : va_P E.1 classes [(r, .inr (3, [.int thr, .int rdr, .int mdr, .int msr, .ref bK, .ref bB, .ref bP, .ref bS, .ref bU, .ref bW, .ref bH, .ref bT, .ref bV, .ref bC, .ref bL, .int lcr, .ref bZ, .int wrr])), (bS, .inl (E.2.1, 256, .inl gS)), (bW, .inl (E.2.1, 176, .inl gW)), (bT, .inl (E.2.1, 16, .inl (cpM gV gT (i + 1)))), (bV, .inl (E.2.1, 16, .inl gV))] _ := hP
      have hD : va_D A [(r, .inr (3, [.int thr, .int rdr, .int mdr, .int msr, .ref bK, .ref bB, .ref bP, .ref bS, .ref bU, .ref bW, .ref bH, .ref bT, .ref bV, .ref bC, .ref bL, .int lcr, .ref bZ, .int wrr])), (bS, .inl (E.2.1, 256, .inl gS)), (bW, .inl (E.2.1, 176, .inl gW)), (bT, .inl (E.2.1, 16, .inl (cpM gV gT (i + 1)))), (bV, .inl (E.2.1, 16, .inl gV))] := hD
      exact ih (i + 1) (by omega) (by omega) _ _ _ hP hD hS (lv_sub hl [0, 1, 2] rfl)
set_option maxHeartbeats 4000000 in
set_option maxRecDepth 100000 in
theorem lp_rforth {p : Program} {l : Launch} {e : Env} {R : Room} {s : State} {m : MethodId} {args : Array Value} {below : List Frame} {meth : Method} {c : Code} {cells slots : Nat} {Q : State → Prop} {E : EE} {A : Nat → Prop} {r bK bB bP bS bU bW bH bT bV bC bL bZ : Nat} {thr rdr mdr msr lcr wrr : Int32} {gS gW gT gV : Nat → Int32} (B : Bd p s m args meth c cX3_forth 3 none RX3 E A) (hf : cells ≤ R.cells ∧ slots ≤ R.slots) (hR : 2 ≤ R.frames ∧ 50 ≤ R.locals) (hs : ∀ i, i < 256 → By (gS i)) (hw : ∀ i, i < 176 → By (gW i)) (ht : ∀ i, i < 16 → By (gT i)) (hv : ∀ i, i < 16 → By (gV i))
    (kk : ∀ (H : Heap) (locs : List Loc) (ls : Array Slot), va_P E.1 classes [(r, .inr (3, [.int thr, .int rdr, .int mdr, .int msr, .ref bK, .ref bB, .ref bP, .ref bS, .ref bU, .ref bW, .ref bH, .ref bT, .ref bV, .ref bC, .ref bL, .int lcr, .ref bZ, .int wrr])), (bS, .inl (E.2.1, 256, .inl gS)), (bW, .inl (E.2.1, 176, .inl gW)), (bT, .inl (E.2.1, 16, .inl ((forR gS gW gT gV 10).1))), (bV, .inl (E.2.1, 16, .inl ((forR gS gW gT gV 10).2)))] H → va_D A [(r, .inr (3, [.int thr, .int rdr, .int mdr, .int msr, .ref bK, .ref bB, .ref bP, .ref bS, .ref bU, .ref bW, .ref bH, .ref bT, .ref bV, .ref bC, .ref bL, .int lcr, .ref bZ, .int wrr])), (bS, .inl (E.2.1, 256, .inl gS)), (bW, .inl (E.2.1, 176, .inl gW)), (bT, .inl (E.2.1, 16, .inl ((forR gS gW gT gV 10).1))), (bV, .inl (E.2.1, 16, .inl ((forR gS gW gT gV 10).2)))] → va_S A s.heap H locs → lv_has ls 3 [(1, .int (nI (10 + 1))), (0, .ref r)] → W p l e R s m args below meth c H locs cells slots Q (F0 m 109 ls [])) :
    ∀ (fu i : Nat), i ≤ 10 → 10 < i + fu → ∀ (H : Heap) (locs : List Loc) (ls : Array Slot), va_P E.1 classes [(r, .inr (3, [.int thr, .int rdr, .int mdr, .int msr, .ref bK, .ref bB, .ref bP, .ref bS, .ref bU, .ref bW, .ref bH, .ref bT, .ref bV, .ref bC, .ref bL, .int lcr, .ref bZ, .int wrr])), (bS, .inl (E.2.1, 256, .inl gS)), (bW, .inl (E.2.1, 176, .inl gW)), (bT, .inl (E.2.1, 16, .inl ((forR gS gW gT gV i).1))), (bV, .inl (E.2.1, 16, .inl ((forR gS gW gT gV i).2)))] H → va_D A [(r, .inr (3, [.int thr, .int rdr, .int mdr, .int msr, .ref bK, .ref bB, .ref bP, .ref bS, .ref bU, .ref bW, .ref bH, .ref bT, .ref bV, .ref bC, .ref bL, .int lcr, .ref bZ, .int wrr])), (bS, .inl (E.2.1, 256, .inl gS)), (bW, .inl (E.2.1, 176, .inl gW)), (bT, .inl (E.2.1, 16, .inl ((forR gS gW gT gV i).1))), (bV, .inl (E.2.1, 16, .inl ((forR gS gW gT gV i).2)))] → va_S A s.heap H locs → lv_has ls 3 [(1, .int (nI (i + 1))), (0, .ref r)] → W p l e R s m args below meth c H locs cells slots Q (F0 m 7 ls []) := by
  have hx := B.1
  have hb := B.2.1
  intro fu
  induction fu with
  | zero =>
    intro i h1 h2
    exact absurd h2 (by omega)
  | succ fu ih =>
    intro i hi hin H locs ls hP hD hS hl
    refine lv_iload_n hx hb dX3_forth_7 rfl (lv_at hl 0 rfl) ?_
    refine lv_bipush (v := 10) hx hb dX3_forth_8 (by decide) ?_
    refine lv_icmp_gt (tgt := 109) hx hb dX3_forth_10 (by decide) (fun c_10 => ?_) (fun c_10 => ?_)
    · have hj : i = 10 := by have := lt_t (a := 10) c_10 (by omega) (by omega); omega
      subst hj
      exact kk _ _ _ hP hD hS hl
    · have hj : i < 10 := by have := lt_f (a := 10) c_10 (by omega) (by omega); omega
      refine lv_iconst (v := 0) hx hb dX3_forth_13 (by decide) ?_
      refine lv_istore_n (lv' := [(2, .int 0), (1, .int (nI (i + 1))), (0, .ref r)]) hx hb dX3_forth_14 rfl hl (by decide) rfl (fun ls hl => ?_)
      refine lp_fsub B hf hs (forR_by hs hw ht hv i (by omega)).1 (fun H locs ls hP hD hS hl => ?_) 17 0 (by omega) (by omega) _ _ _ hP hD hS (lv_sub hl [0, 2, 1] rfl)
      refine lv_iconst (v := 0) hx hb dX3_forth_58 (by decide) ?_
      refine lv_istore_n (lv' := [(2, .int 0), (0, .ref r), (1, .int (nI (i + 1)))]) hx hb dX3_forth_59 rfl hl (by decide) rfl (fun ls hl => ?_)
      refine lp_fcp B hf (fun H locs ls hP hD hS hl => ?_) 17 0 (by omega) (by omega) _ _ _ hP hD hS (lv_sub hl [0, 1, 2] rfl)
      have hP : va_P E.1 classes [(r, .inr (3, [.int thr, .int rdr, .int mdr, .int msr, .ref bK, .ref bB, .ref bP, .ref bS, .ref bU, .ref bW, .ref bH, .ref bT, .ref bV, .ref bC, .ref bL, .int lcr, .ref bZ, .int wrr])), (bS, .inl (E.2.1, 256, .inl gS)), (bW, .inl (E.2.1, 176, .inl gW)), (bT, .inl (E.2.1, 16, .inl ((subP gS (forR gS gW gT gV i)).1))), (bV, .inl (E.2.1, 16, .inl ((subP gS (forR gS gW gT gV i)).2)))] _ := hP
      have hD : va_D A [(r, .inr (3, [.int thr, .int rdr, .int mdr, .int msr, .ref bK, .ref bB, .ref bP, .ref bS, .ref bU, .ref bW, .ref bH, .ref bT, .ref bV, .ref bC, .ref bL, .int lcr, .ref bZ, .int wrr])), (bS, .inl (E.2.1, 256, .inl gS)), (bW, .inl (E.2.1, 176, .inl gW)), (bT, .inl (E.2.1, 16, .inl ((subP gS (forR gS gW gT gV i)).1))), (bV, .inl (E.2.1, 16, .inl ((subP gS (forR gS gW gT gV i)).2)))] := hD
      refine lv_iload_n hx hb dX3_forth_84 rfl (lv_at hl 2 rfl) ?_
      refine lv_bipush (v := 10) hx hb dX3_forth_85 (by decide) ?_
      refine lv_icmp_ge (tgt := 98) hx hb dX3_forth_87 (by decide) (fun c_87 => ?_) (fun c_87 => ?_)
      · refine lv_aload_n hx hb dX3_forth_98 rfl (lv_at hl 1 rfl) ?_
        refine lv_iload_n hx hb dX3_forth_99 rfl (lv_at hl 2 rfl) ?_
        refine x_Vv (wr := [(bS, .inl (E.2.1, 256, .inl gS)), (bV, .inl (E.2.1, 16, .inl ((subP gS (forR gS gW gT gV i)).2)))]) (isC := [0, 2, 3]) (isR := [1, 4]) (As := [.int (nI (i + 1))]) B (c_X3_add l E r bK bB bP bS bU bW bH bT bV bC bL bZ thr rdr mdr msr lcr wrr gW ((subP gS (forR gS gW gT gV i)).1) (i + 1) (nI (i + 1)) rfl (by omega)) k_X3_add g_368 s_X3_add ⟨Nat.le_trans (by decide) hR.1, Nat.le_trans (by decide) hR.2, rfl, rfl⟩ rfl 0 rfl hP hD hS ⟨rfl, rfl, rfl, rfl, by decide⟩ rfl hl.1 rfl (Nat.le_of_ble_eq_true rfl) dX3_forth_100 hf (fun H locs hP hD hS => ?_)
        have hP : va_P E.1 classes [(bS, .inl (E.2.1, 256, .inl gS)), (bV, .inl (E.2.1, 16, .inl ((subP gS (forR gS gW gT gV i)).2))), (r, .inr (3, [.int thr, .int rdr, .int mdr, .int msr, .ref bK, .ref bB, .ref bP, .ref bS, .ref bU, .ref bW, .ref bH, .ref bT, .ref bV, .ref bC, .ref bL, .int lcr, .ref bZ, .int wrr])), (bW, .inl (E.2.1, 176, .inl gW)), (bT, .inl (E.2.1, 16, .inl (xorM gW (16 * (i + 1)) ((subP gS (forR gS gW gT gV i)).1) 16)))] _ := hP
        have hD : va_D A [(bS, .inl (E.2.1, 256, .inl gS)), (bV, .inl (E.2.1, 16, .inl ((subP gS (forR gS gW gT gV i)).2))), (r, .inr (3, [.int thr, .int rdr, .int mdr, .int msr, .ref bK, .ref bB, .ref bP, .ref bS, .ref bU, .ref bW, .ref bH, .ref bT, .ref bV, .ref bC, .ref bL, .int lcr, .ref bZ, .int wrr])), (bW, .inl (E.2.1, 176, .inl gW)), (bT, .inl (E.2.1, 16, .inl (xorM gW (16 * (i + 1)) ((subP gS (forR gS gW gT gV i)).1) 16)))] := hD
        refine lv_iinc (v := (nI ((i + 1) + 1))) (lv' := [(1, .int (nI ((i + 1) + 1))), (2, .int (nI 16)), (0, .ref r)]) hx hb dX3_forth_103 hl (k := 2) rfl (ii_1 (i + 1)) (by decide) rfl (fun ls hl => ?_)
        refine lv_goto (tgt := 7) hx hb dX3_forth_106 (by decide) ?_
        have hk : ¬ i + 1 < 10 := by have := ge_t (b := 10) c_87 (by omega) (by omega); omega
        have eF : forR gS gW gT gV (i + 1) = (xorM gW (16 * (i + 1)) (subP gS (forR gS gW gT gV i)).1 16, (subP gS (forR gS gW gT gV i)).2) := by
          show (xorM gW (16 * (i + 1)) (mxP (i + 1 < 10) 2 3 1 1 (subP gS (forR gS gW gT gV i))).1 16, (mxP (i + 1 < 10) 2 3 1 1 (subP gS (forR gS gW gT gV i))).2) = _
          unfold mxP
          rw [if_neg hk]
        have hP := hP.sub (ws' := [(r, .inr (3, [.int thr, .int rdr, .int mdr, .int msr, .ref bK, .ref bB, .ref bP, .ref bS, .ref bU, .ref bW, .ref bH, .ref bT, .ref bV, .ref bC, .ref bL, .int lcr, .ref bZ, .int wrr])), (bS, .inl (E.2.1, 256, .inl gS)), (bW, .inl (E.2.1, 176, .inl gW)), (bT, .inl (E.2.1, 16, .inl (xorM gW (16 * (i + 1)) ((subP gS (forR gS gW gT gV i)).1) 16))), (bV, .inl (E.2.1, 16, .inl ((subP gS (forR gS gW gT gV i)).2)))]) [2, 0, 3, 4, 1] rfl
        have hD := hD.sub (ws' := [(r, .inr (3, [.int thr, .int rdr, .int mdr, .int msr, .ref bK, .ref bB, .ref bP, .ref bS, .ref bU, .ref bW, .ref bH, .ref bT, .ref bV, .ref bC, .ref bL, .int lcr, .ref bZ, .int wrr])), (bS, .inl (E.2.1, 256, .inl gS)), (bW, .inl (E.2.1, 176, .inl gW)), (bT, .inl (E.2.1, 16, .inl (xorM gW (16 * (i + 1)) ((subP gS (forR gS gW gT gV i)).1) 16))), (bV, .inl (E.2.1, 16, .inl ((subP gS (forR gS gW gT gV i)).2)))]) [2, 0, 3, 4, 1] (by decide) rfl
        have hP : va_P E.1 classes [(r, .inr (3, [.int thr, .int rdr, .int mdr, .int msr, .ref bK, .ref bB, .ref bP, .ref bS, .ref bU, .ref bW, .ref bH, .ref bT, .ref bV, .ref bC, .ref bL, .int lcr, .ref bZ, .int wrr])), (bS, .inl (E.2.1, 256, .inl gS)), (bW, .inl (E.2.1, 176, .inl gW)), (bT, .inl (E.2.1, 16, .inl ((forR gS gW gT gV (i + 1)).1))), (bV, .inl (E.2.1, 16, .inl ((forR gS gW gT gV (i + 1)).2)))] _ := (by rw [eF]; exact hP)
        have hD : va_D A [(r, .inr (3, [.int thr, .int rdr, .int mdr, .int msr, .ref bK, .ref bB, .ref bP, .ref bS, .ref bU, .ref bW, .ref bH, .ref bT, .ref bV, .ref bC, .ref bL, .int lcr, .ref bZ, .int wrr])), (bS, .inl (E.2.1, 256, .inl gS)), (bW, .inl (E.2.1, 176, .inl gW)), (bT, .inl (E.2.1, 16, .inl ((forR gS gW gT gV (i + 1)).1))), (bV, .inl (E.2.1, 16, .inl ((forR gS gW gT gV (i + 1)).2)))] := (by rw [eF]; exact hD)
        exact ih (i + 1) (by omega) (by omega) _ _ _ hP hD hS (lv_sub hl [0, 2] rfl)
      · refine lv_aload_n hx hb dX3_forth_90 rfl (lv_at hl 1 rfl) ?_
        refine lv_iconst (v := 2) hx hb dX3_forth_91 (by decide) ?_
        refine lv_iconst (v := 3) hx hb dX3_forth_92 (by decide) ?_
        refine lv_iconst (v := 1) hx hb dX3_forth_93 (by decide) ?_
        refine lv_iconst (v := 1) hx hb dX3_forth_94 (by decide) ?_
        refine x_Vv (wr := [(bS, .inl (E.2.1, 256, .inl gS)), (bW, .inl (E.2.1, 176, .inl gW))]) (isC := [0, 3, 4]) (isR := [1, 2]) (As := [.int 2, .int 3, .int 1, .int 1]) B (c_X3_columns l E r bK bB bP bS bU bW bH bT bV bC bL bZ thr rdr mdr msr lcr wrr ((subP gS (forR gS gW gT gV i)).1) ((subP gS (forR gS gW gT gV i)).2) 2 3 1 1) k_X3_columns g_372 s_X3_columns ⟨Nat.le_trans (by decide) hR.1, Nat.le_trans (by decide) hR.2, rfl, rfl⟩ rfl 0 rfl hP hD hS ⟨rfl, rfl, rfl, rfl, by decide⟩ rfl hl.1 rfl (Nat.le_of_ble_eq_true rfl) dX3_forth_95 hf (fun H locs hP hD hS => ?_)
        have hP : va_P E.1 classes [(bS, .inl (E.2.1, 256, .inl gS)), (bW, .inl (E.2.1, 176, .inl gW)), (r, .inr (3, [.int thr, .int rdr, .int mdr, .int msr, .ref bK, .ref bB, .ref bP, .ref bS, .ref bU, .ref bW, .ref bH, .ref bT, .ref bV, .ref bC, .ref bL, .int lcr, .ref bZ, .int wrr])), (bT, .inl (E.2.1, 16, .inl ((colW 2 3 1 1 ((subP gS (forR gS gW gT gV i)).1) ((subP gS (forR gS gW gT gV i)).2)).1))), (bV, .inl (E.2.1, 16, .inl ((colW 2 3 1 1 ((subP gS (forR gS gW gT gV i)).1) ((subP gS (forR gS gW gT gV i)).2)).2)))] _ := hP
        have hD : va_D A [(bS, .inl (E.2.1, 256, .inl gS)), (bW, .inl (E.2.1, 176, .inl gW)), (r, .inr (3, [.int thr, .int rdr, .int mdr, .int msr, .ref bK, .ref bB, .ref bP, .ref bS, .ref bU, .ref bW, .ref bH, .ref bT, .ref bV, .ref bC, .ref bL, .int lcr, .ref bZ, .int wrr])), (bT, .inl (E.2.1, 16, .inl ((colW 2 3 1 1 ((subP gS (forR gS gW gT gV i)).1) ((subP gS (forR gS gW gT gV i)).2)).1))), (bV, .inl (E.2.1, 16, .inl ((colW 2 3 1 1 ((subP gS (forR gS gW gT gV i)).1) ((subP gS (forR gS gW gT gV i)).2)).2)))] := hD
        refine lv_aload_n hx hb dX3_forth_98 rfl (lv_at hl 1 rfl) ?_
        refine lv_iload_n hx hb dX3_forth_99 rfl (lv_at hl 2 rfl) ?_
        refine x_Vv (wr := [(bS, .inl (E.2.1, 256, .inl gS)), (bV, .inl (E.2.1, 16, .inl ((colW 2 3 1 1 ((subP gS (forR gS gW gT gV i)).1) ((subP gS (forR gS gW gT gV i)).2)).2)))]) (isC := [2, 1, 3]) (isR := [0, 4]) (As := [.int (nI (i + 1))]) B (c_X3_add l E r bK bB bP bS bU bW bH bT bV bC bL bZ thr rdr mdr msr lcr wrr gW ((colW 2 3 1 1 ((subP gS (forR gS gW gT gV i)).1) ((subP gS (forR gS gW gT gV i)).2)).1) (i + 1) (nI (i + 1)) rfl (by omega)) k_X3_add g_368 s_X3_add ⟨Nat.le_trans (by decide) hR.1, Nat.le_trans (by decide) hR.2, rfl, rfl⟩ rfl 2 rfl hP hD hS ⟨rfl, rfl, rfl, rfl, by decide⟩ rfl hl.1 rfl (Nat.le_of_ble_eq_true rfl) dX3_forth_100 hf (fun H locs hP hD hS => ?_)
        have hP : va_P E.1 classes [(bS, .inl (E.2.1, 256, .inl gS)), (bV, .inl (E.2.1, 16, .inl ((colW 2 3 1 1 ((subP gS (forR gS gW gT gV i)).1) ((subP gS (forR gS gW gT gV i)).2)).2))), (r, .inr (3, [.int thr, .int rdr, .int mdr, .int msr, .ref bK, .ref bB, .ref bP, .ref bS, .ref bU, .ref bW, .ref bH, .ref bT, .ref bV, .ref bC, .ref bL, .int lcr, .ref bZ, .int wrr])), (bW, .inl (E.2.1, 176, .inl gW)), (bT, .inl (E.2.1, 16, .inl (xorM gW (16 * (i + 1)) ((colW 2 3 1 1 ((subP gS (forR gS gW gT gV i)).1) ((subP gS (forR gS gW gT gV i)).2)).1) 16)))] _ := hP
        have hD : va_D A [(bS, .inl (E.2.1, 256, .inl gS)), (bV, .inl (E.2.1, 16, .inl ((colW 2 3 1 1 ((subP gS (forR gS gW gT gV i)).1) ((subP gS (forR gS gW gT gV i)).2)).2))), (r, .inr (3, [.int thr, .int rdr, .int mdr, .int msr, .ref bK, .ref bB, .ref bP, .ref bS, .ref bU, .ref bW, .ref bH, .ref bT, .ref bV, .ref bC, .ref bL, .int lcr, .ref bZ, .int wrr])), (bW, .inl (E.2.1, 176, .inl gW)), (bT, .inl (E.2.1, 16, .inl (xorM gW (16 * (i + 1)) ((colW 2 3 1 1 ((subP gS (forR gS gW gT gV i)).1) ((subP gS (forR gS gW gT gV i)).2)).1) 16)))] := hD
        refine lv_iinc (v := (nI ((i + 1) + 1))) (lv' := [(1, .int (nI ((i + 1) + 1))), (2, .int (nI 16)), (0, .ref r)]) hx hb dX3_forth_103 hl (k := 2) rfl (ii_1 (i + 1)) (by decide) rfl (fun ls hl => ?_)
        refine lv_goto (tgt := 7) hx hb dX3_forth_106 (by decide) ?_
        have hk : i + 1 < 10 := by have := ge_f (b := 10) c_87 (by omega) (by omega); omega
        have eF : forR gS gW gT gV (i + 1) = (xorM gW (16 * (i + 1)) (colW 2 3 1 1 (subP gS (forR gS gW gT gV i)).1 (subP gS (forR gS gW gT gV i)).2).1 16, (colW 2 3 1 1 (subP gS (forR gS gW gT gV i)).1 (subP gS (forR gS gW gT gV i)).2).2) := by
          show (xorM gW (16 * (i + 1)) (mxP (i + 1 < 10) 2 3 1 1 (subP gS (forR gS gW gT gV i))).1 16, (mxP (i + 1 < 10) 2 3 1 1 (subP gS (forR gS gW gT gV i))).2) = _
          unfold mxP
          rw [if_pos hk]
        have hP := hP.sub (ws' := [(r, .inr (3, [.int thr, .int rdr, .int mdr, .int msr, .ref bK, .ref bB, .ref bP, .ref bS, .ref bU, .ref bW, .ref bH, .ref bT, .ref bV, .ref bC, .ref bL, .int lcr, .ref bZ, .int wrr])), (bS, .inl (E.2.1, 256, .inl gS)), (bW, .inl (E.2.1, 176, .inl gW)), (bT, .inl (E.2.1, 16, .inl (xorM gW (16 * (i + 1)) ((colW 2 3 1 1 ((subP gS (forR gS gW gT gV i)).1) ((subP gS (forR gS gW gT gV i)).2)).1) 16))), (bV, .inl (E.2.1, 16, .inl ((colW 2 3 1 1 ((subP gS (forR gS gW gT gV i)).1) ((subP gS (forR gS gW gT gV i)).2)).2)))]) [2, 0, 3, 4, 1] rfl
        have hD := hD.sub (ws' := [(r, .inr (3, [.int thr, .int rdr, .int mdr, .int msr, .ref bK, .ref bB, .ref bP, .ref bS, .ref bU, .ref bW, .ref bH, .ref bT, .ref bV, .ref bC, .ref bL, .int lcr, .ref bZ, .int wrr])), (bS, .inl (E.2.1, 256, .inl gS)), (bW, .inl (E.2.1, 176, .inl gW)), (bT, .inl (E.2.1, 16, .inl (xorM gW (16 * (i + 1)) ((colW 2 3 1 1 ((subP gS (forR gS gW gT gV i)).1) ((subP gS (forR gS gW gT gV i)).2)).1) 16))), (bV, .inl (E.2.1, 16, .inl ((colW 2 3 1 1 ((subP gS (forR gS gW gT gV i)).1) ((subP gS (forR gS gW gT gV i)).2)).2)))]) [2, 0, 3, 4, 1] (by decide) rfl
        have hP : va_P E.1 classes [(r, .inr (3, [.int thr, .int rdr, .int mdr, .int msr, .ref bK, .ref bB, .ref bP, .ref bS, .ref bU, .ref bW, .ref bH, .ref bT, .ref bV, .ref bC, .ref bL, .int lcr, .ref bZ, .int wrr])), (bS, .inl (E.2.1, 256, .inl gS)), (bW, .inl (E.2.1, 176, .inl gW)), (bT, .inl (E.2.1, 16, .inl ((forR gS gW gT gV (i + 1)).1))), (bV, .inl (E.2.1, 16, .inl ((forR gS gW gT gV (i + 1)).2)))] _ := (by rw [eF]; exact hP)
        have hD : va_D A [(r, .inr (3, [.int thr, .int rdr, .int mdr, .int msr, .ref bK, .ref bB, .ref bP, .ref bS, .ref bU, .ref bW, .ref bH, .ref bT, .ref bV, .ref bC, .ref bL, .int lcr, .ref bZ, .int wrr])), (bS, .inl (E.2.1, 256, .inl gS)), (bW, .inl (E.2.1, 176, .inl gW)), (bT, .inl (E.2.1, 16, .inl ((forR gS gW gT gV (i + 1)).1))), (bV, .inl (E.2.1, 16, .inl ((forR gS gW gT gV (i + 1)).2)))] := (by rw [eF]; exact hD)
        exact ih (i + 1) (by omega) (by omega) _ _ _ hP hD hS (lv_sub hl [0, 2] rfl)
set_option maxHeartbeats 4000000 in
set_option maxRecDepth 100000 in
/-- the reference: forth -/
theorem c_X3_forth (l : Launch) (E : EE) (r bK bB bP bS bU bW bH bT bV bC bL bZ : Nat) (thr rdr mdr msr lcr wrr : Int32) (gS gW gT gV : Nat → Int32) (hs : ∀ i, i < 256 → By (gS i)) (hw : ∀ i, i < 176 → By (gW i)) (ht : ∀ i, i < 16 → By (gT i)) (hv : ∀ i, i < 16 → By (gV i)) : Cv l yX3_forth (.code yX3_forth cX3_forth 3 none) ({ frames := 2, cells := 0, slots := 0, locals := 50 }) E [.ref r] [(r, .inr (3, [.int thr, .int rdr, .int mdr, .int msr, .ref bK, .ref bB, .ref bP, .ref bS, .ref bU, .ref bW, .ref bH, .ref bT, .ref bV, .ref bC, .ref bL, .int lcr, .ref bZ, .int wrr])), (bS, .inl (E.2.1, 256, .inl gS)), (bW, .inl (E.2.1, 176, .inl gW)), (bT, .inl (E.2.1, 16, .inl gT)), (bV, .inl (E.2.1, 16, .inl gV))] [(r, .inr (3, [.int thr, .int rdr, .int mdr, .int msr, .ref bK, .ref bB, .ref bP, .ref bS, .ref bU, .ref bW, .ref bH, .ref bT, .ref bV, .ref bC, .ref bL, .int lcr, .ref bZ, .int wrr])), (bS, .inl (E.2.1, 256, .inl gS)), (bW, .inl (E.2.1, 176, .inl gW)), (bT, .inl (E.2.1, 16, .inl ((forR gS gW gT gV 10).1))), (bV, .inl (E.2.1, 16, .inl ((forR gS gW gT gV 10).2)))] := by
  refine Cv.of (by decide) (Nat.le_of_ble_eq_true rfl) ?_
  intro p e s m below meth c A ls B hP hD hS hl
  have hl : lv_has ls 3 [(0, .ref r)] := hl
  have B : Bd p s m _ meth c cX3_forth 3 none RX3 E A := B
  have hx := B.1
  have hb := B.2.1
  have hP : va_P E.1 classes [(r, .inr (3, [.int thr, .int rdr, .int mdr, .int msr, .ref bK, .ref bB, .ref bP, .ref bS, .ref bU, .ref bW, .ref bH, .ref bT, .ref bV, .ref bC, .ref bL, .int lcr, .ref bZ, .int wrr])), (bS, .inl (E.2.1, 256, .inl gS)), (bW, .inl (E.2.1, 176, .inl gW)), (bT, .inl (E.2.1, 16, .inl gT)), (bV, .inl (E.2.1, 16, .inl gV))] _ := hP
  have hD : va_D A [(r, .inr (3, [.int thr, .int rdr, .int mdr, .int msr, .ref bK, .ref bB, .ref bP, .ref bS, .ref bU, .ref bW, .ref bH, .ref bT, .ref bV, .ref bC, .ref bL, .int lcr, .ref bZ, .int wrr])), (bS, .inl (E.2.1, 256, .inl gS)), (bW, .inl (E.2.1, 176, .inl gW)), (bT, .inl (E.2.1, 16, .inl gT)), (bV, .inl (E.2.1, 16, .inl gV))] := hD
  refine lv_aload_n hx hb dX3_forth_0 rfl (lv_at hl 0 rfl) ?_
  refine lv_iconst (v := 0) hx hb dX3_forth_1 (by decide) ?_
  refine x_Vv (wr := [(bS, .inl (E.2.1, 256, .inl gS)), (bV, .inl (E.2.1, 16, .inl gV))]) (isC := [0, 2, 3]) (isR := [1, 4]) (As := [.int 0]) B (c_X3_add l E r bK bB bP bS bU bW bH bT bV bC bL bZ thr rdr mdr msr lcr wrr gW gT 0 0 rfl (by omega)) k_X3_add g_368 s_X3_add ⟨by decide, by decide, rfl, rfl⟩ rfl 0 rfl hP hD hS ⟨rfl, rfl, rfl, rfl, by decide⟩ rfl hl.1 rfl (Nat.le_of_ble_eq_true rfl) dX3_forth_2 ⟨by decide, by decide⟩ (fun H locs hP hD hS => ?_)
  have hP : va_P E.1 classes [(bS, .inl (E.2.1, 256, .inl gS)), (bV, .inl (E.2.1, 16, .inl gV)), (r, .inr (3, [.int thr, .int rdr, .int mdr, .int msr, .ref bK, .ref bB, .ref bP, .ref bS, .ref bU, .ref bW, .ref bH, .ref bT, .ref bV, .ref bC, .ref bL, .int lcr, .ref bZ, .int wrr])), (bW, .inl (E.2.1, 176, .inl gW)), (bT, .inl (E.2.1, 16, .inl (xorM gW (16 * 0) gT 16)))] _ := hP
  have hD : va_D A [(bS, .inl (E.2.1, 256, .inl gS)), (bV, .inl (E.2.1, 16, .inl gV)), (r, .inr (3, [.int thr, .int rdr, .int mdr, .int msr, .ref bK, .ref bB, .ref bP, .ref bS, .ref bU, .ref bW, .ref bH, .ref bT, .ref bV, .ref bC, .ref bL, .int lcr, .ref bZ, .int wrr])), (bW, .inl (E.2.1, 176, .inl gW)), (bT, .inl (E.2.1, 16, .inl (xorM gW (16 * 0) gT 16)))] := hD
  refine lv_iconst (v := 1) hx hb dX3_forth_5 (by decide) ?_
  refine lv_istore_n (lv' := [(1, .int 1), (0, .ref r)]) hx hb dX3_forth_6 rfl hl (by decide) rfl (fun ls hl => ?_)
  have hP := hP.sub (ws' := [(r, .inr (3, [.int thr, .int rdr, .int mdr, .int msr, .ref bK, .ref bB, .ref bP, .ref bS, .ref bU, .ref bW, .ref bH, .ref bT, .ref bV, .ref bC, .ref bL, .int lcr, .ref bZ, .int wrr])), (bS, .inl (E.2.1, 256, .inl gS)), (bW, .inl (E.2.1, 176, .inl gW)), (bT, .inl (E.2.1, 16, .inl (xorM gW (16 * 0) gT 16))), (bV, .inl (E.2.1, 16, .inl gV))]) [2, 0, 3, 4, 1] rfl
  have hD := hD.sub (ws' := [(r, .inr (3, [.int thr, .int rdr, .int mdr, .int msr, .ref bK, .ref bB, .ref bP, .ref bS, .ref bU, .ref bW, .ref bH, .ref bT, .ref bV, .ref bC, .ref bL, .int lcr, .ref bZ, .int wrr])), (bS, .inl (E.2.1, 256, .inl gS)), (bW, .inl (E.2.1, 176, .inl gW)), (bT, .inl (E.2.1, 16, .inl (xorM gW (16 * 0) gT 16))), (bV, .inl (E.2.1, 16, .inl gV))]) [2, 0, 3, 4, 1] (by decide) rfl
  have hP : va_P E.1 classes [(r, .inr (3, [.int thr, .int rdr, .int mdr, .int msr, .ref bK, .ref bB, .ref bP, .ref bS, .ref bU, .ref bW, .ref bH, .ref bT, .ref bV, .ref bC, .ref bL, .int lcr, .ref bZ, .int wrr])), (bS, .inl (E.2.1, 256, .inl gS)), (bW, .inl (E.2.1, 176, .inl gW)), (bT, .inl (E.2.1, 16, .inl ((forR gS gW gT gV 0).1))), (bV, .inl (E.2.1, 16, .inl ((forR gS gW gT gV 0).2)))] _ := hP
  have hD : va_D A [(r, .inr (3, [.int thr, .int rdr, .int mdr, .int msr, .ref bK, .ref bB, .ref bP, .ref bS, .ref bU, .ref bW, .ref bH, .ref bT, .ref bV, .ref bC, .ref bL, .int lcr, .ref bZ, .int wrr])), (bS, .inl (E.2.1, 256, .inl gS)), (bW, .inl (E.2.1, 176, .inl gW)), (bT, .inl (E.2.1, 16, .inl ((forR gS gW gT gV 0).1))), (bV, .inl (E.2.1, 16, .inl ((forR gS gW gT gV 0).2)))] := hD
  refine lp_rforth B ⟨by decide, by decide⟩ ⟨by decide, by decide⟩ hs hw ht hv (fun H locs ls hP hD hS hl => ?_) 11 0 (by omega) (by omega) _ _ _ hP hD hS (lv_sub hl [0, 1] rfl)
  have hP : va_P E.1 classes [(r, .inr (3, [.int thr, .int rdr, .int mdr, .int msr, .ref bK, .ref bB, .ref bP, .ref bS, .ref bU, .ref bW, .ref bH, .ref bT, .ref bV, .ref bC, .ref bL, .int lcr, .ref bZ, .int wrr])), (bS, .inl (E.2.1, 256, .inl gS)), (bW, .inl (E.2.1, 176, .inl gW)), (bT, .inl (E.2.1, 16, .inl ((forR gS gW gT gV 10).1))), (bV, .inl (E.2.1, 16, .inl ((forR gS gW gT gV 10).2)))] _ := hP
  have hD : va_D A [(r, .inr (3, [.int thr, .int rdr, .int mdr, .int msr, .ref bK, .ref bB, .ref bP, .ref bS, .ref bU, .ref bW, .ref bH, .ref bT, .ref bV, .ref bC, .ref bL, .int lcr, .ref bZ, .int wrr])), (bS, .inl (E.2.1, 256, .inl gS)), (bW, .inl (E.2.1, 176, .inl gW)), (bT, .inl (E.2.1, 16, .inl ((forR gS gW gT gV 10).1))), (bV, .inl (E.2.1, 16, .inl ((forR gS gW gT gV 10).2)))] := hD
  exact x_vret B hP hD hS dX3_forth_109
