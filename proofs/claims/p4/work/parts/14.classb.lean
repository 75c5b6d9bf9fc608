set_option maxHeartbeats 4000000 in
set_option maxRecDepth 100000 in
theorem lp_repl {p : Program} {l : Launch} {e : Env} {R : Room} {s : State} {m : MethodId} {args : Array Value} {below : List Frame} {meth : Method} {c : Code} {cells slots : Nat} {Q : State → Prop} {E : EE} {A : Nat → Prop} {oK aB aW aF aG aV b : Nat} {f g : Nat → Int32} {mde : Int32} (B : Bd p s m args meth c cX0_replaceAndMove 3 none RX0 E A) (hf : cells ≤ R.cells ∧ slots ≤ R.slots) (hR : 1 ≤ R.frames ∧ 60 ≤ R.locals) (hF : ∀ i, i < 16 → By (f i))
    (kk : ∀ (H : Heap) (locs : List Loc) (ls : Array Slot), va_P E.1 classes [(oK, .inr (0, [.ref aB, .ref aW, .ref aF, .ref aG, .ref aV, .int mde])), (aV, .inl (E.2.1, 16, .inl (subM f g 16))), (b, .inl (E.2.1, 16, .inl f))] H → va_D A [(oK, .inr (0, [.ref aB, .ref aW, .ref aF, .ref aG, .ref aV, .int mde])), (aV, .inl (E.2.1, 16, .inl (subM f g 16))), (b, .inl (E.2.1, 16, .inl f))] → va_S A s.heap H locs → lv_has ls 3 [(2, .int (nI 16)), (0, .ref oK), (1, .ref b)] → W p l e R s m args below meth c H locs cells slots Q (F0 m 30 ls [])) :
    ∀ (fu i : Nat), i ≤ 16 → 16 < i + fu → ∀ (H : Heap) (locs : List Loc) (ls : Array Slot), va_P E.1 classes [(oK, .inr (0, [.ref aB, .ref aW, .ref aF, .ref aG, .ref aV, .int mde])), (aV, .inl (E.2.1, 16, .inl (subM f g i))), (b, .inl (E.2.1, 16, .inl f))] H → va_D A [(oK, .inr (0, [.ref aB, .ref aW, .ref aF, .ref aG, .ref aV, .int mde])), (aV, .inl (E.2.1, 16, .inl (subM f g i))), (b, .inl (E.2.1, 16, .inl f))] → va_S A s.heap H locs → lv_has ls 3 [(2, .int (nI i)), (0, .ref oK), (1, .ref b)] → W p l e R s m args below meth c H locs cells slots Q (F0 m 2 ls []) := by
  have hx := B.1
  have hb := B.2.1
  intro fu
  induction fu with
  | zero =>
    intro i h1 h2
    exact absurd h2 (by omega)
  | succ fu ih =>
    intro i hi hin H locs ls hP hD hS hl
    refine lv_iload_n hx hb dX0_replaceAndMove_2 rfl (lv_at hl 0 rfl) ?_
    refine lv_bipush (v := 16) hx hb dX0_replaceAndMove_3 (by decide) ?_
    refine lv_icmp_ge (tgt := 30) hx hb dX0_replaceAndMove_5 (by decide) (fun c_5 => ?_) (fun c_5 => ?_)
    · have hj : i = 16 := by have := ge_t (b := 16) c_5 (by omega) (by omega); omega
      subst hj
      exact kk _ _ _ hP hD hS hl
    · have hj : i < 16 := by have := ge_f (b := 16) c_5 (by omega) (by omega); omega
      refine lv_aload_n hx hb dX0_replaceAndMove_8 rfl (lv_at hl 1 rfl) ?_
      refine x_get B hP 0 rfl rfl i_X0 4 (by decide) g_29 rfl dX0_replaceAndMove_9 ?_
      refine lv_iload_n hx hb dX0_replaceAndMove_12 rfl (lv_at hl 0 rfl) ?_
      refine x_gsN B hS 0 rfl n_143 dX0_replaceAndMove_13 ?_
      refine lv_aload_n hx hb dX0_replaceAndMove_16 rfl (lv_at hl 2 rfl) ?_
      refine lv_iload_n hx hb dX0_replaceAndMove_17 rfl (lv_at hl 0 rfl) ?_
      refine x_Si (wr := [(oK, .inr (0, [.ref aB, .ref aW, .ref aF, .ref aG, .ref aV, .int mde])), (aV, .inl (E.2.1, 16, .inl (subM f g i))), (b, .inl (E.2.1, 16, .inl f))]) (isC := []) (isR := [0, 1, 2]) (As := [.int (nI i)]) B (c_X0_source l E i (nI i) rfl (by omega)) k_X0_source g_167 s_X0_source ⟨Nat.le_trans (by decide) hR.1, Nat.le_trans (by decide) hR.2, rfl, rfl⟩ hP hD hS ⟨rfl, rfl, rfl, rfl, by decide⟩ rfl hl.1 rfl (Nat.le_of_ble_eq_true rfl) dX0_replaceAndMove_18 hf (fun H locs hP hD hS => ?_)
      have hP : va_P E.1 classes [(oK, .inr (0, [.ref aB, .ref aW, .ref aF, .ref aG, .ref aV, .int mde])), (aV, .inl (E.2.1, 16, .inl (subM f g i))), (b, .inl (E.2.1, 16, .inl f))] _ := hP
      have hD : va_D A [(oK, .inr (0, [.ref aB, .ref aW, .ref aF, .ref aG, .ref aV, .int mde])), (aV, .inl (E.2.1, 16, .inl (subM f g i))), (b, .inl (E.2.1, 16, .inl f))] := hD
      refine x_ald B hP 2 rfl (srcM i) rfl (srcM_lt i) (by decide) dX0_replaceAndMove_21 ?_
      refine x_tld B hS 0 rfl ((f (srcM i)).toNatClampNeg) (((hF (srcM i) (srcM_lt i))).1) (((hF (srcM i) (srcM_lt i))).2) (by decide) dX0_replaceAndMove_22 ?_
      refine x_ast B hP hD hS 1 rfl i rfl (by omega) (by decide) dX0_replaceAndMove_23 (fun H locs hP hD hS => ?_)
      have hP : va_P E.1 classes [(oK, .inr (0, [.ref aB, .ref aW, .ref aF, .ref aG, .ref aV, .int mde])), (aV, .inl (E.2.1, 16, .inl (upd (subM f g i) i (fS ((f (srcM i)).toNatClampNeg))))), (b, .inl (E.2.1, 16, .inl f))] _ := hP
      have hD : va_D A [(oK, .inr (0, [.ref aB, .ref aW, .ref aF, .ref aG, .ref aV, .int mde])), (aV, .inl (E.2.1, 16, .inl (upd (subM f g i) i (fS ((f (srcM i)).toNatClampNeg))))), (b, .inl (E.2.1, 16, .inl f))] := hD
      refine lv_iinc (v := (nI (i + 1))) (lv' := [(2, .int (nI (i + 1))), (0, .ref oK), (1, .ref b)]) hx hb dX0_replaceAndMove_24 hl (k := 0) rfl (ii_1 i) (by decide) rfl (fun ls hl => ?_)
      refine lv_goto (tgt := 2) hx hb dX0_replaceAndMove_27 (by decide) ?_
      have hP : va_P E.1 classes [(oK, .inr (0, [.ref aB, .ref aW, .ref aF, .ref aG, .ref aV, .int mde])), (aV, .inl (E.2.1, 16, .inl (subM f g (i + 1)))), (b, .inl (E.2.1, 16, .inl f))] _ := hP
      have hD : va_D A [(oK, .inr (0, [.ref aB, .ref aW, .ref aF, .ref aG, .ref aV, .int mde])), (aV, .inl (E.2.1, 16, .inl (subM f g (i + 1)))), (b, .inl (E.2.1, 16, .inl f))] := hD
      exact ih (i + 1) (by omega) (by omega) _ _ _ hP hD hS (lv_sub hl [0, 1, 2] rfl)
set_option maxHeartbeats 4000000 in
set_option maxRecDepth 100000 in
/-- lp_repl -/
theorem c_X0_replaceAndMove (l : Launch) (E : EE) (oK aB aW aF aG aV b : Nat) (f g : Nat → Int32) (mde : Int32) (hF : ∀ i, i < 16 → By (f i)) : Cv l yX0_replaceAndMove (.code yX0_replaceAndMove cX0_replaceAndMove 3 none) ({ frames := 1, cells := 0, slots := 0, locals := 60 }) E [.ref oK, .ref b] [(oK, .inr (0, [.ref aB, .ref aW, .ref aF, .ref aG, .ref aV, .int mde])), (aV, .inl (E.2.1, 16, .inl g)), (b, .inl (E.2.1, 16, .inl f))] [(oK, .inr (0, [.ref aB, .ref aW, .ref aF, .ref aG, .ref aV, .int mde])), (aV, .inl (E.2.1, 16, .inl (subM f g 16))), (b, .inl (E.2.1, 16, .inl (va_cpy (subM f g 16) f 0 0 16)))] := by
  refine Cv.of (by decide) (Nat.le_of_ble_eq_true rfl) ?_
  intro p e s m below meth c A ls B hP hD hS hl
  have hl : lv_has ls 3 [(0, .ref oK), (1, .ref b)] := hl
  have B : Bd p s m _ meth c cX0_replaceAndMove 3 none RX0 E A := B
  have hx := B.1
  have hb := B.2.1
  have hP : va_P E.1 classes [(oK, .inr (0, [.ref aB, .ref aW, .ref aF, .ref aG, .ref aV, .int mde])), (aV, .inl (E.2.1, 16, .inl g)), (b, .inl (E.2.1, 16, .inl f))] _ := hP
  have hD : va_D A [(oK, .inr (0, [.ref aB, .ref aW, .ref aF, .ref aG, .ref aV, .int mde])), (aV, .inl (E.2.1, 16, .inl g)), (b, .inl (E.2.1, 16, .inl f))] := hD
  refine lv_iconst (v := 0) hx hb dX0_replaceAndMove_0 (by decide) ?_
  refine lv_istore_n (lv' := [(2, .int 0), (0, .ref oK), (1, .ref b)]) hx hb dX0_replaceAndMove_1 rfl hl (by decide) rfl (fun ls hl => ?_)
  have hP : va_P E.1 classes [(oK, .inr (0, [.ref aB, .ref aW, .ref aF, .ref aG, .ref aV, .int mde])), (aV, .inl (E.2.1, 16, .inl (subM f g 0))), (b, .inl (E.2.1, 16, .inl f))] _ := hP
  have hD : va_D A [(oK, .inr (0, [.ref aB, .ref aW, .ref aF, .ref aG, .ref aV, .int mde])), (aV, .inl (E.2.1, 16, .inl (subM f g 0))), (b, .inl (E.2.1, 16, .inl f))] := hD
  refine lp_repl B ⟨by decide, by decide⟩ ⟨by decide, by decide⟩ hF (fun H locs ls hP hD hS hl => ?_) 17 0 (by omega) (by omega) _ _ _ hP hD hS (lv_sub hl [0, 1, 2] rfl)
  refine lv_aload_n hx hb dX0_replaceAndMove_30 rfl (lv_at hl 1 rfl) ?_
  refine x_get B hP 0 rfl rfl i_X0 4 (by decide) g_29 rfl dX0_replaceAndMove_31 ?_
  refine lv_iconst (v := 0) hx hb dX0_replaceAndMove_34 (by decide) ?_
  refine lv_aload_n hx hb dX0_replaceAndMove_35 rfl (lv_at hl 2 rfl) ?_
  refine lv_iconst (v := 0) hx hb dX0_replaceAndMove_36 (by decide) ?_
  refine lv_bipush (v := 16) hx hb dX0_replaceAndMove_37 (by decide) ?_
  refine x_copy B hP hD hS g_136 w_copy hl.1 1 2 rfl rfl 16 rfl (by decide) (by decide) (by decide) (by decide) (Nat.le_of_ble_eq_true rfl) dX0_replaceAndMove_39 (fun H locs hP hD hS => ?_)
  have hP : va_P E.1 classes [(oK, .inr (0, [.ref aB, .ref aW, .ref aF, .ref aG, .ref aV, .int mde])), (aV, .inl (E.2.1, 16, .inl (subM f g 16))), (b, .inl (E.2.1, 16, .inl (va_cpy (subM f g 16) f 0 0 16)))] _ := hP
  have hD : va_D A [(oK, .inr (0, [.ref aB, .ref aW, .ref aF, .ref aG, .ref aV, .int mde])), (aV, .inl (E.2.1, 16, .inl (subM f g 16))), (b, .inl (E.2.1, 16, .inl (va_cpy (subM f g 16) f 0 0 16)))] := hD
  have hP : va_P E.1 classes [(oK, .inr (0, [.ref aB, .ref aW, .ref aF, .ref aG, .ref aV, .int mde])), (aV, .inl (E.2.1, 16, .inl (subM f g 16))), (b, .inl (E.2.1, 16, .inl (va_cpy (subM f g 16) f 0 0 16)))] _ := hP
  have hD : va_D A [(oK, .inr (0, [.ref aB, .ref aW, .ref aF, .ref aG, .ref aV, .int mde])), (aV, .inl (E.2.1, 16, .inl (subM f g 16))), (b, .inl (E.2.1, 16, .inl (va_cpy (subM f g 16) f 0 0 16)))] := hD
  exact x_vret B hP hD hS dX0_replaceAndMove_42
set_option maxHeartbeats 4000000 in
set_option maxRecDepth 100000 in
theorem lp_unre {p : Program} {l : Launch} {e : Env} {R : Room} {s : State} {m : MethodId} {args : Array Value} {below : List Frame} {meth : Method} {c : Code} {cells slots : Nat} {Q : State → Prop} {E : EE} {A : Nat → Prop} {oK aB aW aF aG aV b : Nat} {f g : Nat → Int32} {mde : Int32} (B : Bd p s m args meth c cX0_moveAndReplaceBack 3 none RX0 E A) (hf : cells ≤ R.cells ∧ slots ≤ R.slots) (hR : 1 ≤ R.frames ∧ 60 ≤ R.locals) (hF : ∀ i, i < 16 → By (f i))
    (kk : ∀ (H : Heap) (locs : List Loc) (ls : Array Slot), va_P E.1 classes [(oK, .inr (0, [.ref aB, .ref aW, .ref aF, .ref aG, .ref aV, .int mde])), (aV, .inl (E.2.1, 16, .inl (unsM f g 16))), (b, .inl (E.2.1, 16, .inl f))] H → va_D A [(oK, .inr (0, [.ref aB, .ref aW, .ref aF, .ref aG, .ref aV, .int mde])), (aV, .inl (E.2.1, 16, .inl (unsM f g 16))), (b, .inl (E.2.1, 16, .inl f))] → va_S A s.heap H locs → lv_has ls 3 [(2, .int (nI 16)), (0, .ref oK), (1, .ref b)] → W p l e R s m args below meth c H locs cells slots Q (F0 m 30 ls [])) :
    ∀ (fu i : Nat), i ≤ 16 → 16 < i + fu → ∀ (H : Heap) (locs : List Loc) (ls : Array Slot), va_P E.1 classes [(oK, .inr (0, [.ref aB, .ref aW, .ref aF, .ref aG, .ref aV, .int mde])), (aV, .inl (E.2.1, 16, .inl (unsM f g i))), (b, .inl (E.2.1, 16, .inl f))] H → va_D A [(oK, .inr (0, [.ref aB, .ref aW, .ref aF, .ref aG, .ref aV, .int mde])), (aV, .inl (E.2.1, 16, .inl (unsM f g i))), (b, .inl (E.2.1, 16, .inl f))] → va_S A s.heap H locs → lv_has ls 3 [(2, .int (nI i)), (0, .ref oK), (1, .ref b)] → W p l e R s m args below meth c H locs cells slots Q (F0 m 2 ls []) := by
  have hx := B.1
  have hb := B.2.1
  intro fu
  induction fu with
  | zero =>
    intro i h1 h2
    exact absurd h2 (by omega)
  | succ fu ih =>
    intro i hi hin H locs ls hP hD hS hl
    refine lv_iload_n hx hb dX0_moveAndReplaceBack_2 rfl (lv_at hl 0 rfl) ?_
    refine lv_bipush (v := 16) hx hb dX0_moveAndReplaceBack_3 (by decide) ?_
    refine lv_icmp_ge (tgt := 30) hx hb dX0_moveAndReplaceBack_5 (by decide) (fun c_5 => ?_) (fun c_5 => ?_)
    · have hj : i = 16 := by have := ge_t (b := 16) c_5 (by omega) (by omega); omega
      subst hj
      exact kk _ _ _ hP hD hS hl
    · have hj : i < 16 := by have := ge_f (b := 16) c_5 (by omega) (by omega); omega
      refine lv_aload_n hx hb dX0_moveAndReplaceBack_8 rfl (lv_at hl 1 rfl) ?_
      refine x_get B hP 0 rfl rfl i_X0 4 (by decide) g_29 rfl dX0_moveAndReplaceBack_9 ?_
      refine lv_iload_n hx hb dX0_moveAndReplaceBack_12 rfl (lv_at hl 0 rfl) ?_
      refine x_Si (wr := [(oK, .inr (0, [.ref aB, .ref aW, .ref aF, .ref aG, .ref aV, .int mde])), (aV, .inl (E.2.1, 16, .inl (unsM f g i))), (b, .inl (E.2.1, 16, .inl f))]) (isC := []) (isR := [0, 1, 2]) (As := [.int (nI i)]) B (c_X0_source l E i (nI i) rfl (by omega)) k_X0_source g_167 s_X0_source ⟨Nat.le_trans (by decide) hR.1, Nat.le_trans (by decide) hR.2, rfl, rfl⟩ hP hD hS ⟨rfl, rfl, rfl, rfl, by decide⟩ rfl hl.1 rfl (Nat.le_of_ble_eq_true rfl) dX0_moveAndReplaceBack_13 hf (fun H locs hP hD hS => ?_)
      have hP : va_P E.1 classes [(oK, .inr (0, [.ref aB, .ref aW, .ref aF, .ref aG, .ref aV, .int mde])), (aV, .inl (E.2.1, 16, .inl (unsM f g i))), (b, .inl (E.2.1, 16, .inl f))] _ := hP
      have hD : va_D A [(oK, .inr (0, [.ref aB, .ref aW, .ref aF, .ref aG, .ref aV, .int mde])), (aV, .inl (E.2.1, 16, .inl (unsM f g i))), (b, .inl (E.2.1, 16, .inl f))] := hD
      refine x_gsN B hS 1 rfl n_251 dX0_moveAndReplaceBack_16 ?_
      refine lv_aload_n hx hb dX0_moveAndReplaceBack_19 rfl (lv_at hl 2 rfl) ?_
      refine lv_iload_n hx hb dX0_moveAndReplaceBack_20 rfl (lv_at hl 0 rfl) ?_
      refine x_ald B hP 2 rfl i rfl (by omega) (by decide) dX0_moveAndReplaceBack_21 ?_
      refine x_tld B hS 1 rfl ((f i).toNatClampNeg) (((hF i (by omega))).1) (((hF i (by omega))).2) (by decide) dX0_moveAndReplaceBack_22 ?_
      refine x_ast B hP hD hS 1 rfl (srcM i) rfl (srcM_lt i) (by decide) dX0_moveAndReplaceBack_23 (fun H locs hP hD hS => ?_)
      have hP : va_P E.1 classes [(oK, .inr (0, [.ref aB, .ref aW, .ref aF, .ref aG, .ref aV, .int mde])), (aV, .inl (E.2.1, 16, .inl (upd (unsM f g i) (srcM i) (fU ((f i).toNatClampNeg))))), (b, .inl (E.2.1, 16, .inl f))] _ := hP
      have hD : va_D A [(oK, .inr (0, [.ref aB, .ref aW, .ref aF, .ref aG, .ref aV, .int mde])), (aV, .inl (E.2.1, 16, .inl (upd (unsM f g i) (srcM i) (fU ((f i).toNatClampNeg))))), (b, .inl (E.2.1, 16, .inl f))] := hD
      refine lv_iinc (v := (nI (i + 1))) (lv' := [(2, .int (nI (i + 1))), (0, .ref oK), (1, .ref b)]) hx hb dX0_moveAndReplaceBack_24 hl (k := 0) rfl (ii_1 i) (by decide) rfl (fun ls hl => ?_)
      refine lv_goto (tgt := 2) hx hb dX0_moveAndReplaceBack_27 (by decide) ?_
      have hP : va_P E.1 classes [(oK, .inr (0, [.ref aB, .ref aW, .ref aF, .ref aG, .ref aV, .int mde])), (aV, .inl (E.2.1, 16, .inl (unsM f g (i + 1)))), (b, .inl (E.2.1, 16, .inl f))] _ := hP
      have hD : va_D A [(oK, .inr (0, [.ref aB, .ref aW, .ref aF, .ref aG, .ref aV, .int mde])), (aV, .inl (E.2.1, 16, .inl (unsM f g (i + 1)))), (b, .inl (E.2.1, 16, .inl f))] := hD
      exact ih (i + 1) (by omega) (by omega) _ _ _ hP hD hS (lv_sub hl [0, 1, 2] rfl)
set_option maxHeartbeats 4000000 in
set_option maxRecDepth 100000 in
/-- lp_unre -/
theorem c_X0_moveAndReplaceBack (l : Launch) (E : EE) (oK aB aW aF aG aV b : Nat) (f g : Nat → Int32) (mde : Int32) (hF : ∀ i, i < 16 → By (f i)) : Cv l yX0_moveAndReplaceBack (.code yX0_moveAndReplaceBack cX0_moveAndReplaceBack 3 none) ({ frames := 1, cells := 0, slots := 0, locals := 60 }) E [.ref oK, .ref b] [(oK, .inr (0, [.ref aB, .ref aW, .ref aF, .ref aG, .ref aV, .int mde])), (aV, .inl (E.2.1, 16, .inl g)), (b, .inl (E.2.1, 16, .inl f))] [(oK, .inr (0, [.ref aB, .ref aW, .ref aF, .ref aG, .ref aV, .int mde])), (aV, .inl (E.2.1, 16, .inl (unsM f g 16))), (b, .inl (E.2.1, 16, .inl (va_cpy (unsM f g 16) f 0 0 16)))] := by
  refine Cv.of (by decide) (Nat.le_of_ble_eq_true rfl) ?_
  intro p e s m below meth c A ls B hP hD hS hl
  have hl : lv_has ls 3 [(0, .ref oK), (1, .ref b)] := hl
  have B : Bd p s m _ meth c cX0_moveAndReplaceBack 3 none RX0 E A := B
  have hx := B.1
  have hb := B.2.1
  have hP : va_P E.1 classes [(oK, .inr (0, [.ref aB, .ref aW, .ref aF, .ref aG, .ref aV, .int mde])), (aV, .inl (E.2.1, 16, .inl g)), (b, .inl (E.2.1, 16, .inl f))] _ := hP
  have hD : va_D A [(oK, .inr (0, [.ref aB, .ref aW, .ref aF, .ref aG, .ref aV, .int mde])), (aV, .inl (E.2.1, 16, .inl g)), (b, .inl (E.2.1, 16, .inl f))] := hD
  refine lv_iconst (v := 0) hx hb dX0_moveAndReplaceBack_0 (by decide) ?_
  refine lv_istore_n (lv' := [(2, .int 0), (0, .ref oK), (1, .ref b)]) hx hb dX0_moveAndReplaceBack_1 rfl hl (by decide) rfl (fun ls hl => ?_)
  have hP : va_P E.1 classes [(oK, .inr (0, [.ref aB, .ref aW, .ref aF, .ref aG, .ref aV, .int mde])), (aV, .inl (E.2.1, 16, .inl (unsM f g 0))), (b, .inl (E.2.1, 16, .inl f))] _ := hP
  have hD : va_D A [(oK, .inr (0, [.ref aB, .ref aW, .ref aF, .ref aG, .ref aV, .int mde])), (aV, .inl (E.2.1, 16, .inl (unsM f g 0))), (b, .inl (E.2.1, 16, .inl f))] := hD
  refine lp_unre B ⟨by decide, by decide⟩ ⟨by decide, by decide⟩ hF (fun H locs ls hP hD hS hl => ?_) 17 0 (by omega) (by omega) _ _ _ hP hD hS (lv_sub hl [0, 1, 2] rfl)
  refine lv_aload_n hx hb dX0_moveAndReplaceBack_30 rfl (lv_at hl 1 rfl) ?_
  refine x_get B hP 0 rfl rfl i_X0 4 (by decide) g_29 rfl dX0_moveAndReplaceBack_31 ?_
  refine lv_iconst (v := 0) hx hb dX0_moveAndReplaceBack_34 (by decide) ?_
  refine lv_aload_n hx hb dX0_moveAndReplaceBack_35 rfl (lv_at hl 2 rfl) ?_
  refine lv_iconst (v := 0) hx hb dX0_moveAndReplaceBack_36 (by decide) ?_
  refine lv_bipush (v := 16) hx hb dX0_moveAndReplaceBack_37 (by decide) ?_
  refine x_copy B hP hD hS g_136 w_copy hl.1 1 2 rfl rfl 16 rfl (by decide) (by decide) (by decide) (by decide) (Nat.le_of_ble_eq_true rfl) dX0_moveAndReplaceBack_39 (fun H locs hP hD hS => ?_)
  have hP : va_P E.1 classes [(oK, .inr (0, [.ref aB, .ref aW, .ref aF, .ref aG, .ref aV, .int mde])), (aV, .inl (E.2.1, 16, .inl (unsM f g 16))), (b, .inl (E.2.1, 16, .inl (va_cpy (unsM f g 16) f 0 0 16)))] _ := hP
  have hD : va_D A [(oK, .inr (0, [.ref aB, .ref aW, .ref aF, .ref aG, .ref aV, .int mde])), (aV, .inl (E.2.1, 16, .inl (unsM f g 16))), (b, .inl (E.2.1, 16, .inl (va_cpy (unsM f g 16) f 0 0 16)))] := hD
  have hP : va_P E.1 classes [(oK, .inr (0, [.ref aB, .ref aW, .ref aF, .ref aG, .ref aV, .int mde])), (aV, .inl (E.2.1, 16, .inl (unsM f g 16))), (b, .inl (E.2.1, 16, .inl (va_cpy (unsM f g 16) f 0 0 16)))] _ := hP
  have hD : va_D A [(oK, .inr (0, [.ref aB, .ref aW, .ref aF, .ref aG, .ref aV, .int mde])), (aV, .inl (E.2.1, 16, .inl (unsM f g 16))), (b, .inl (E.2.1, 16, .inl (va_cpy (unsM f g 16) f 0 0 16)))] := hD
  exact x_vret B hP hD hS dX0_moveAndReplaceBack_42
set_option maxHeartbeats 4000000 in
set_option maxRecDepth 100000 in
theorem lp_forth {p : Program} {l : Launch} {e : Env} {R : Room} {s : State} {m : MethodId} {args : Array Value} {below : List Frame} {meth : Method} {c : Code} {cells slots : Nat} {Q : State → Prop} {E : EE} {A : Nat → Prop} {oK aB aW aF aG aV b : Nat} {fW f g : Nat → Int32} {mde : Int32} (B : Bd p s m args meth c cX0_goForth 3 none RX0 E A) (hf : cells ≤ R.cells ∧ slots ≤ R.slots) (hR : 3 ≤ R.frames ∧ 82 ≤ R.locals) (hW : ∀ i, i < 176 → By (fW i)) (hF : ∀ i, i < 16 → By (f i)) (hG : ∀ i, i < 16 → By (g i))
    (kk : ∀ (H : Heap) (locs : List Loc) (ls : Array Slot), va_P E.1 classes [(oK, .inr (0, [.ref aB, .ref aW, .ref aF, .ref aG, .ref aV, .int mde])), (aW, .inl (E.2.1, 176, .inl fW)), (aV, .inl (E.2.1, 16, .inl ((forM fW f g 10).2))), (b, .inl (E.2.1, 16, .inl ((forM fW f g 10).1)))] H → va_D A [(oK, .inr (0, [.ref aB, .ref aW, .ref aF, .ref aG, .ref aV, .int mde])), (aW, .inl (E.2.1, 176, .inl fW)), (aV, .inl (E.2.1, 16, .inl ((forM fW f g 10).2))), (b, .inl (E.2.1, 16, .inl ((forM fW f g 10).1)))] → va_S A s.heap H locs → lv_has ls 3 [(2, .int (nI (10 + 1))), (0, .ref oK), (1, .ref b)] → W p l e R s m args below meth c H locs cells slots Q (F0 m 50 ls [])) :
    ∀ (fu i : Nat), i ≤ 10 → 10 < i + fu → ∀ (H : Heap) (locs : List Loc) (ls : Array Slot), va_P E.1 classes [(oK, .inr (0, [.ref aB, .ref aW, .ref aF, .ref aG, .ref aV, .int mde])), (aW, .inl (E.2.1, 176, .inl fW)), (aV, .inl (E.2.1, 16, .inl ((forM fW f g i).2))), (b, .inl (E.2.1, 16, .inl ((forM fW f g i).1)))] H → va_D A [(oK, .inr (0, [.ref aB, .ref aW, .ref aF, .ref aG, .ref aV, .int mde])), (aW, .inl (E.2.1, 176, .inl fW)), (aV, .inl (E.2.1, 16, .inl ((forM fW f g i).2))), (b, .inl (E.2.1, 16, .inl ((forM fW f g i).1)))] → va_S A s.heap H locs → lv_has ls 3 [(2, .int (nI (i + 1))), (0, .ref oK), (1, .ref b)] → W p l e R s m args below meth c H locs cells slots Q (F0 m 11 ls []) := by
  have hx := B.1
  have hb := B.2.1
  intro fu
  induction fu with
  | zero =>
    intro i h1 h2
    exact absurd h2 (by omega)
  | succ fu ih =>
    intro i hi hin H locs ls hP hD hS hl
    refine lv_iload_n hx hb dX0_goForth_11 rfl (lv_at hl 0 rfl) ?_
    refine lv_bipush (v := 10) hx hb dX0_goForth_12 (by decide) ?_
    refine lv_icmp_gt (tgt := 50) hx hb dX0_goForth_14 (by decide) (fun c_14 => ?_) (fun c_14 => ?_)
    · have hj : i = 10 := by have := lt_t (a := 10) c_14 (by omega) (by omega); omega
      subst hj
      exact kk _ _ _ hP hD hS hl
    · have hj : i < 10 := by have := lt_f (a := 10) c_14 (by omega) (by omega); omega
      refine lv_aload_n hx hb dX0_goForth_17 rfl (lv_at hl 1 rfl) ?_
      refine lv_aload_n hx hb dX0_goForth_18 rfl (lv_at hl 2 rfl) ?_
      refine x_Vv (wr := [(aW, .inl (E.2.1, 176, .inl fW))]) (isC := [0, 2, 3]) (isR := [1]) (As := [.ref b]) B (c_X0_replaceAndMove l E oK aB aW aF aG aV b ((forM fW f g i).1) ((forM fW f g i).2) mde ((forM_by hW hF hG i (by omega)).1)) k_X0_replaceAndMove g_163 s_X0_replaceAndMove ⟨Nat.le_trans (by decide) hR.1, Nat.le_trans (by decide) hR.2, rfl, rfl⟩ rfl 0 rfl hP hD hS ⟨rfl, rfl, rfl, rfl, by decide⟩ rfl hl.1 rfl (Nat.le_of_ble_eq_true rfl) dX0_goForth_19 hf (fun H locs hP hD hS => ?_)
      have hP : va_P E.1 classes [(aW, .inl (E.2.1, 176, .inl fW)), (oK, .inr (0, [.ref aB, .ref aW, .ref aF, .ref aG, .ref aV, .int mde])), (aV, .inl (E.2.1, 16, .inl (subM ((forM fW f g i).1) ((forM fW f g i).2) 16))), (b, .inl (E.2.1, 16, .inl (va_cpy (subM ((forM fW f g i).1) ((forM fW f g i).2) 16) ((forM fW f g i).1) 0 0 16)))] _ := hP
      have hD : va_D A [(aW, .inl (E.2.1, 176, .inl fW)), (oK, .inr (0, [.ref aB, .ref aW, .ref aF, .ref aG, .ref aV, .int mde])), (aV, .inl (E.2.1, 16, .inl (subM ((forM fW f g i).1) ((forM fW f g i).2) 16))), (b, .inl (E.2.1, 16, .inl (va_cpy (subM ((forM fW f g i).1) ((forM fW f g i).2) 16) ((forM fW f g i).1) 0 0 16)))] := hD
      refine lv_iload_n hx hb dX0_goForth_22 rfl (lv_at hl 0 rfl) ?_
      refine lv_bipush (v := 10) hx hb dX0_goForth_23 (by decide) ?_
      refine lv_icmp_ge (tgt := 32) hx hb dX0_goForth_25 (by decide) (fun c_25 => ?_) (fun c_25 => ?_)
      · refine lv_aload_n hx hb dX0_goForth_32 rfl (lv_at hl 2 rfl) ?_
        refine lv_aload_n hx hb dX0_goForth_33 rfl (lv_at hl 1 rfl) ?_
        refine x_get B hP 1 rfl rfl i_X0 1 (by decide) g_22 rfl dX0_goForth_34 ?_
        refine lv_bipush (v := 16) hx hb dX0_goForth_37 (by decide) ?_
        refine lv_iload_n hx hb dX0_goForth_39 rfl (lv_at hl 0 rfl) ?_
        refine lv_imul hx hb dX0_goForth_40 ?_
        refine x_SNv (wr := [(oK, .inr (0, [.ref aB, .ref aW, .ref aF, .ref aG, .ref aV, .int mde])), (aV, .inl (E.2.1, 16, .inl (subM ((forM fW f g i).1) ((forM fW f g i).2) 16)))]) (isC := [3, 0]) (isR := [1, 2]) (As := [.ref b, .ref aW, .int (16 * (nI (i + 1)))]) B (c_X2_xor l E b aW 176 (16 * (i + 1)) (va_cpy (subM ((forM fW f g i).1) ((forM fW f g i).2) 16) ((forM fW f g i).1) 0 0 16) fW (16 * (nI (i + 1))) (na_mul rfl rfl) (by omega) (by decide)) k_X2_xor n_160 s_X2_xor ⟨Nat.le_trans (by decide) hR.1, Nat.le_trans (by decide) hR.2, rfl, rfl⟩ hP hD hS ⟨rfl, rfl, rfl, rfl, by decide⟩ rfl hl.1 rfl (Nat.le_of_ble_eq_true rfl) dX0_goForth_41 hf (fun H locs hP hD hS => ?_)
        have hP : va_P E.1 classes [(oK, .inr (0, [.ref aB, .ref aW, .ref aF, .ref aG, .ref aV, .int mde])), (aV, .inl (E.2.1, 16, .inl (subM ((forM fW f g i).1) ((forM fW f g i).2) 16))), (b, .inl (E.2.1, 16, .inl (xorM fW (16 * (i + 1)) (va_cpy (subM ((forM fW f g i).1) ((forM fW f g i).2) 16) ((forM fW f g i).1) 0 0 16) 16))), (aW, .inl (E.2.1, 176, .inl fW))] _ := hP
        have hD : va_D A [(oK, .inr (0, [.ref aB, .ref aW, .ref aF, .ref aG, .ref aV, .int mde])), (aV, .inl (E.2.1, 16, .inl (subM ((forM fW f g i).1) ((forM fW f g i).2) 16))), (b, .inl (E.2.1, 16, .inl (xorM fW (16 * (i + 1)) (va_cpy (subM ((forM fW f g i).1) ((forM fW f g i).2) 16) ((forM fW f g i).1) 0 0 16) 16))), (aW, .inl (E.2.1, 176, .inl fW))] := hD
        refine lv_iinc (v := (nI ((i + 1) + 1))) (lv' := [(2, .int (nI ((i + 1) + 1))), (0, .ref oK), (1, .ref b)]) hx hb dX0_goForth_44 hl (k := 0) rfl (ii_1 (i + 1)) (by decide) rfl (fun ls hl => ?_)
        refine lv_goto (tgt := 11) hx hb dX0_goForth_47 (by decide) ?_
        have hk : ¬ i + 1 < 10 := by have := ge_t (b := 10) c_25 (by omega) (by omega); omega
        have eF : forM fW f g (i + 1) = (xorM fW (16 * (i + 1)) (va_cpy (subM (forM fW f g i).1 (forM fW f g i).2 16) (forM fW f g i).1 0 0 16) 16, subM (forM fW f g i).1 (forM fW f g i).2 16) := by
          show (xorM fW (16 * (i + 1)) (if i + 1 < 10 then _ else _) 16, _) = _
          rw [if_neg hk]
        have hP := hP.sub (ws' := [(oK, .inr (0, [.ref aB, .ref aW, .ref aF, .ref aG, .ref aV, .int mde])), (aW, .inl (E.2.1, 176, .inl fW)), (aV, .inl (E.2.1, 16, .inl (subM ((forM fW f g i).1) ((forM fW f g i).2) 16))), (b, .inl (E.2.1, 16, .inl (xorM fW (16 * (i + 1)) (va_cpy (subM ((forM fW f g i).1) ((forM fW f g i).2) 16) ((forM fW f g i).1) 0 0 16) 16)))]) [0, 3, 1, 2] rfl
        have hD := hD.sub (ws' := [(oK, .inr (0, [.ref aB, .ref aW, .ref aF, .ref aG, .ref aV, .int mde])), (aW, .inl (E.2.1, 176, .inl fW)), (aV, .inl (E.2.1, 16, .inl (subM ((forM fW f g i).1) ((forM fW f g i).2) 16))), (b, .inl (E.2.1, 16, .inl (xorM fW (16 * (i + 1)) (va_cpy (subM ((forM fW f g i).1) ((forM fW f g i).2) 16) ((forM fW f g i).1) 0 0 16) 16)))]) [0, 3, 1, 2] (by decide) rfl
        have hP : va_P E.1 classes [(oK, .inr (0, [.ref aB, .ref aW, .ref aF, .ref aG, .ref aV, .int mde])), (aW, .inl (E.2.1, 176, .inl fW)), (aV, .inl (E.2.1, 16, .inl ((forM fW f g (i + 1)).2))), (b, .inl (E.2.1, 16, .inl ((forM fW f g (i + 1)).1)))] _ := (by rw [eF]; exact hP)
        have hD : va_D A [(oK, .inr (0, [.ref aB, .ref aW, .ref aF, .ref aG, .ref aV, .int mde])), (aW, .inl (E.2.1, 176, .inl fW)), (aV, .inl (E.2.1, 16, .inl ((forM fW f g (i + 1)).2))), (b, .inl (E.2.1, 16, .inl ((forM fW f g (i + 1)).1)))] := (by rw [eF]; exact hD)
        exact ih (i + 1) (by omega) (by omega) _ _ _ hP hD hS (lv_sub hl [0, 1, 2] rfl)
      · refine lv_aload_n hx hb dX0_goForth_28 rfl (lv_at hl 2 rfl) ?_
        refine x_Sv (wr := [(aW, .inl (E.2.1, 176, .inl fW)), (oK, .inr (0, [.ref aB, .ref aW, .ref aF, .ref aG, .ref aV, .int mde])), (aV, .inl (E.2.1, 16, .inl (subM ((forM fW f g i).1) ((forM fW f g i).2) 16)))]) (isC := [3]) (isR := [0, 1, 2]) (As := [.ref b]) B (c_X0_mix l E b (va_cpy (subM ((forM fW f g i).1) ((forM fW f g i).2) 16) ((forM fW f g i).1) 0 0 16) (By.cpy (N := 16) (by decide) (subM_by ((forM_by hW hF hG i (by omega)).1) ((forM_by hW hF hG i (by omega)).2) 16 (by decide)) ((forM_by hW hF hG i (by omega)).1))) k_X0_mix g_170 s_X0_mix ⟨Nat.le_trans (by decide) hR.1, Nat.le_trans (by decide) hR.2, rfl, rfl⟩ hP hD hS ⟨rfl, rfl, rfl, rfl, by decide⟩ rfl hl.1 rfl (Nat.le_of_ble_eq_true rfl) dX0_goForth_29 hf (fun H locs hP hD hS => ?_)
        have hP : va_P E.1 classes [(aW, .inl (E.2.1, 176, .inl fW)), (oK, .inr (0, [.ref aB, .ref aW, .ref aF, .ref aG, .ref aV, .int mde])), (aV, .inl (E.2.1, 16, .inl (subM ((forM fW f g i).1) ((forM fW f g i).2) 16))), (b, .inl (E.2.1, 16, .inl (mixW (va_cpy (subM ((forM fW f g i).1) ((forM fW f g i).2) 16) ((forM fW f g i).1) 0 0 16))))] _ := hP
        have hD : va_D A [(aW, .inl (E.2.1, 176, .inl fW)), (oK, .inr (0, [.ref aB, .ref aW, .ref aF, .ref aG, .ref aV, .int mde])), (aV, .inl (E.2.1, 16, .inl (subM ((forM fW f g i).1) ((forM fW f g i).2) 16))), (b, .inl (E.2.1, 16, .inl (mixW (va_cpy (subM ((forM fW f g i).1) ((forM fW f g i).2) 16) ((forM fW f g i).1) 0 0 16))))] := hD
        refine lv_aload_n hx hb dX0_goForth_32 rfl (lv_at hl 2 rfl) ?_
        refine lv_aload_n hx hb dX0_goForth_33 rfl (lv_at hl 1 rfl) ?_
        refine x_get B hP 1 rfl rfl i_X0 1 (by decide) g_22 rfl dX0_goForth_34 ?_
        refine lv_bipush (v := 16) hx hb dX0_goForth_37 (by decide) ?_
        refine lv_iload_n hx hb dX0_goForth_39 rfl (lv_at hl 0 rfl) ?_
        refine lv_imul hx hb dX0_goForth_40 ?_
        refine x_SNv (wr := [(oK, .inr (0, [.ref aB, .ref aW, .ref aF, .ref aG, .ref aV, .int mde])), (aV, .inl (E.2.1, 16, .inl (subM ((forM fW f g i).1) ((forM fW f g i).2) 16)))]) (isC := [3, 0]) (isR := [1, 2]) (As := [.ref b, .ref aW, .int (16 * (nI (i + 1)))]) B (c_X2_xor l E b aW 176 (16 * (i + 1)) (mixW (va_cpy (subM ((forM fW f g i).1) ((forM fW f g i).2) 16) ((forM fW f g i).1) 0 0 16)) fW (16 * (nI (i + 1))) (na_mul rfl rfl) (by omega) (by decide)) k_X2_xor n_160 s_X2_xor ⟨Nat.le_trans (by decide) hR.1, Nat.le_trans (by decide) hR.2, rfl, rfl⟩ hP hD hS ⟨rfl, rfl, rfl, rfl, by decide⟩ rfl hl.1 rfl (Nat.le_of_ble_eq_true rfl) dX0_goForth_41 hf (fun H locs hP hD hS => ?_)
        have hP : va_P E.1 classes [(oK, .inr (0, [.ref aB, .ref aW, .ref aF, .ref aG, .ref aV, .int mde])), (aV, .inl (E.2.1, 16, .inl (subM ((forM fW f g i).1) ((forM fW f g i).2) 16))), (b, .inl (E.2.1, 16, .inl (xorM fW (16 * (i + 1)) (mixW (va_cpy (subM ((forM fW f g i).1) ((forM fW f g i).2) 16) ((forM fW f g i).1) 0 0 16)) 16))), (aW, .inl (E.2.1, 176, .inl fW))] _ := hP
        have hD : va_D A [(oK, .inr (0, [.ref aB, .ref aW, .ref aF, .ref aG, .ref aV, .int mde])), (aV, .inl (E.2.1, 16, .inl (subM ((forM fW f g i).1) ((forM fW f g i).2) 16))), (b, .inl (E.2.1, 16, .inl (xorM fW (16 * (i + 1)) (mixW (va_cpy (subM ((forM fW f g i).1) ((forM fW f g i).2) 16) ((forM fW f g i).1) 0 0 16)) 16))), (aW, .inl (E.2.1, 176, .inl fW))] := hD
        refine lv_iinc (v := (nI ((i + 1) + 1))) (lv' := [(2, .int (nI ((i + 1) + 1))), (0, .ref oK), (1, .ref b)]) hx hb dX0_goForth_44 hl (k := 0) rfl (ii_1 (i + 1)) (by decide) rfl (fun ls hl => ?_)
        refine lv_goto (tgt := 11) hx hb dX0_goForth_47 (by decide) ?_
        have hk : i + 1 < 10 := by have := ge_f (b := 10) c_25 (by omega) (by omega); omega
        have eF : forM fW f g (i + 1) = (xorM fW (16 * (i + 1)) (mixW (va_cpy (subM (forM fW f g i).1 (forM fW f g i).2 16) (forM fW f g i).1 0 0 16)) 16, subM (forM fW f g i).1 (forM fW f g i).2 16) := by
          show (xorM fW (16 * (i + 1)) (if i + 1 < 10 then _ else _) 16, _) = _
          rw [if_pos hk]
        have hP := hP.sub (ws' := [(oK, .inr (0, [.ref aB, .ref aW, .ref aF, .ref aG, .ref aV, .int mde])), (aW, .inl (E.2.1, 176, .inl fW)), (aV, .inl (E.2.1, 16, .inl (subM ((forM fW f g i).1) ((forM fW f g i).2) 16))), (b, .inl (E.2.1, 16, .inl (xorM fW (16 * (i + 1)) (mixW (va_cpy (subM ((forM fW f g i).1) ((forM fW f g i).2) 16) ((forM fW f g i).1) 0 0 16)) 16)))]) [0, 3, 1, 2] rfl
        have hD := hD.sub (ws' := [(oK, .inr (0, [.ref aB, .ref aW, .ref aF, .ref aG, .ref aV, .int mde])), (aW, .inl (E.2.1, 176, .inl fW)), (aV, .inl (E.2.1, 16, .inl (subM ((forM fW f g i).1) ((forM fW f g i).2) 16))), (b, .inl (E.2.1, 16, .inl (xorM fW (16 * (i + 1)) (mixW (va_cpy (subM ((forM fW f g i).1) ((forM fW f g i).2) 16) ((forM fW f g i).1) 0 0 16)) 16)))]) [0, 3, 1, 2] (by decide) rfl
        have hP : va_P E.1 classes [(oK, .inr (0, [.ref aB, .ref aW, .ref aF, .ref aG, .ref aV, .int mde])), (aW, .inl (E.2.1, 176, .inl fW)), (aV, .inl (E.2.1, 16, .inl ((forM fW f g (i + 1)).2))), (b, .inl (E.2.1, 16, .inl ((forM fW f g (i + 1)).1)))] _ := (by rw [eF]; exact hP)
        have hD : va_D A [(oK, .inr (0, [.ref aB, .ref aW, .ref aF, .ref aG, .ref aV, .int mde])), (aW, .inl (E.2.1, 176, .inl fW)), (aV, .inl (E.2.1, 16, .inl ((forM fW f g (i + 1)).2))), (b, .inl (E.2.1, 16, .inl ((forM fW f g (i + 1)).1)))] := (by rw [eF]; exact hD)
        exact ih (i + 1) (by omega) (by omega) _ _ _ hP hD hS (lv_sub hl [0, 1, 2] rfl)
set_option maxHeartbeats 4000000 in
set_option maxRecDepth 100000 in
/-- goForth -/
theorem c_X0_goForth (l : Launch) (E : EE) (oK aB aW aF aG aV b : Nat) (fW f g : Nat → Int32) (mde : Int32) (hW : ∀ i, i < 176 → By (fW i)) (hF : ∀ i, i < 16 → By (f i)) (hG : ∀ i, i < 16 → By (g i)) : Cv l yX0_goForth (.code yX0_goForth cX0_goForth 3 none) ({ frames := 3, cells := 0, slots := 0, locals := 82 }) E [.ref oK, .ref b] [(oK, .inr (0, [.ref aB, .ref aW, .ref aF, .ref aG, .ref aV, .int mde])), (aW, .inl (E.2.1, 176, .inl fW)), (aV, .inl (E.2.1, 16, .inl g)), (b, .inl (E.2.1, 16, .inl f))] [(oK, .inr (0, [.ref aB, .ref aW, .ref aF, .ref aG, .ref aV, .int mde])), (aW, .inl (E.2.1, 176, .inl fW)), (aV, .inl (E.2.1, 16, .inl ((forM fW f g 10).2))), (b, .inl (E.2.1, 16, .inl ((forM fW f g 10).1)))] := by
  refine Cv.of (by decide) (Nat.le_of_ble_eq_true rfl) ?_
  intro p e s m below meth c A ls B hP hD hS hl
  have hl : lv_has ls 3 [(0, .ref oK), (1, .ref b)] := hl
  have B : Bd p s m _ meth c cX0_goForth 3 none RX0 E A := B
  have hx := B.1
  have hb := B.2.1
  have hP : va_P E.1 classes [(oK, .inr (0, [.ref aB, .ref aW, .ref aF, .ref aG, .ref aV, .int mde])), (aW, .inl (E.2.1, 176, .inl fW)), (aV, .inl (E.2.1, 16, .inl g)), (b, .inl (E.2.1, 16, .inl f))] _ := hP
  have hD : va_D A [(oK, .inr (0, [.ref aB, .ref aW, .ref aF, .ref aG, .ref aV, .int mde])), (aW, .inl (E.2.1, 176, .inl fW)), (aV, .inl (E.2.1, 16, .inl g)), (b, .inl (E.2.1, 16, .inl f))] := hD
  refine lv_aload_n hx hb dX0_goForth_0 rfl (lv_at hl 1 rfl) ?_
  refine lv_aload_n hx hb dX0_goForth_1 rfl (lv_at hl 0 rfl) ?_
  refine x_get B hP 0 rfl rfl i_X0 1 (by decide) g_22 rfl dX0_goForth_2 ?_
  refine lv_iconst (v := 0) hx hb dX0_goForth_5 (by decide) ?_
  refine x_SNv (wr := [(oK, .inr (0, [.ref aB, .ref aW, .ref aF, .ref aG, .ref aV, .int mde])), (aV, .inl (E.2.1, 16, .inl g))]) (isC := [3, 1]) (isR := [0, 2]) (As := [.ref b, .ref aW, .int 0]) B (c_X2_xor l E b aW 176 0 f fW 0 rfl (by omega) (by decide)) k_X2_xor n_160 s_X2_xor ⟨by decide, by decide, rfl, rfl⟩ hP hD hS ⟨rfl, rfl, rfl, rfl, by decide⟩ rfl hl.1 rfl (Nat.le_of_ble_eq_true rfl) dX0_goForth_6 ⟨by decide, by decide⟩ (fun H locs hP hD hS => ?_)
  have hP : va_P E.1 classes [(oK, .inr (0, [.ref aB, .ref aW, .ref aF, .ref aG, .ref aV, .int mde])), (aV, .inl (E.2.1, 16, .inl g)), (b, .inl (E.2.1, 16, .inl (xorM fW 0 f 16))), (aW, .inl (E.2.1, 176, .inl fW))] _ := hP
  have hD : va_D A [(oK, .inr (0, [.ref aB, .ref aW, .ref aF, .ref aG, .ref aV, .int mde])), (aV, .inl (E.2.1, 16, .inl g)), (b, .inl (E.2.1, 16, .inl (xorM fW 0 f 16))), (aW, .inl (E.2.1, 176, .inl fW))] := hD
  refine lv_iconst (v := 1) hx hb dX0_goForth_9 (by decide) ?_
  refine lv_istore_n (lv' := [(2, .int 1), (0, .ref oK), (1, .ref b)]) hx hb dX0_goForth_10 rfl hl (by decide) rfl (fun ls hl => ?_)
  have hP := hP.sub (ws' := [(oK, .inr (0, [.ref aB, .ref aW, .ref aF, .ref aG, .ref aV, .int mde])), (aW, .inl (E.2.1, 176, .inl fW)), (aV, .inl (E.2.1, 16, .inl g)), (b, .inl (E.2.1, 16, .inl (xorM fW 0 f 16)))]) [0, 3, 1, 2] rfl
  have hD := hD.sub (ws' := [(oK, .inr (0, [.ref aB, .ref aW, .ref aF, .ref aG, .ref aV, .int mde])), (aW, .inl (E.2.1, 176, .inl fW)), (aV, .inl (E.2.1, 16, .inl g)), (b, .inl (E.2.1, 16, .inl (xorM fW 0 f 16)))]) [0, 3, 1, 2] (by decide) rfl
  have hP : va_P E.1 classes [(oK, .inr (0, [.ref aB, .ref aW, .ref aF, .ref aG, .ref aV, .int mde])), (aW, .inl (E.2.1, 176, .inl fW)), (aV, .inl (E.2.1, 16, .inl ((forM fW f g 0).2))), (b, .inl (E.2.1, 16, .inl ((forM fW f g 0).1)))] _ := hP
  have hD : va_D A [(oK, .inr (0, [.ref aB, .ref aW, .ref aF, .ref aG, .ref aV, .int mde])), (aW, .inl (E.2.1, 176, .inl fW)), (aV, .inl (E.2.1, 16, .inl ((forM fW f g 0).2))), (b, .inl (E.2.1, 16, .inl ((forM fW f g 0).1)))] := hD
  refine lp_forth B ⟨by decide, by decide⟩ ⟨by decide, by decide⟩ hW hF hG (fun H locs ls hP hD hS hl => ?_) 11 0 (by omega) (by omega) _ _ _ hP hD hS (lv_sub hl [0, 1, 2] rfl)
  have hP : va_P E.1 classes [(oK, .inr (0, [.ref aB, .ref aW, .ref aF, .ref aG, .ref aV, .int mde])), (aW, .inl (E.2.1, 176, .inl fW)), (aV, .inl (E.2.1, 16, .inl ((forM fW f g 10).2))), (b, .inl (E.2.1, 16, .inl ((forM fW f g 10).1)))] _ := hP
  have hD : va_D A [(oK, .inr (0, [.ref aB, .ref aW, .ref aF, .ref aG, .ref aV, .int mde])), (aW, .inl (E.2.1, 176, .inl fW)), (aV, .inl (E.2.1, 16, .inl ((forM fW f g 10).2))), (b, .inl (E.2.1, 16, .inl ((forM fW f g 10).1)))] := hD
  exact x_vret B hP hD hS dX0_goForth_50
theorem dn_10 {i : Nat} (h : i < 10) : nI (10 - i) + Int32.ofInt (-1) = nI (10 - (i + 1)) := by
  obtain ⟨k, hk⟩ : ∃ k, 10 - i = k + 1 := ⟨10 - (i + 1), by omega⟩
  rw [hk, show 10 - (i + 1) = k by omega]
  exact pk_m1 k
set_option maxHeartbeats 4000000 in
set_option maxRecDepth 100000 in
theorem lp_back {p : Program} {l : Launch} {e : Env} {R : Room} {s : State} {m : MethodId} {args : Array Value} {below : List Frame} {meth : Method} {c : Code} {cells slots : Nat} {Q : State → Prop} {E : EE} {A : Nat → Prop} {oK aB aW aF aG aV b : Nat} {fW f g : Nat → Int32} {mde : Int32} (B : Bd p s m args meth c cX0_goBack 3 none RX0 E A) (hf : cells ≤ R.cells ∧ slots ≤ R.slots) (hR : 4 ≤ R.frames ∧ 88 ≤ R.locals) (hW : ∀ i, i < 176 → By (fW i)) (hF : ∀ i, i < 16 → By (f i)) (hG : ∀ i, i < 16 → By (g i))
    (kk : ∀ (H : Heap) (locs : List Loc) (ls : Array Slot), va_P E.1 classes [(oK, .inr (0, [.ref aB, .ref aW, .ref aF, .ref aG, .ref aV, .int mde])), (aW, .inl (E.2.1, 176, .inl fW)), (aV, .inl (E.2.1, 16, .inl ((bckM fW f g 10).2))), (b, .inl (E.2.1, 16, .inl ((bckM fW f g 10).1)))] H → va_D A [(oK, .inr (0, [.ref aB, .ref aW, .ref aF, .ref aG, .ref aV, .int mde])), (aW, .inl (E.2.1, 176, .inl fW)), (aV, .inl (E.2.1, 16, .inl ((bckM fW f g 10).2))), (b, .inl (E.2.1, 16, .inl ((bckM fW f g 10).1)))] → va_S A s.heap H locs → lv_has ls 3 [(2, .int (nI (10 - 10))), (0, .ref oK), (1, .ref b)] → W p l e R s m args below meth c H locs cells slots Q (F0 m 41 ls [])) :
    ∀ (fu i : Nat), i ≤ 10 → 10 < i + fu → ∀ (H : Heap) (locs : List Loc) (ls : Array Slot), va_P E.1 classes [(oK, .inr (0, [.ref aB, .ref aW, .ref aF, .ref aG, .ref aV, .int mde])), (aW, .inl (E.2.1, 176, .inl fW)), (aV, .inl (E.2.1, 16, .inl ((bckM fW f g i).2))), (b, .inl (E.2.1, 16, .inl ((bckM fW f g i).1)))] H → va_D A [(oK, .inr (0, [.ref aB, .ref aW, .ref aF, .ref aG, .ref aV, .int mde])), (aW, .inl (E.2.1, 176, .inl fW)), (aV, .inl (E.2.1, 16, .inl ((bckM fW f g i).2))), (b, .inl (E.2.1, 16, .inl ((bckM fW f g i).1)))] → va_S A s.heap H locs → lv_has ls 3 [(2, .int (nI (10 - i))), (0, .ref oK), (1, .ref b)] → W p l e R s m args below meth c H locs cells slots Q (F0 m 3 ls []) := by
  have hx := B.1
  have hb := B.2.1
  intro fu
  induction fu with
  | zero =>
    intro i h1 h2
    exact absurd h2 (by omega)
  | succ fu ih =>
    intro i hi hin H locs ls hP hD hS hl
    refine lv_iload_n hx hb dX0_goBack_3 rfl (lv_at hl 0 rfl) ?_
    refine lv_iconst (v := 1) hx hb dX0_goBack_4 (by decide) ?_
    refine lv_icmp_lt (tgt := 41) hx hb dX0_goBack_5 (by decide) (fun c_5 => ?_) (fun c_5 => ?_)
    · have hj : i = 10 := by have := lt_t (b := 1) c_5 (by omega) (by omega); omega
      subst hj
      exact kk _ _ _ hP hD hS hl
    · have hj : i < 10 := by have := lt_f (b := 1) c_5 (by omega) (by omega); omega
      refine lv_aload_n hx hb dX0_goBack_8 rfl (lv_at hl 2 rfl) ?_
      refine lv_aload_n hx hb dX0_goBack_9 rfl (lv_at hl 1 rfl) ?_
      refine x_get B hP 0 rfl rfl i_X0 1 (by decide) g_22 rfl dX0_goBack_10 ?_
      refine lv_bipush (v := 16) hx hb dX0_goBack_13 (by decide) ?_
      refine lv_iload_n hx hb dX0_goBack_15 rfl (lv_at hl 0 rfl) ?_
      refine lv_imul hx hb dX0_goBack_16 ?_
      refine x_SNv (wr := [(oK, .inr (0, [.ref aB, .ref aW, .ref aF, .ref aG, .ref aV, .int mde])), (aV, .inl (E.2.1, 16, .inl ((bckM fW f g i).2)))]) (isC := [3, 1]) (isR := [0, 2]) (As := [.ref b, .ref aW, .int (16 * (nI (10 - i)))]) B (c_X2_xor l E b aW 176 (16 * (10 - i)) ((bckM fW f g i).1) fW (16 * (nI (10 - i))) (na_mul rfl rfl) (by omega) (by decide)) k_X2_xor n_160 s_X2_xor ⟨Nat.le_trans (by decide) hR.1, Nat.le_trans (by decide) hR.2, rfl, rfl⟩ hP hD hS ⟨rfl, rfl, rfl, rfl, by decide⟩ rfl hl.1 rfl (Nat.le_of_ble_eq_true rfl) dX0_goBack_17 hf (fun H locs hP hD hS => ?_)
      have hP : va_P E.1 classes [(oK, .inr (0, [.ref aB, .ref aW, .ref aF, .ref aG, .ref aV, .int mde])), (aV, .inl (E.2.1, 16, .inl ((bckM fW f g i).2))), (b, .inl (E.2.1, 16, .inl (xorM fW (16 * (10 - i)) ((bckM fW f g i).1) 16))), (aW, .inl (E.2.1, 176, .inl fW))] _ := hP
      have hD : va_D A [(oK, .inr (0, [.ref aB, .ref aW, .ref aF, .ref aG, .ref aV, .int mde])), (aV, .inl (E.2.1, 16, .inl ((bckM fW f g i).2))), (b, .inl (E.2.1, 16, .inl (xorM fW (16 * (10 - i)) ((bckM fW f g i).1) 16))), (aW, .inl (E.2.1, 176, .inl fW))] := hD
      refine lv_iload_n hx hb dX0_goBack_20 rfl (lv_at hl 0 rfl) ?_
      refine lv_bipush (v := 10) hx hb dX0_goBack_21 (by decide) ?_
      refine lv_icmp_ge (tgt := 30) hx hb dX0_goBack_23 (by decide) (fun c_23 => ?_) (fun c_23 => ?_)
      · refine lv_aload_n hx hb dX0_goBack_30 rfl (lv_at hl 1 rfl) ?_
        refine lv_aload_n hx hb dX0_goBack_31 rfl (lv_at hl 2 rfl) ?_
        refine x_Vv (wr := [(aW, .inl (E.2.1, 176, .inl fW))]) (isC := [0, 1, 2]) (isR := [3]) (As := [.ref b]) B (c_X0_moveAndReplaceBack l E oK aB aW aF aG aV b (xorM fW (16 * (10 - i)) ((bckM fW f g i).1) 16) ((bckM fW f g i).2) mde (xorM_by hW ((bckM_by hW hF hG i (by omega)).1) 16 (by decide) (by omega))) k_X0_moveAndReplaceBack g_247 s_X0_moveAndReplaceBack ⟨Nat.le_trans (by decide) hR.1, Nat.le_trans (by decide) hR.2, rfl, rfl⟩ rfl 0 rfl hP hD hS ⟨rfl, rfl, rfl, rfl, by decide⟩ rfl hl.1 rfl (Nat.le_of_ble_eq_true rfl) dX0_goBack_32 hf (fun H locs hP hD hS => ?_)
        have hP : va_P E.1 classes [(aW, .inl (E.2.1, 176, .inl fW)), (oK, .inr (0, [.ref aB, .ref aW, .ref aF, .ref aG, .ref aV, .int mde])), (aV, .inl (E.2.1, 16, .inl (unsM (xorM fW (16 * (10 - i)) ((bckM fW f g i).1) 16) ((bckM fW f g i).2) 16))), (b, .inl (E.2.1, 16, .inl (va_cpy (unsM (xorM fW (16 * (10 - i)) ((bckM fW f g i).1) 16) ((bckM fW f g i).2) 16) (xorM fW (16 * (10 - i)) ((bckM fW f g i).1) 16) 0 0 16)))] _ := hP
        have hD : va_D A [(aW, .inl (E.2.1, 176, .inl fW)), (oK, .inr (0, [.ref aB, .ref aW, .ref aF, .ref aG, .ref aV, .int mde])), (aV, .inl (E.2.1, 16, .inl (unsM (xorM fW (16 * (10 - i)) ((bckM fW f g i).1) 16) ((bckM fW f g i).2) 16))), (b, .inl (E.2.1, 16, .inl (va_cpy (unsM (xorM fW (16 * (10 - i)) ((bckM fW f g i).1) 16) ((bckM fW f g i).2) 16) (xorM fW (16 * (10 - i)) ((bckM fW f g i).1) 16) 0 0 16)))] := hD
        refine lv_iinc (v := (nI (10 - (i + 1)))) (lv' := [(2, .int (nI (10 - (i + 1)))), (0, .ref oK), (1, .ref b)]) hx hb dX0_goBack_35 hl (k := 0) rfl (dn_10 hj) (by decide) rfl (fun ls hl => ?_)
        refine lv_goto (tgt := 3) hx hb dX0_goBack_38 (by decide) ?_
        have hk : ¬ 10 - i < 10 := by have := ge_t (b := 10) c_23 (by omega) (by omega); omega
        have eF : bckM fW f g (i + 1) = (va_cpy (unsM (xorM fW (16 * (10 - i)) (bckM fW f g i).1 16) (bckM fW f g i).2 16) (xorM fW (16 * (10 - i)) (bckM fW f g i).1 16) 0 0 16, unsM (xorM fW (16 * (10 - i)) (bckM fW f g i).1 16) (bckM fW f g i).2 16) := by
          show (va_cpy (unsM (if 10 - i < 10 then _ else _) _ 16) (if 10 - i < 10 then _ else _) 0 0 16, unsM (if 10 - i < 10 then _ else _) _ 16) = _
          rw [if_neg hk]
        have hP := hP.sub (ws' := [(oK, .inr (0, [.ref aB, .ref aW, .ref aF, .ref aG, .ref aV, .int mde])), (aW, .inl (E.2.1, 176, .inl fW)), (aV, .inl (E.2.1, 16, .inl (unsM (xorM fW (16 * (10 - i)) ((bckM fW f g i).1) 16) ((bckM fW f g i).2) 16))), (b, .inl (E.2.1, 16, .inl (va_cpy (unsM (xorM fW (16 * (10 - i)) ((bckM fW f g i).1) 16) ((bckM fW f g i).2) 16) (xorM fW (16 * (10 - i)) ((bckM fW f g i).1) 16) 0 0 16)))]) [1, 0, 2, 3] rfl
        have hD := hD.sub (ws' := [(oK, .inr (0, [.ref aB, .ref aW, .ref aF, .ref aG, .ref aV, .int mde])), (aW, .inl (E.2.1, 176, .inl fW)), (aV, .inl (E.2.1, 16, .inl (unsM (xorM fW (16 * (10 - i)) ((bckM fW f g i).1) 16) ((bckM fW f g i).2) 16))), (b, .inl (E.2.1, 16, .inl (va_cpy (unsM (xorM fW (16 * (10 - i)) ((bckM fW f g i).1) 16) ((bckM fW f g i).2) 16) (xorM fW (16 * (10 - i)) ((bckM fW f g i).1) 16) 0 0 16)))]) [1, 0, 2, 3] (by decide) rfl
        have hP : va_P E.1 classes [(oK, .inr (0, [.ref aB, .ref aW, .ref aF, .ref aG, .ref aV, .int mde])), (aW, .inl (E.2.1, 176, .inl fW)), (aV, .inl (E.2.1, 16, .inl ((bckM fW f g (i + 1)).2))), (b, .inl (E.2.1, 16, .inl ((bckM fW f g (i + 1)).1)))] _ := (by rw [eF]; exact hP)
        have hD : va_D A [(oK, .inr (0, [.ref aB, .ref aW, .ref aF, .ref aG, .ref aV, .int mde])), (aW, .inl (E.2.1, 176, .inl fW)), (aV, .inl (E.2.1, 16, .inl ((bckM fW f g (i + 1)).2))), (b, .inl (E.2.1, 16, .inl ((bckM fW f g (i + 1)).1)))] := (by rw [eF]; exact hD)
        exact ih (i + 1) (by omega) (by omega) _ _ _ hP hD hS (lv_sub hl [0, 1, 2] rfl)
      · refine lv_aload_n hx hb dX0_goBack_26 rfl (lv_at hl 2 rfl) ?_
        refine x_Sv (wr := [(oK, .inr (0, [.ref aB, .ref aW, .ref aF, .ref aG, .ref aV, .int mde])), (aV, .inl (E.2.1, 16, .inl ((bckM fW f g i).2))), (aW, .inl (E.2.1, 176, .inl fW))]) (isC := [2]) (isR := [0, 1, 3]) (As := [.ref b]) B (c_X0_unmix l E b (xorM fW (16 * (10 - i)) ((bckM fW f g i).1) 16) (xorM_by hW ((bckM_by hW hF hG i (by omega)).1) 16 (by decide) (by omega))) k_X0_unmix g_244 s_X0_unmix ⟨Nat.le_trans (by decide) hR.1, Nat.le_trans (by decide) hR.2, rfl, rfl⟩ hP hD hS ⟨rfl, rfl, rfl, rfl, by decide⟩ rfl hl.1 rfl (Nat.le_of_ble_eq_true rfl) dX0_goBack_27 hf (fun H locs hP hD hS => ?_)
        have hP : va_P E.1 classes [(oK, .inr (0, [.ref aB, .ref aW, .ref aF, .ref aG, .ref aV, .int mde])), (aV, .inl (E.2.1, 16, .inl ((bckM fW f g i).2))), (aW, .inl (E.2.1, 176, .inl fW)), (b, .inl (E.2.1, 16, .inl (mixW (mixW (mixW (xorM fW (16 * (10 - i)) ((bckM fW f g i).1) 16))))))] _ := hP
        have hD : va_D A [(oK, .inr (0, [.ref aB, .ref aW, .ref aF, .ref aG, .ref aV, .int mde])), (aV, .inl (E.2.1, 16, .inl ((bckM fW f g i).2))), (aW, .inl (E.2.1, 176, .inl fW)), (b, .inl (E.2.1, 16, .inl (mixW (mixW (mixW (xorM fW (16 * (10 - i)) ((bckM fW f g i).1) 16))))))] := hD
        refine lv_aload_n hx hb dX0_goBack_30 rfl (lv_at hl 1 rfl) ?_
        refine lv_aload_n hx hb dX0_goBack_31 rfl (lv_at hl 2 rfl) ?_
        refine x_Vv (wr := [(aW, .inl (E.2.1, 176, .inl fW))]) (isC := [0, 1, 3]) (isR := [2]) (As := [.ref b]) B (c_X0_moveAndReplaceBack l E oK aB aW aF aG aV b (mixW (mixW (mixW (xorM fW (16 * (10 - i)) ((bckM fW f g i).1) 16)))) ((bckM fW f g i).2) mde (mixM_by (mixM_by (mixM_by (xorM_by hW ((bckM_by hW hF hG i (by omega)).1) 16 (by decide) (by omega)) 4 (by decide)) 4 (by decide)) 4 (by decide))) k_X0_moveAndReplaceBack g_247 s_X0_moveAndReplaceBack ⟨Nat.le_trans (by decide) hR.1, Nat.le_trans (by decide) hR.2, rfl, rfl⟩ rfl 0 rfl hP hD hS ⟨rfl, rfl, rfl, rfl, by decide⟩ rfl hl.1 rfl (Nat.le_of_ble_eq_true rfl) dX0_goBack_32 hf (fun H locs hP hD hS => ?_)
        have hP : va_P E.1 classes [(aW, .inl (E.2.1, 176, .inl fW)), (oK, .inr (0, [.ref aB, .ref aW, .ref aF, .ref aG, .ref aV, .int mde])), (aV, .inl (E.2.1, 16, .inl (unsM (mixW (mixW (mixW (xorM fW (16 * (10 - i)) ((bckM fW f g i).1) 16)))) ((bckM fW f g i).2) 16))), (b, .inl (E.2.1, 16, .inl (va_cpy (unsM (mixW (mixW (mixW (xorM fW (16 * (10 - i)) ((bckM fW f g i).1) 16)))) ((bckM fW f g i).2) 16) (mixW (mixW (mixW (xorM fW (16 * (10 - i)) ((bckM fW f g i).1) 16)))) 0 0 16)))] _ := hP
        have hD : va_D A [(aW, .inl (E.2.1, 176, .inl fW)), (oK, .inr (0, [.ref aB, .ref aW, .ref aF, .ref aG, .ref aV, .int mde])), (aV, .inl (E.2.1, 16, .inl (unsM (mixW (mixW (mixW (xorM fW (16 * (10 - i)) ((bckM fW f g i).1) 16)))) ((bckM fW f g i).2) 16))), (b, .inl (E.2.1, 16, .inl (va_cpy (unsM (mixW (mixW (mixW (xorM fW (16 * (10 - i)) ((bckM fW f g i).1) 16)))) ((bckM fW f g i).2) 16) (mixW (mixW (mixW (xorM fW (16 * (10 - i)) ((bckM fW f g i).1) 16)))) 0 0 16)))] := hD
        refine lv_iinc (v := (nI (10 - (i + 1)))) (lv' := [(2, .int (nI (10 - (i + 1)))), (0, .ref oK), (1, .ref b)]) hx hb dX0_goBack_35 hl (k := 0) rfl (dn_10 hj) (by decide) rfl (fun ls hl => ?_)
        refine lv_goto (tgt := 3) hx hb dX0_goBack_38 (by decide) ?_
        have hk : 10 - i < 10 := by have := ge_f (b := 10) c_23 (by omega) (by omega); omega
        have eF : bckM fW f g (i + 1) = (va_cpy (unsM (mixW (mixW (mixW (xorM fW (16 * (10 - i)) (bckM fW f g i).1 16)))) (bckM fW f g i).2 16) (mixW (mixW (mixW (xorM fW (16 * (10 - i)) (bckM fW f g i).1 16)))) 0 0 16, unsM (mixW (mixW (mixW (xorM fW (16 * (10 - i)) (bckM fW f g i).1 16)))) (bckM fW f g i).2 16) := by
          show (va_cpy (unsM (if 10 - i < 10 then _ else _) _ 16) (if 10 - i < 10 then _ else _) 0 0 16, unsM (if 10 - i < 10 then _ else _) _ 16) = _
          rw [if_pos hk]
        have hP := hP.sub (ws' := [(oK, .inr (0, [.ref aB, .ref aW, .ref aF, .ref aG, .ref aV, .int mde])), (aW, .inl (E.2.1, 176, .inl fW)), (aV, .inl (E.2.1, 16, .inl (unsM (mixW (mixW (mixW (xorM fW (16 * (10 - i)) ((bckM fW f g i).1) 16)))) ((bckM fW f g i).2) 16))), (b, .inl (E.2.1, 16, .inl (va_cpy (unsM (mixW (mixW (mixW (xorM fW (16 * (10 - i)) ((bckM fW f g i).1) 16)))) ((bckM fW f g i).2) 16) (mixW (mixW (mixW (xorM fW (16 * (10 - i)) ((bckM fW f g i).1) 16)))) 0 0 16)))]) [1, 0, 2, 3] rfl
        have hD := hD.sub (ws' := [(oK, .inr (0, [.ref aB, .ref aW, .ref aF, .ref aG, .ref aV, .int mde])), (aW, .inl (E.2.1, 176, .inl fW)), (aV, .inl (E.2.1, 16, .inl (unsM (mixW (mixW (mixW (xorM fW (16 * (10 - i)) ((bckM fW f g i).1) 16)))) ((bckM fW f g i).2) 16))), (b, .inl (E.2.1, 16, .inl (va_cpy (unsM (mixW (mixW (mixW (xorM fW (16 * (10 - i)) ((bckM fW f g i).1) 16)))) ((bckM fW f g i).2) 16) (mixW (mixW (mixW (xorM fW (16 * (10 - i)) ((bckM fW f g i).1) 16)))) 0 0 16)))]) [1, 0, 2, 3] (by decide) rfl
        have hP : va_P E.1 classes [(oK, .inr (0, [.ref aB, .ref aW, .ref aF, .ref aG, .ref aV, .int mde])), (aW, .inl (E.2.1, 176, .inl fW)), (aV, .inl (E.2.1, 16, .inl ((bckM fW f g (i + 1)).2))), (b, .inl (E.2.1, 16, .inl ((bckM fW f g (i + 1)).1)))] _ := (by rw [eF]; exact hP)
        have hD : va_D A [(oK, .inr (0, [.ref aB, .ref aW, .ref aF, .ref aG, .ref aV, .int mde])), (aW, .inl (E.2.1, 176, .inl fW)), (aV, .inl (E.2.1, 16, .inl ((bckM fW f g (i + 1)).2))), (b, .inl (E.2.1, 16, .inl ((bckM fW f g (i + 1)).1)))] := (by rw [eF]; exact hD)
        exact ih (i + 1) (by omega) (by omega) _ _ _ hP hD hS (lv_sub hl [0, 1, 2] rfl)
set_option maxHeartbeats 4000000 in
set_option maxRecDepth 100000 in
/-- goBack -/
theorem c_X0_goBack (l : Launch) (E : EE) (oK aB aW aF aG aV b : Nat) (fW f g : Nat → Int32) (mde : Int32) (hW : ∀ i, i < 176 → By (fW i)) (hF : ∀ i, i < 16 → By (f i)) (hG : ∀ i, i < 16 → By (g i)) : Cv l yX0_goBack (.code yX0_goBack cX0_goBack 3 none) ({ frames := 4, cells := 0, slots := 0, locals := 88 }) E [.ref oK, .ref b] [(oK, .inr (0, [.ref aB, .ref aW, .ref aF, .ref aG, .ref aV, .int mde])), (aW, .inl (E.2.1, 176, .inl fW)), (aV, .inl (E.2.1, 16, .inl g)), (b, .inl (E.2.1, 16, .inl f))] [(oK, .inr (0, [.ref aB, .ref aW, .ref aF, .ref aG, .ref aV, .int mde])), (aW, .inl (E.2.1, 176, .inl fW)), (aV, .inl (E.2.1, 16, .inl ((bckM fW f g 10).2))), (b, .inl (E.2.1, 16, .inl (bckW fW f g)))] := by
  refine Cv.of (by decide) (Nat.le_of_ble_eq_true rfl) ?_
  intro p e s m below meth c A ls B hP hD hS hl
  have hl : lv_has ls 3 [(0, .ref oK), (1, .ref b)] := hl
  have B : Bd p s m _ meth c cX0_goBack 3 none RX0 E A := B
  have hx := B.1
  have hb := B.2.1
  have hP : va_P E.1 classes [(oK, .inr (0, [.ref aB, .ref aW, .ref aF, .ref aG, .ref aV, .int mde])), (aW, .inl (E.2.1, 176, .inl fW)), (aV, .inl (E.2.1, 16, .inl g)), (b, .inl (E.2.1, 16, .inl f))] _ := hP
  have hD : va_D A [(oK, .inr (0, [.ref aB, .ref aW, .ref aF, .ref aG, .ref aV, .int mde])), (aW, .inl (E.2.1, 176, .inl fW)), (aV, .inl (E.2.1, 16, .inl g)), (b, .inl (E.2.1, 16, .inl f))] := hD
  refine lv_bipush (v := 10) hx hb dX0_goBack_0 (by decide) ?_
  refine lv_istore_n (lv' := [(2, .int 10), (0, .ref oK), (1, .ref b)]) hx hb dX0_goBack_2 rfl hl (by decide) rfl (fun ls hl => ?_)
  have hP : va_P E.1 classes [(oK, .inr (0, [.ref aB, .ref aW, .ref aF, .ref aG, .ref aV, .int mde])), (aW, .inl (E.2.1, 176, .inl fW)), (aV, .inl (E.2.1, 16, .inl ((bckM fW f g 0).2))), (b, .inl (E.2.1, 16, .inl ((bckM fW f g 0).1)))] _ := hP
  have hD : va_D A [(oK, .inr (0, [.ref aB, .ref aW, .ref aF, .ref aG, .ref aV, .int mde])), (aW, .inl (E.2.1, 176, .inl fW)), (aV, .inl (E.2.1, 16, .inl ((bckM fW f g 0).2))), (b, .inl (E.2.1, 16, .inl ((bckM fW f g 0).1)))] := hD
  refine lp_back B ⟨by decide, by decide⟩ ⟨by decide, by decide⟩ hW hF hG (fun H locs ls hP hD hS hl => ?_) 11 0 (by omega) (by omega) _ _ _ hP hD hS (lv_sub hl [0, 1, 2] rfl)
  refine lv_aload_n hx hb dX0_goBack_41 rfl (lv_at hl 2 rfl) ?_
  refine lv_aload_n hx hb dX0_goBack_42 rfl (lv_at hl 1 rfl) ?_
  refine x_get B hP 0 rfl rfl i_X0 1 (by decide) g_22 rfl dX0_goBack_43 ?_
  refine lv_iconst (v := 0) hx hb dX0_goBack_46 (by decide) ?_
  refine x_SNv (wr := [(oK, .inr (0, [.ref aB, .ref aW, .ref aF, .ref aG, .ref aV, .int mde])), (aV, .inl (E.2.1, 16, .inl ((bckM fW f g 10).2)))]) (isC := [3, 1]) (isR := [0, 2]) (As := [.ref b, .ref aW, .int 0]) B (c_X2_xor l E b aW 176 0 ((bckM fW f g 10).1) fW 0 rfl (by omega) (by decide)) k_X2_xor n_160 s_X2_xor ⟨by decide, by decide, rfl, rfl⟩ hP hD hS ⟨rfl, rfl, rfl, rfl, by decide⟩ rfl hl.1 rfl (Nat.le_of_ble_eq_true rfl) dX0_goBack_47 ⟨by decide, by decide⟩ (fun H locs hP hD hS => ?_)
  have hP : va_P E.1 classes [(oK, .inr (0, [.ref aB, .ref aW, .ref aF, .ref aG, .ref aV, .int mde])), (aV, .inl (E.2.1, 16, .inl ((bckM fW f g 10).2))), (b, .inl (E.2.1, 16, .inl (xorM fW 0 ((bckM fW f g 10).1) 16))), (aW, .inl (E.2.1, 176, .inl fW))] _ := hP
  have hD : va_D A [(oK, .inr (0, [.ref aB, .ref aW, .ref aF, .ref aG, .ref aV, .int mde])), (aV, .inl (E.2.1, 16, .inl ((bckM fW f g 10).2))), (b, .inl (E.2.1, 16, .inl (xorM fW 0 ((bckM fW f g 10).1) 16))), (aW, .inl (E.2.1, 176, .inl fW))] := hD
  have hP := hP.sub (ws' := [(oK, .inr (0, [.ref aB, .ref aW, .ref aF, .ref aG, .ref aV, .int mde])), (aW, .inl (E.2.1, 176, .inl fW)), (aV, .inl (E.2.1, 16, .inl ((bckM fW f g 10).2))), (b, .inl (E.2.1, 16, .inl (xorM fW 0 ((bckM fW f g 10).1) 16)))]) [0, 3, 1, 2] rfl
  have hD := hD.sub (ws' := [(oK, .inr (0, [.ref aB, .ref aW, .ref aF, .ref aG, .ref aV, .int mde])), (aW, .inl (E.2.1, 176, .inl fW)), (aV, .inl (E.2.1, 16, .inl ((bckM fW f g 10).2))), (b, .inl (E.2.1, 16, .inl (xorM fW 0 ((bckM fW f g 10).1) 16)))]) [0, 3, 1, 2] (by decide) rfl
  have hP : va_P E.1 classes [(oK, .inr (0, [.ref aB, .ref aW, .ref aF, .ref aG, .ref aV, .int mde])), (aW, .inl (E.2.1, 176, .inl fW)), (aV, .inl (E.2.1, 16, .inl ((bckM fW f g 10).2))), (b, .inl (E.2.1, 16, .inl (bckW fW f g)))] _ := hP
  have hD : va_D A [(oK, .inr (0, [.ref aB, .ref aW, .ref aF, .ref aG, .ref aV, .int mde])), (aW, .inl (E.2.1, 176, .inl fW)), (aV, .inl (E.2.1, 16, .inl ((bckM fW f g 10).2))), (b, .inl (E.2.1, 16, .inl (bckW fW f g)))] := hD
  exact x_vret B hP hD hS dX0_goBack_50
