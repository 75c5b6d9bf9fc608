set_option maxHeartbeats 4000000 in
set_option maxRecDepth 100000 in
theorem lp_plain {p : Program} {l : Launch} {e : Env} {R : Room} {s : State} {m : MethodId} {args : Array Value} {below : List Frame} {meth : Method} {c : Code} {cells slots : Nat} {Q : State → Prop} {E : EE} {A : Nat → Prop} {oK aB aW aF aG aV : Nat} {a : Nat} {f : Nat → Int32} {v mde : Int32} (B : Bd p s m args meth c cX0_makePlainWord 3 none RX0 E A) (hf : cells ≤ R.cells ∧ slots ≤ R.slots) (hv : v = nI a) (h16 : 16 ≤ a) (ha : a + 4 ≤ 176)
    (kk : ∀ (H : Heap) (locs : List Loc) (ls : Array Slot), va_P E.1 classes [(oK, .inr (0, [.ref aB, .ref aW, .ref aF, .ref aG, .ref aV, .int mde])), (aW, .inl (E.2.1, 176, .inl (plainM a f 4)))] H → va_D A [(oK, .inr (0, [.ref aB, .ref aW, .ref aF, .ref aG, .ref aV, .int mde])), (aW, .inl (E.2.1, 176, .inl (plainM a f 4)))] → va_S A s.heap H locs → lv_has ls 3 [(2, .int (nI 4)), (0, .ref oK), (1, .int v)] → W p l e R s m args below meth c H locs cells slots Q (F0 m 43 ls [])) :
    ∀ (fu i : Nat), i ≤ 4 → 4 < i + fu → ∀ (H : Heap) (locs : List Loc) (ls : Array Slot), va_P E.1 classes [(oK, .inr (0, [.ref aB, .ref aW, .ref aF, .ref aG, .ref aV, .int mde])), (aW, .inl (E.2.1, 176, .inl (plainM a f i)))] H → va_D A [(oK, .inr (0, [.ref aB, .ref aW, .ref aF, .ref aG, .ref aV, .int mde])), (aW, .inl (E.2.1, 176, .inl (plainM a f i)))] → va_S A s.heap H locs → lv_has ls 3 [(2, .int (nI i)), (0, .ref oK), (1, .int v)] → W p l e R s m args below meth c H locs cells slots Q (F0 m 2 ls []) := by
  have hx := B.1
  have hb := B.2.1
  intro fu
  induction fu with
  | zero =>
    intro i h1 h2
    exact absurd h2 (by omega)
  | succ fu ih =>
    intro i hi hin H locs ls hP hD hS hl
    refine lv_iload_n hx hb dX0_makePlainWord_2 rfl (lv_at hl 0 rfl) ?_
    refine lv_iconst (v := 4) hx hb dX0_makePlainWord_3 (by decide) ?_
    refine lv_icmp_ge (tgt := 43) hx hb dX0_makePlainWord_4 (by decide) (fun c_4 => ?_) (fun c_4 => ?_)
    · have hj : i = 4 := by have := ge_t (b := 4) c_4 (by omega) (by omega); omega
      subst hj
      exact kk _ _ _ hP hD hS hl
    · have hj : i < 4 := by have := ge_f (b := 4) c_4 (by omega) (by omega); omega
      refine lv_aload_n hx hb dX0_makePlainWord_7 rfl (lv_at hl 1 rfl) ?_
      refine x_get B hP 0 rfl rfl i_X0 1 (by decide) g_22 rfl dX0_makePlainWord_8 ?_
      refine lv_iload_n hx hb dX0_makePlainWord_11 rfl (lv_at hl 2 rfl) ?_
      refine lv_iload_n hx hb dX0_makePlainWord_12 rfl (lv_at hl 0 rfl) ?_
      refine lv_iadd hx hb dX0_makePlainWord_13 ?_
      refine lv_aload_n hx hb dX0_makePlainWord_14 rfl (lv_at hl 1 rfl) ?_
      refine x_get B hP 0 rfl rfl i_X0 1 (by decide) g_22 rfl dX0_makePlainWord_15 ?_
      refine lv_iload_n hx hb dX0_makePlainWord_18 rfl (lv_at hl 2 rfl) ?_
      refine lv_bipush (v := 16) hx hb dX0_makePlainWord_19 (by decide) ?_
      refine lv_isub hx hb dX0_makePlainWord_21 ?_
      refine lv_iload_n hx hb dX0_makePlainWord_22 rfl (lv_at hl 0 rfl) ?_
      refine lv_iadd hx hb dX0_makePlainWord_23 ?_
      refine x_ald B hP 1 rfl ((a - 16) + i) (na_add (na_sub hv rfl (by omega)) rfl) (by omega) (by decide) dX0_makePlainWord_24 ?_
      refine lv_aload_n hx hb dX0_makePlainWord_25 rfl (lv_at hl 1 rfl) ?_
      refine x_get B hP 0 rfl rfl i_X0 1 (by decide) g_22 rfl dX0_makePlainWord_26 ?_
      refine lv_iload_n hx hb dX0_makePlainWord_29 rfl (lv_at hl 2 rfl) ?_
      refine lv_iconst (v := 4) hx hb dX0_makePlainWord_30 (by decide) ?_
      refine lv_isub hx hb dX0_makePlainWord_31 ?_
      refine lv_iload_n hx hb dX0_makePlainWord_32 rfl (lv_at hl 0 rfl) ?_
      refine lv_iadd hx hb dX0_makePlainWord_33 ?_
      refine x_ald B hP 1 rfl ((a - 4) + i) (na_add (na_sub hv rfl (by omega)) rfl) (by omega) (by decide) dX0_makePlainWord_34 ?_
      refine lv_ixor hx hb dX0_makePlainWord_35 ?_
      refine x_ast B hP hD hS 1 rfl (a + i) (na_add hv rfl) (by omega) (by decide) dX0_makePlainWord_36 (fun H locs hP hD hS => ?_)
      have hP : va_P E.1 classes [(oK, .inr (0, [.ref aB, .ref aW, .ref aF, .ref aG, .ref aV, .int mde])), (aW, .inl (E.2.1, 176, .inl (upd (plainM a f i) (a + i) (((plainM a f i) ((a - 16) + i)) ^^^ ((plainM a f i) ((a - 4) + i))))))] _ := hP
      have hD : va_D A [(oK, .inr (0, [.ref aB, .ref aW, .ref aF, .ref aG, .ref aV, .int mde])), (aW, .inl (E.2.1, 176, .inl (upd (plainM a f i) (a + i) (((plainM a f i) ((a - 16) + i)) ^^^ ((plainM a f i) ((a - 4) + i))))))] := hD
      refine lv_iinc (v := (nI (i + 1))) (lv' := [(2, .int (nI (i + 1))), (0, .ref oK), (1, .int v)]) hx hb dX0_makePlainWord_37 hl (k := 0) rfl (ii_1 i) (by decide) rfl (fun ls hl => ?_)
      refine lv_goto (tgt := 2) hx hb dX0_makePlainWord_40 (by decide) ?_
      have hP : va_P E.1 classes [(oK, .inr (0, [.ref aB, .ref aW, .ref aF, .ref aG, .ref aV, .int mde])), (aW, .inl (E.2.1, 176, .inl (plainM a f (i + 1))))] _ := hP
      have hD : va_D A [(oK, .inr (0, [.ref aB, .ref aW, .ref aF, .ref aG, .ref aV, .int mde])), (aW, .inl (E.2.1, 176, .inl (plainM a f (i + 1))))] := hD
      exact ih (i + 1) (by omega) (by omega) _ _ _ hP hD hS (lv_sub hl [0, 1, 2] rfl)
set_option maxHeartbeats 4000000 in
set_option maxRecDepth 100000 in
/-- makePlainWord -/
theorem c_X0_makePlainWord (l : Launch) (E : EE) (oK aB aW aF aG aV : Nat) (a : Nat) (f : Nat → Int32) (v mde : Int32) (hv : v = nI a) (h16 : 16 ≤ a) (ha : a + 4 ≤ 176) : Cv l yX0_makePlainWord (.code yX0_makePlainWord cX0_makePlainWord 3 none) ({ frames := 0, cells := 0, slots := 0, locals := 0 }) E [.ref oK, .int v] [(oK, .inr (0, [.ref aB, .ref aW, .ref aF, .ref aG, .ref aV, .int mde])), (aW, .inl (E.2.1, 176, .inl f))] [(oK, .inr (0, [.ref aB, .ref aW, .ref aF, .ref aG, .ref aV, .int mde])), (aW, .inl (E.2.1, 176, .inl (plainM a f 4)))] := by
  refine Cv.of (by decide) (Nat.le_of_ble_eq_true rfl) ?_
  intro p e s m below meth c A ls B hP hD hS hl
  have hl : lv_has ls 3 [(0, .ref oK), (1, .int v)] := hl
  have B : Bd p s m _ meth c cX0_makePlainWord 3 none RX0 E A := B
  have hx := B.1
  have hb := B.2.1
  have hP : va_P E.1 classes [(oK, .inr (0, [.ref aB, .ref aW, .ref aF, .ref aG, .ref aV, .int mde])), (aW, .inl (E.2.1, 176, .inl f))] _ := hP
  have hD : va_D A [(oK, .inr (0, [.ref aB, .ref aW, .ref aF, .ref aG, .ref aV, .int mde])), (aW, .inl (E.2.1, 176, .inl f))] := hD
  refine lv_iconst (v := 0) hx hb dX0_makePlainWord_0 (by decide) ?_
  refine lv_istore_n (lv' := [(2, .int 0), (0, .ref oK), (1, .int v)]) hx hb dX0_makePlainWord_1 rfl hl (by decide) rfl (fun ls hl => ?_)
  have hP : va_P E.1 classes [(oK, .inr (0, [.ref aB, .ref aW, .ref aF, .ref aG, .ref aV, .int mde])), (aW, .inl (E.2.1, 176, .inl (plainM a f 0)))] _ := hP
  have hD : va_D A [(oK, .inr (0, [.ref aB, .ref aW, .ref aF, .ref aG, .ref aV, .int mde])), (aW, .inl (E.2.1, 176, .inl (plainM a f 0)))] := hD
  refine lp_plain B ⟨by decide, by decide⟩ hv h16 ha (fun H locs ls hP hD hS hl => ?_) 5 0 (by omega) (by omega) _ _ _ hP hD hS (lv_sub hl [0, 1, 2] rfl)
  have hP : va_P E.1 classes [(oK, .inr (0, [.ref aB, .ref aW, .ref aF, .ref aG, .ref aV, .int mde])), (aW, .inl (E.2.1, 176, .inl (plainM a f 4)))] _ := hP
  have hD : va_D A [(oK, .inr (0, [.ref aB, .ref aW, .ref aF, .ref aG, .ref aV, .int mde])), (aW, .inl (E.2.1, 176, .inl (plainM a f 4)))] := hD
  exact x_vret B hP hD hS dX0_makePlainWord_43
set_option maxHeartbeats 4000000 in
set_option maxRecDepth 100000 in
theorem lp_turn {p : Program} {l : Launch} {e : Env} {R : Room} {s : State} {m : MethodId} {args : Array Value} {below : List Frame} {meth : Method} {c : Code} {cells slots : Nat} {Q : State → Prop} {E : EE} {A : Nat → Prop} {oK aB aW aF aG aV : Nat} {a : Nat} {f : Nat → Int32} {v pw mde : Int32} (B : Bd p s m args meth c cX0_makeTurnedWord 4 none RX0 E A) (hf : cells ≤ R.cells ∧ slots ≤ R.slots) (hv : v = nI a) (h16 : 16 ≤ a) (ha : a + 4 ≤ 176) (hF : ∀ i, i < 176 → By (f i))
    (kk : ∀ (H : Heap) (locs : List Loc) (ls : Array Slot), va_P E.1 classes [(oK, .inr (0, [.ref aB, .ref aW, .ref aF, .ref aG, .ref aV, .int mde])), (aW, .inl (E.2.1, 176, .inl (turnM a f 4)))] H → va_D A [(oK, .inr (0, [.ref aB, .ref aW, .ref aF, .ref aG, .ref aV, .int mde])), (aW, .inl (E.2.1, 176, .inl (turnM a f 4)))] → va_S A s.heap H locs → lv_has ls 4 [(3, .int (nI 4)), (0, .ref oK), (1, .int v), (2, .int pw)] → W p l e R s m args below meth c H locs cells slots Q (F0 m 51 ls [])) :
    ∀ (fu i : Nat), i ≤ 4 → 4 < i + fu → ∀ (H : Heap) (locs : List Loc) (ls : Array Slot), va_P E.1 classes [(oK, .inr (0, [.ref aB, .ref aW, .ref aF, .ref aG, .ref aV, .int mde])), (aW, .inl (E.2.1, 176, .inl (turnM a f i)))] H → va_D A [(oK, .inr (0, [.ref aB, .ref aW, .ref aF, .ref aG, .ref aV, .int mde])), (aW, .inl (E.2.1, 176, .inl (turnM a f i)))] → va_S A s.heap H locs → lv_has ls 4 [(3, .int (nI i)), (0, .ref oK), (1, .int v), (2, .int pw)] → W p l e R s m args below meth c H locs cells slots Q (F0 m 2 ls []) := by
  have hx := B.1
  have hb := B.2.1
  intro fu
  induction fu with
  | zero =>
    intro i h1 h2
    exact absurd h2 (by omega)
  | succ fu ih =>
    intro i hi hin H locs ls hP hD hS hl
    refine lv_iload_n hx hb dX0_makeTurnedWord_2 rfl (lv_at hl 0 rfl) ?_
    refine lv_iconst (v := 4) hx hb dX0_makeTurnedWord_3 (by decide) ?_
    refine lv_icmp_ge (tgt := 51) hx hb dX0_makeTurnedWord_4 (by decide) (fun c_4 => ?_) (fun c_4 => ?_)
    · have hj : i = 4 := by have := ge_t (b := 4) c_4 (by omega) (by omega); omega
      subst hj
      exact kk _ _ _ hP hD hS hl
    · have hj : i < 4 := by have := ge_f (b := 4) c_4 (by omega) (by omega); omega
      refine lv_aload_n hx hb dX0_makeTurnedWord_7 rfl (lv_at hl 1 rfl) ?_
      refine x_get B hP 0 rfl rfl i_X0 1 (by decide) g_22 rfl dX0_makeTurnedWord_8 ?_
      refine lv_iload_n hx hb dX0_makeTurnedWord_11 rfl (lv_at hl 2 rfl) ?_
      refine lv_iload_n hx hb dX0_makeTurnedWord_12 rfl (lv_at hl 0 rfl) ?_
      refine lv_iadd hx hb dX0_makeTurnedWord_13 ?_
      refine lv_aload_n hx hb dX0_makeTurnedWord_14 rfl (lv_at hl 1 rfl) ?_
      refine x_get B hP 0 rfl rfl i_X0 1 (by decide) g_22 rfl dX0_makeTurnedWord_15 ?_
      refine lv_iload_n hx hb dX0_makeTurnedWord_18 rfl (lv_at hl 2 rfl) ?_
      refine lv_bipush (v := 16) hx hb dX0_makeTurnedWord_19 (by decide) ?_
      refine lv_isub hx hb dX0_makeTurnedWord_21 ?_
      refine lv_iload_n hx hb dX0_makeTurnedWord_22 rfl (lv_at hl 0 rfl) ?_
      refine lv_iadd hx hb dX0_makeTurnedWord_23 ?_
      refine x_ald B hP 1 rfl ((a - 16) + i) (na_add (na_sub hv rfl (by omega)) rfl) (by omega) (by decide) dX0_makeTurnedWord_24 ?_
      refine x_gsN B hS 0 rfl n_143 dX0_makeTurnedWord_25 ?_
      refine lv_aload_n hx hb dX0_makeTurnedWord_28 rfl (lv_at hl 1 rfl) ?_
      refine x_get B hP 0 rfl rfl i_X0 1 (by decide) g_22 rfl dX0_makeTurnedWord_29 ?_
      refine lv_iload_n hx hb dX0_makeTurnedWord_32 rfl (lv_at hl 2 rfl) ?_
      refine lv_iconst (v := 4) hx hb dX0_makeTurnedWord_33 (by decide) ?_
      refine lv_isub hx hb dX0_makeTurnedWord_34 ?_
      refine lv_iload_n hx hb dX0_makeTurnedWord_35 rfl (lv_at hl 0 rfl) ?_
      refine lv_iconst (v := 1) hx hb dX0_makeTurnedWord_36 (by decide) ?_
      refine lv_iadd hx hb dX0_makeTurnedWord_37 ?_
      refine lv_iconst (v := 4) hx hb dX0_makeTurnedWord_38 (by decide) ?_
      refine lv_irem hx hb dX0_makeTurnedWord_39 (by decide) ?_
      refine lv_iadd hx hb dX0_makeTurnedWord_40 ?_
      refine x_ald B hP 1 rfl ((a - 4) + ((i + 1) % 4)) (na_add (na_sub hv rfl (by omega)) (na_rem (na_add rfl rfl) rfl (by omega) (by decide) (by decide))) (by omega) (by decide) dX0_makeTurnedWord_41 ?_
      refine x_tld B hS 0 rfl (((turnM a f i) ((a - 4) + ((i + 1) % 4))).toNatClampNeg) ((((turnM_by ha (by omega) hF i (by omega)) ((a - 4) + ((i + 1) % 4)) (by omega))).1) ((((turnM_by ha (by omega) hF i (by omega)) ((a - 4) + ((i + 1) % 4)) (by omega))).2) (by decide) dX0_makeTurnedWord_42 ?_
      refine lv_ixor hx hb dX0_makeTurnedWord_43 ?_
      refine x_ast B hP hD hS 1 rfl (a + i) (na_add hv rfl) (by omega) (by decide) dX0_makeTurnedWord_44 (fun H locs hP hD hS => ?_)
      have hP : va_P E.1 classes [(oK, .inr (0, [.ref aB, .ref aW, .ref aF, .ref aG, .ref aV, .int mde])), (aW, .inl (E.2.1, 176, .inl (upd (turnM a f i) (a + i) (((turnM a f i) ((a - 16) + i)) ^^^ (fS (((turnM a f i) ((a - 4) + ((i + 1) % 4))).toNatClampNeg))))))] _ := hP
      have hD : va_D A [(oK, .inr (0, [.ref aB, .ref aW, .ref aF, .ref aG, .ref aV, .int mde])), (aW, .inl (E.2.1, 176, .inl (upd (turnM a f i) (a + i) (((turnM a f i) ((a - 16) + i)) ^^^ (fS (((turnM a f i) ((a - 4) + ((i + 1) % 4))).toNatClampNeg))))))] := hD
      refine lv_iinc (v := (nI (i + 1))) (lv' := [(3, .int (nI (i + 1))), (0, .ref oK), (1, .int v), (2, .int pw)]) hx hb dX0_makeTurnedWord_45 hl (k := 0) rfl (ii_1 i) (by decide) rfl (fun ls hl => ?_)
      refine lv_goto (tgt := 2) hx hb dX0_makeTurnedWord_48 (by decide) ?_
      have hP : va_P E.1 classes [(oK, .inr (0, [.ref aB, .ref aW, .ref aF, .ref aG, .ref aV, .int mde])), (aW, .inl (E.2.1, 176, .inl (turnM a f (i + 1))))] _ := hP
      have hD : va_D A [(oK, .inr (0, [.ref aB, .ref aW, .ref aF, .ref aG, .ref aV, .int mde])), (aW, .inl (E.2.1, 176, .inl (turnM a f (i + 1))))] := hD
      exact ih (i + 1) (by omega) (by omega) _ _ _ hP hD hS (lv_sub hl [0, 1, 2, 3] rfl)
set_option maxHeartbeats 4000000 in
set_option maxRecDepth 100000 in
/-- makeTurnedWord -/
theorem c_X0_makeTurnedWord (l : Launch) (E : EE) (oK aB aW aF aG aV : Nat) (a : Nat) (f : Nat → Int32) (v pw mde : Int32) (hv : v = nI a) (h16 : 16 ≤ a) (ha : a + 4 ≤ 176) (hF : ∀ i, i < 176 → By (f i)) : Cv l yX0_makeTurnedWord (.code yX0_makeTurnedWord cX0_makeTurnedWord 4 none) ({ frames := 0, cells := 0, slots := 0, locals := 0 }) E [.ref oK, .int v, .int pw] [(oK, .inr (0, [.ref aB, .ref aW, .ref aF, .ref aG, .ref aV, .int mde])), (aW, .inl (E.2.1, 176, .inl f))] [(oK, .inr (0, [.ref aB, .ref aW, .ref aF, .ref aG, .ref aV, .int mde])), (aW, .inl (E.2.1, 176, .inl (turnW a pw f)))] := by
  refine Cv.of (by decide) (Nat.le_of_ble_eq_true rfl) ?_
  intro p e s m below meth c A ls B hP hD hS hl
  have hl : lv_has ls 4 [(0, .ref oK), (1, .int v), (2, .int pw)] := hl
  have B : Bd p s m _ meth c cX0_makeTurnedWord 4 none RX0 E A := B
  have hx := B.1
  have hb := B.2.1
  have hP : va_P E.1 classes [(oK, .inr (0, [.ref aB, .ref aW, .ref aF, .ref aG, .ref aV, .int mde])), (aW, .inl (E.2.1, 176, .inl f))] _ := hP
  have hD : va_D A [(oK, .inr (0, [.ref aB, .ref aW, .ref aF, .ref aG, .ref aV, .int mde])), (aW, .inl (E.2.1, 176, .inl f))] := hD
  refine lv_iconst (v := 0) hx hb dX0_makeTurnedWord_0 (by decide) ?_
  refine lv_istore_n (lv' := [(3, .int 0), (0, .ref oK), (1, .int v), (2, .int pw)]) hx hb dX0_makeTurnedWord_1 rfl hl (by decide) rfl (fun ls hl => ?_)
  have hP : va_P E.1 classes [(oK, .inr (0, [.ref aB, .ref aW, .ref aF, .ref aG, .ref aV, .int mde])), (aW, .inl (E.2.1, 176, .inl (turnM a f 0)))] _ := hP
  have hD : va_D A [(oK, .inr (0, [.ref aB, .ref aW, .ref aF, .ref aG, .ref aV, .int mde])), (aW, .inl (E.2.1, 176, .inl (turnM a f 0)))] := hD
  refine lp_turn B ⟨by decide, by decide⟩ hv h16 ha hF (fun H locs ls hP hD hS hl => ?_) 5 0 (by omega) (by omega) _ _ _ hP hD hS (lv_sub hl [0, 1, 2, 3] rfl)
  refine lv_aload_n hx hb dX0_makeTurnedWord_51 rfl (lv_at hl 1 rfl) ?_
  refine x_get B hP 0 rfl rfl i_X0 1 (by decide) g_22 rfl dX0_makeTurnedWord_52 ?_
  refine lv_iload_n hx hb dX0_makeTurnedWord_55 rfl (lv_at hl 2 rfl) ?_
  refine lv_dup2_11 hx hb dX0_makeTurnedWord_56 rfl rfl ?_
  refine x_ald B hP 1 rfl a hv (by omega) (by decide) dX0_makeTurnedWord_57 ?_
  refine lv_iload_n hx hb dX0_makeTurnedWord_58 rfl (lv_at hl 3 rfl) ?_
  refine lv_ixor hx hb dX0_makeTurnedWord_59 ?_
  refine x_ast B hP hD hS 1 rfl a hv (by omega) (by decide) dX0_makeTurnedWord_60 (fun H locs hP hD hS => ?_)
  have hP : va_P E.1 classes [(oK, .inr (0, [.ref aB, .ref aW, .ref aF, .ref aG, .ref aV, .int mde])), (aW, .inl (E.2.1, 176, .inl (upd (turnM a f 4) a (((turnM a f 4) a) ^^^ pw))))] _ := hP
  have hD : va_D A [(oK, .inr (0, [.ref aB, .ref aW, .ref aF, .ref aG, .ref aV, .int mde])), (aW, .inl (E.2.1, 176, .inl (upd (turnM a f 4) a (((turnM a f 4) a) ^^^ pw))))] := hD
  have hP : va_P E.1 classes [(oK, .inr (0, [.ref aB, .ref aW, .ref aF, .ref aG, .ref aV, .int mde])), (aW, .inl (E.2.1, 176, .inl (turnW a pw f)))] _ := hP
  have hD : va_D A [(oK, .inr (0, [.ref aB, .ref aW, .ref aF, .ref aG, .ref aV, .int mde])), (aW, .inl (E.2.1, 176, .inl (turnW a pw f)))] := hD
  exact x_vret B hP hD hS dX0_makeTurnedWord_61
set_option maxHeartbeats 4000000 in
set_option maxRecDepth 100000 in
theorem lp_words {p : Program} {l : Launch} {e : Env} {R : Room} {s : State} {m : MethodId} {args : Array Value} {below : List Frame} {meth : Method} {c : Code} {cells slots : Nat} {Q : State → Prop} {E : EE} {A : Nat → Prop} {oK aB aW aF aG aV : Nat} {fB f : Nat → Int32} {mde : Int32} (B : Bd p s m args meth c cX0_makeWords 3 none RX0 E A) (hf : cells ≤ R.cells ∧ slots ≤ R.slots) (hR : 1 ≤ R.frames ∧ 60 ≤ R.locals) (hF : ∀ i, i < 176 → By (f i))
    (kk : ∀ (H : Heap) (locs : List Loc) (ls : Array Slot), va_P E.1 classes [(oK, .inr (0, [.ref aB, .ref aW, .ref aF, .ref aG, .ref aV, .int mde])), (aB, .inl (E.2.1, 16, .inl fB)), (aW, .inl (E.2.1, 176, .inl ((wordM f 40).1)))] H → va_D A [(oK, .inr (0, [.ref aB, .ref aW, .ref aF, .ref aG, .ref aV, .int mde])), (aB, .inl (E.2.1, 16, .inl fB)), (aW, .inl (E.2.1, 176, .inl ((wordM f 40).1)))] → va_S A s.heap H locs → lv_has ls 3 [(2, .int (nI (16 + 4 * 40))), (1, .int ((wordM f 40).2)), (0, .ref oK)] → W p l e R s m args below meth c H locs cells slots Q (F0 m 59 ls [])) :
    ∀ (fu i : Nat), i ≤ 40 → 40 < i + fu → ∀ (H : Heap) (locs : List Loc) (ls : Array Slot), va_P E.1 classes [(oK, .inr (0, [.ref aB, .ref aW, .ref aF, .ref aG, .ref aV, .int mde])), (aB, .inl (E.2.1, 16, .inl fB)), (aW, .inl (E.2.1, 176, .inl ((wordM f i).1)))] H → va_D A [(oK, .inr (0, [.ref aB, .ref aW, .ref aF, .ref aG, .ref aV, .int mde])), (aB, .inl (E.2.1, 16, .inl fB)), (aW, .inl (E.2.1, 176, .inl ((wordM f i).1)))] → va_S A s.heap H locs → lv_has ls 3 [(2, .int (nI (16 + 4 * i))), (1, .int ((wordM f i).2)), (0, .ref oK)] → W p l e R s m args below meth c H locs cells slots Q (F0 m 20 ls []) := by
  have hx := B.1
  have hb := B.2.1
  intro fu
  induction fu with
  | zero =>
    intro i h1 h2
    exact absurd h2 (by omega)
  | succ fu ih =>
    intro i hi hin H locs ls hP hD hS hl
    refine lv_iload_n hx hb dX0_makeWords_20 rfl (lv_at hl 0 rfl) ?_
    refine lv_sipush (v := 176) hx hb dX0_makeWords_21 (by decide) ?_
    refine lv_icmp_ge (tgt := 59) hx hb dX0_makeWords_24 (by decide) (fun c_24 => ?_) (fun c_24 => ?_)
    · have hj : i = 40 := by have := ge_t (b := 176) c_24 (by omega) (by omega); omega
      subst hj
      exact kk _ _ _ hP hD hS hl
    · have hj : i < 40 := by have := ge_f (b := 176) c_24 (by omega) (by omega); omega
      refine lv_iload_n hx hb dX0_makeWords_27 rfl (lv_at hl 0 rfl) ?_
      refine lv_bipush (v := 16) hx hb dX0_makeWords_28 (by decide) ?_
      refine lv_irem hx hb dX0_makeWords_30 (by decide) ?_
      refine lv_if_ne (tgt := 48) hx hb dX0_makeWords_31 (by decide) (fun c_31 => ?_) (fun c_31 => ?_)
      · refine lv_aload_n hx hb dX0_makeWords_48 rfl (lv_at hl 2 rfl) ?_
        refine lv_iload_n hx hb dX0_makeWords_49 rfl (lv_at hl 0 rfl) ?_
        refine x_Vv (wr := [(aB, .inl (E.2.1, 16, .inl fB))]) (isC := [0, 2]) (isR := [1]) (As := [.int (nI (16 + 4 * i))]) B (c_X0_makePlainWord l E oK aB aW aF aG aV (16 + 4 * i) ((wordM f i).1) (nI (16 + 4 * i)) mde rfl (by omega) (by omega)) k_X0_makePlainWord g_148 s_X0_makePlainWord ⟨Nat.le_trans (by decide) hR.1, Nat.le_trans (by decide) hR.2, rfl, rfl⟩ rfl 0 rfl hP hD hS ⟨rfl, rfl, rfl, rfl, by decide⟩ rfl hl.1 rfl (Nat.le_of_ble_eq_true rfl) dX0_makeWords_50 hf (fun H locs hP hD hS => ?_)
        have hP : va_P E.1 classes [(aB, .inl (E.2.1, 16, .inl fB)), (oK, .inr (0, [.ref aB, .ref aW, .ref aF, .ref aG, .ref aV, .int mde])), (aW, .inl (E.2.1, 176, .inl (plainM (16 + 4 * i) ((wordM f i).1) 4)))] _ := hP
        have hD : va_D A [(aB, .inl (E.2.1, 16, .inl fB)), (oK, .inr (0, [.ref aB, .ref aW, .ref aF, .ref aG, .ref aV, .int mde])), (aW, .inl (E.2.1, 176, .inl (plainM (16 + 4 * i) ((wordM f i).1) 4)))] := hD
        refine lv_iinc (v := (nI ((16 + 4 * i) + 4))) (lv' := [(2, .int (nI ((16 + 4 * i) + 4))), (1, .int ((wordM f i).2)), (0, .ref oK)]) hx hb dX0_makeWords_53 hl (k := 0) rfl (ii_n 4 (16 + 4 * i) rfl) (by decide) rfl (fun ls hl => ?_)
        refine lv_goto (tgt := 20) hx hb dX0_makeWords_56 (by decide) ?_
        have hk : ¬ (16 + 4 * i) % 16 = 0 := fun h => c_31 (by have e := (na_rem (a := 16 + 4 * i) (b := 16) rfl rfl (by omega) (by decide) (by decide)); rw [h] at e; exact e)
        have eF : wordM f (i + 1) = (plainM (16 + 4 * i) (wordM f i).1 4, (wordM f i).2) := if_neg hk
        have hP := hP.sub (ws' := [(oK, .inr (0, [.ref aB, .ref aW, .ref aF, .ref aG, .ref aV, .int mde])), (aB, .inl (E.2.1, 16, .inl fB)), (aW, .inl (E.2.1, 176, .inl (plainM (16 + 4 * i) ((wordM f i).1) 4)))]) [1, 0, 2] rfl
        have hD := hD.sub (ws' := [(oK, .inr (0, [.ref aB, .ref aW, .ref aF, .ref aG, .ref aV, .int mde])), (aB, .inl (E.2.1, 16, .inl fB)), (aW, .inl (E.2.1, 176, .inl (plainM (16 + 4 * i) ((wordM f i).1) 4)))]) [1, 0, 2] (by decide) rfl
        have hP : va_P E.1 classes [(oK, .inr (0, [.ref aB, .ref aW, .ref aF, .ref aG, .ref aV, .int mde])), (aB, .inl (E.2.1, 16, .inl fB)), (aW, .inl (E.2.1, 176, .inl ((wordM f (i + 1)).1)))] _ := (by rw [eF]; exact hP)
        have hD : va_D A [(oK, .inr (0, [.ref aB, .ref aW, .ref aF, .ref aG, .ref aV, .int mde])), (aB, .inl (E.2.1, 16, .inl fB)), (aW, .inl (E.2.1, 176, .inl ((wordM f (i + 1)).1)))] := (by rw [eF]; exact hD)
        exact ih (i + 1) (by omega) (by omega) _ _ _ hP hD hS (by rw [eF]; dsimp only; exact lv_sub hl [0, 1, 2] rfl)
      · refine lv_aload_n hx hb dX0_makeWords_34 rfl (lv_at hl 2 rfl) ?_
        refine lv_iload_n hx hb dX0_makeWords_35 rfl (lv_at hl 0 rfl) ?_
        refine lv_iload_n hx hb dX0_makeWords_36 rfl (lv_at hl 1 rfl) ?_
        refine x_Vv (wr := [(aB, .inl (E.2.1, 16, .inl fB))]) (isC := [0, 2]) (isR := [1]) (As := [.int (nI (16 + 4 * i)), .int ((wordM f i).2)]) B (c_X0_makeTurnedWord l E oK aB aW aF aG aV (16 + 4 * i) ((wordM f i).1) (nI (16 + 4 * i)) ((wordM f i).2) mde rfl (by omega) (by omega) ((wordM_by hF i (by omega)).1)) k_X0_makeTurnedWord g_139 s_X0_makeTurnedWord ⟨Nat.le_trans (by decide) hR.1, Nat.le_trans (by decide) hR.2, rfl, rfl⟩ rfl 0 rfl hP hD hS ⟨rfl, rfl, rfl, rfl, by decide⟩ rfl hl.1 rfl (Nat.le_of_ble_eq_true rfl) dX0_makeWords_37 hf (fun H locs hP hD hS => ?_)
        have hP : va_P E.1 classes [(aB, .inl (E.2.1, 16, .inl fB)), (oK, .inr (0, [.ref aB, .ref aW, .ref aF, .ref aG, .ref aV, .int mde])), (aW, .inl (E.2.1, 176, .inl (turnW (16 + 4 * i) ((wordM f i).2) ((wordM f i).1))))] _ := hP
        have hD : va_D A [(aB, .inl (E.2.1, 16, .inl fB)), (oK, .inr (0, [.ref aB, .ref aW, .ref aF, .ref aG, .ref aV, .int mde])), (aW, .inl (E.2.1, 176, .inl (turnW (16 + 4 * i) ((wordM f i).2) ((wordM f i).1))))] := hD
        refine lv_iload_n hx hb dX0_makeWords_40 rfl (lv_at hl 1 rfl) ?_
        refine x_Si (wr := [(aB, .inl (E.2.1, 16, .inl fB)), (oK, .inr (0, [.ref aB, .ref aW, .ref aF, .ref aG, .ref aV, .int mde])), (aW, .inl (E.2.1, 176, .inl (turnW (16 + 4 * i) ((wordM f i).2) ((wordM f i).1))))]) (isC := []) (isR := [0, 1, 2]) (As := [.int ((wordM f i).2)]) B (c_X0_twice l E ((wordM f i).2)) k_X0_twice g_145 s_X0_twice ⟨Nat.le_trans (by decide) hR.1, Nat.le_trans (by decide) hR.2, rfl, rfl⟩ hP hD hS ⟨rfl, rfl, rfl, rfl, by decide⟩ rfl hl.1 rfl (Nat.le_of_ble_eq_true rfl) dX0_makeWords_41 hf (fun H locs hP hD hS => ?_)
        have hP : va_P E.1 classes [(aB, .inl (E.2.1, 16, .inl fB)), (oK, .inr (0, [.ref aB, .ref aW, .ref aF, .ref aG, .ref aV, .int mde])), (aW, .inl (E.2.1, 176, .inl (turnW (16 + 4 * i) ((wordM f i).2) ((wordM f i).1))))] _ := hP
        have hD : va_D A [(aB, .inl (E.2.1, 16, .inl fB)), (oK, .inr (0, [.ref aB, .ref aW, .ref aF, .ref aG, .ref aV, .int mde])), (aW, .inl (E.2.1, 176, .inl (turnW (16 + 4 * i) ((wordM f i).2) ((wordM f i).1))))] := hD
        refine lv_istore_n (lv' := [(1, .int (twM ((wordM f i).2))), (2, .int (nI (16 + 4 * i))), (0, .ref oK)]) hx hb dX0_makeWords_44 rfl hl (by decide) rfl (fun ls hl => ?_)
        refine lv_goto (tgt := 53) hx hb dX0_makeWords_45 (by decide) ?_
        refine lv_iinc (v := (nI ((16 + 4 * i) + 4))) (lv' := [(2, .int (nI ((16 + 4 * i) + 4))), (1, .int (twM ((wordM f i).2))), (0, .ref oK)]) hx hb dX0_makeWords_53 hl (k := 1) rfl (ii_n 4 (16 + 4 * i) rfl) (by decide) rfl (fun ls hl => ?_)
        refine lv_goto (tgt := 20) hx hb dX0_makeWords_56 (by decide) ?_
        have hk : (16 + 4 * i) % 16 = 0 := by have e := (na_rem (a := 16 + 4 * i) (b := 16) rfl rfl (by omega) (by decide) (by decide)); exact (nI_eq (b := 0) (by omega) (by decide)).mp (e.symm.trans c_31)
        have eF : wordM f (i + 1) = (turnW (16 + 4 * i) (wordM f i).2 (wordM f i).1, twM (wordM f i).2) := if_pos hk
        have hP := hP.sub (ws' := [(oK, .inr (0, [.ref aB, .ref aW, .ref aF, .ref aG, .ref aV, .int mde])), (aB, .inl (E.2.1, 16, .inl fB)), (aW, .inl (E.2.1, 176, .inl (turnW (16 + 4 * i) ((wordM f i).2) ((wordM f i).1))))]) [1, 0, 2] rfl
        have hD := hD.sub (ws' := [(oK, .inr (0, [.ref aB, .ref aW, .ref aF, .ref aG, .ref aV, .int mde])), (aB, .inl (E.2.1, 16, .inl fB)), (aW, .inl (E.2.1, 176, .inl (turnW (16 + 4 * i) ((wordM f i).2) ((wordM f i).1))))]) [1, 0, 2] (by decide) rfl
        have hP : va_P E.1 classes [(oK, .inr (0, [.ref aB, .ref aW, .ref aF, .ref aG, .ref aV, .int mde])), (aB, .inl (E.2.1, 16, .inl fB)), (aW, .inl (E.2.1, 176, .inl ((wordM f (i + 1)).1)))] _ := (by rw [eF]; exact hP)
        have hD : va_D A [(oK, .inr (0, [.ref aB, .ref aW, .ref aF, .ref aG, .ref aV, .int mde])), (aB, .inl (E.2.1, 16, .inl fB)), (aW, .inl (E.2.1, 176, .inl ((wordM f (i + 1)).1)))] := (by rw [eF]; exact hD)
        exact ih (i + 1) (by omega) (by omega) _ _ _ hP hD hS (by rw [eF]; dsimp only; exact lv_sub hl [0, 1, 2] rfl)
set_option maxHeartbeats 4000000 in
set_option maxRecDepth 100000 in
/-- makeWords -/
theorem c_X0_makeWords (l : Launch) (E : EE) (oK aB aW aF aG aV : Nat) (fB fW : Nat → Int32) (mde : Int32) (hB : ∀ i, i < 16 → By (fB i)) (hW : ∀ i, i < 176 → By (fW i)) : Cv l yX0_makeWords (.code yX0_makeWords cX0_makeWords 3 none) ({ frames := 1, cells := 0, slots := 0, locals := 60 }) E [.ref oK] [(oK, .inr (0, [.ref aB, .ref aW, .ref aF, .ref aG, .ref aV, .int mde])), (aB, .inl (E.2.1, 16, .inl fB)), (aW, .inl (E.2.1, 176, .inl fW))] [(oK, .inr (0, [.ref aB, .ref aW, .ref aF, .ref aG, .ref aV, .int mde])), (aB, .inl (E.2.1, 16, .inl fB)), (aW, .inl (E.2.1, 176, .inl ((wordM (va_cpy fB fW 0 0 16) 40).1)))] := by
  refine Cv.of (by decide) (Nat.le_of_ble_eq_true rfl) ?_
  intro p e s m below meth c A ls B hP hD hS hl
  have hl : lv_has ls 3 [(0, .ref oK)] := hl
  have B : Bd p s m _ meth c cX0_makeWords 3 none RX0 E A := B
  have hx := B.1
  have hb := B.2.1
  have hP : va_P E.1 classes [(oK, .inr (0, [.ref aB, .ref aW, .ref aF, .ref aG, .ref aV, .int mde])), (aB, .inl (E.2.1, 16, .inl fB)), (aW, .inl (E.2.1, 176, .inl fW))] _ := hP
  have hD : va_D A [(oK, .inr (0, [.ref aB, .ref aW, .ref aF, .ref aG, .ref aV, .int mde])), (aB, .inl (E.2.1, 16, .inl fB)), (aW, .inl (E.2.1, 176, .inl fW))] := hD
  refine lv_aload_n hx hb dX0_makeWords_0 rfl (lv_at hl 0 rfl) ?_
  refine x_get B hP 0 rfl rfl i_X0 0 (by decide) g_21 rfl dX0_makeWords_1 ?_
  refine lv_iconst (v := 0) hx hb dX0_makeWords_4 (by decide) ?_
  refine lv_aload_n hx hb dX0_makeWords_5 rfl (lv_at hl 0 rfl) ?_
  refine x_get B hP 0 rfl rfl i_X0 1 (by decide) g_22 rfl dX0_makeWords_6 ?_
  refine lv_iconst (v := 0) hx hb dX0_makeWords_9 (by decide) ?_
  refine lv_bipush (v := 16) hx hb dX0_makeWords_10 (by decide) ?_
  refine x_copy B hP hD hS g_136 w_copy hl.1 1 2 rfl rfl 16 rfl (by decide) (by decide) (by decide) (by decide) (Nat.le_of_ble_eq_true rfl) dX0_makeWords_12 (fun H locs hP hD hS => ?_)
  have hP : va_P E.1 classes [(oK, .inr (0, [.ref aB, .ref aW, .ref aF, .ref aG, .ref aV, .int mde])), (aB, .inl (E.2.1, 16, .inl fB)), (aW, .inl (E.2.1, 176, .inl (va_cpy fB fW 0 0 16)))] _ := hP
  have hD : va_D A [(oK, .inr (0, [.ref aB, .ref aW, .ref aF, .ref aG, .ref aV, .int mde])), (aB, .inl (E.2.1, 16, .inl fB)), (aW, .inl (E.2.1, 176, .inl (va_cpy fB fW 0 0 16)))] := hD
  refine lv_iconst (v := 1) hx hb dX0_makeWords_15 (by decide) ?_
  refine lv_istore_n (lv' := [(1, .int 1), (0, .ref oK)]) hx hb dX0_makeWords_16 rfl hl (by decide) rfl (fun ls hl => ?_)
  refine lv_bipush (v := 16) hx hb dX0_makeWords_17 (by decide) ?_
  refine lv_istore_n (lv' := [(2, .int 16), (1, .int 1), (0, .ref oK)]) hx hb dX0_makeWords_19 rfl hl (by decide) rfl (fun ls hl => ?_)
  have hP : va_P E.1 classes [(oK, .inr (0, [.ref aB, .ref aW, .ref aF, .ref aG, .ref aV, .int mde])), (aB, .inl (E.2.1, 16, .inl fB)), (aW, .inl (E.2.1, 176, .inl ((wordM (va_cpy fB fW 0 0 16) 0).1)))] _ := hP
  have hD : va_D A [(oK, .inr (0, [.ref aB, .ref aW, .ref aF, .ref aG, .ref aV, .int mde])), (aB, .inl (E.2.1, 16, .inl fB)), (aW, .inl (E.2.1, 176, .inl ((wordM (va_cpy fB fW 0 0 16) 0).1)))] := hD
  refine lp_words B ⟨by decide, by decide⟩ ⟨by decide, by decide⟩ (By.cpy (N := 16) (by decide) hB hW) (fun H locs ls hP hD hS hl => ?_) 41 0 (by omega) (by omega) _ _ _ hP hD hS (lv_sub hl [0, 1, 2] rfl)
  have hP : va_P E.1 classes [(oK, .inr (0, [.ref aB, .ref aW, .ref aF, .ref aG, .ref aV, .int mde])), (aB, .inl (E.2.1, 16, .inl fB)), (aW, .inl (E.2.1, 176, .inl ((wordM (va_cpy fB fW 0 0 16) 40).1)))] _ := hP
  have hD : va_D A [(oK, .inr (0, [.ref aB, .ref aW, .ref aF, .ref aG, .ref aV, .int mde])), (aB, .inl (E.2.1, 16, .inl fB)), (aW, .inl (E.2.1, 176, .inl ((wordM (va_cpy fB fW 0 0 16) 40).1)))] := hD
  exact x_vret B hP hD hS dX0_makeWords_59
set_option maxHeartbeats 4000000 in
set_option maxRecDepth 100000 in
theorem lp_dbl {p : Program} {l : Launch} {e : Env} {R : Room} {s : State} {m : MethodId} {args : Array Value} {below : List Frame} {meth : Method} {c : Code} {cells slots : Nat} {Q : State → Prop} {E : EE} {A : Nat → Prop} {a b : Nat} {f g : Nat → Int32} {z : Int32} (B : Bd p s m args meth c cX0_putDoubled 4 none RX0 E A) (hf : cells ≤ R.cells ∧ slots ≤ R.slots) 
    (kk : ∀ (H : Heap) (locs : List Loc) (ls : Array Slot), va_P E.1 classes [(a, .inl (E.2.1, 16, .inl f)), (b, .inl (E.2.1, 16, .inl (dblM f g 15)))] H → va_D A [(a, .inl (E.2.1, 16, .inl f)), (b, .inl (E.2.1, 16, .inl (dblM f g 15)))] → va_S A s.heap H locs → lv_has ls 4 [(3, .int (nI 15)), (2, .int z), (0, .ref a), (1, .ref b)] → W p l e R s m args below meth c H locs cells slots Q (F0 m 52 ls [])) :
    ∀ (fu i : Nat), i ≤ 15 → 15 < i + fu → ∀ (H : Heap) (locs : List Loc) (ls : Array Slot), va_P E.1 classes [(a, .inl (E.2.1, 16, .inl f)), (b, .inl (E.2.1, 16, .inl (dblM f g i)))] H → va_D A [(a, .inl (E.2.1, 16, .inl f)), (b, .inl (E.2.1, 16, .inl (dblM f g i)))] → va_S A s.heap H locs → lv_has ls 4 [(3, .int (nI i)), (2, .int z), (0, .ref a), (1, .ref b)] → W p l e R s m args below meth c H locs cells slots Q (F0 m 19 ls []) := by
  have hx := B.1
  have hb := B.2.1
  intro fu
  induction fu with
  | zero =>
    intro i h1 h2
    exact absurd h2 (by omega)
  | succ fu ih =>
    intro i hi hin H locs ls hP hD hS hl
    refine lv_iload_n hx hb dX0_putDoubled_19 rfl (lv_at hl 0 rfl) ?_
    refine lv_bipush (v := 15) hx hb dX0_putDoubled_20 (by decide) ?_
    refine lv_icmp_ge (tgt := 52) hx hb dX0_putDoubled_22 (by decide) (fun c_22 => ?_) (fun c_22 => ?_)
    · have hj : i = 15 := by have := ge_t (b := 15) c_22 (by omega) (by omega); omega
      subst hj
      exact kk _ _ _ hP hD hS hl
    · have hj : i < 15 := by have := ge_f (b := 15) c_22 (by omega) (by omega); omega
      refine lv_aload_n hx hb dX0_putDoubled_25 rfl (lv_at hl 3 rfl) ?_
      refine lv_iload_n hx hb dX0_putDoubled_26 rfl (lv_at hl 0 rfl) ?_
      refine lv_aload_n hx hb dX0_putDoubled_27 rfl (lv_at hl 2 rfl) ?_
      refine lv_iload_n hx hb dX0_putDoubled_28 rfl (lv_at hl 0 rfl) ?_
      refine x_ald B hP 0 rfl i rfl (by omega) (by decide) dX0_putDoubled_29 ?_
      refine lv_iconst (v := 1) hx hb dX0_putDoubled_30 (by decide) ?_
      refine lv_ishl hx hb dX0_putDoubled_31 ?_
      refine lv_sipush (v := 255) hx hb dX0_putDoubled_32 (by decide) ?_
      refine lv_iand hx hb dX0_putDoubled_35 ?_
      refine lv_aload_n hx hb dX0_putDoubled_36 rfl (lv_at hl 2 rfl) ?_
      refine lv_iload_n hx hb dX0_putDoubled_37 rfl (lv_at hl 0 rfl) ?_
      refine lv_iconst (v := 1) hx hb dX0_putDoubled_38 (by decide) ?_
      refine lv_iadd hx hb dX0_putDoubled_39 ?_
      refine x_ald B hP 0 rfl (i + 1) (na_add rfl rfl) (by omega) (by decide) dX0_putDoubled_40 ?_
      refine lv_bipush (v := 7) hx hb dX0_putDoubled_41 (by decide) ?_
      refine lv_ishr hx hb dX0_putDoubled_43 ?_
      refine lv_ior hx hb dX0_putDoubled_44 ?_
      refine x_ast B hP hD hS 1 rfl i rfl (by omega) (by decide) dX0_putDoubled_45 (fun H locs hP hD hS => ?_)
      have hP : va_P E.1 classes [(a, .inl (E.2.1, 16, .inl f)), (b, .inl (E.2.1, 16, .inl (upd (dblM f g i) i ((((f i) <<< ((1 : Int32) &&& 31)) &&& 255) ||| ((f (i + 1)) >>> ((7 : Int32) &&& 31))))))] _ := hP
      have hD : va_D A [(a, .inl (E.2.1, 16, .inl f)), (b, .inl (E.2.1, 16, .inl (upd (dblM f g i) i ((((f i) <<< ((1 : Int32) &&& 31)) &&& 255) ||| ((f (i + 1)) >>> ((7 : Int32) &&& 31))))))] := hD
      refine lv_iinc (v := (nI (i + 1))) (lv' := [(3, .int (nI (i + 1))), (2, .int z), (0, .ref a), (1, .ref b)]) hx hb dX0_putDoubled_46 hl (k := 0) rfl (ii_1 i) (by decide) rfl (fun ls hl => ?_)
      refine lv_goto (tgt := 19) hx hb dX0_putDoubled_49 (by decide) ?_
      have hP : va_P E.1 classes [(a, .inl (E.2.1, 16, .inl f)), (b, .inl (E.2.1, 16, .inl (dblM f g (i + 1))))] _ := hP
      have hD : va_D A [(a, .inl (E.2.1, 16, .inl f)), (b, .inl (E.2.1, 16, .inl (dblM f g (i + 1))))] := hD
      exact ih (i + 1) (by omega) (by omega) _ _ _ hP hD hS (lv_sub hl [0, 1, 2, 3] rfl)
set_option maxHeartbeats 4000000 in
set_option maxRecDepth 100000 in
/-- putDoubled, into another row -/
theorem c_X0_putDoubled (l : Launch) (E : EE) (a b : Nat) (f g : Nat → Int32) : Cv l yX0_putDoubled (.code yX0_putDoubled cX0_putDoubled 4 none) ({ frames := 0, cells := 0, slots := 0, locals := 0 }) E [.ref a, .ref b] [(a, .inl (E.2.1, 16, .inl f)), (b, .inl (E.2.1, 16, .inl g))] [(a, .inl (E.2.1, 16, .inl f)), (b, .inl (E.2.1, 16, .inl (dblW f g)))] := by
  refine Cv.of (by decide) (Nat.le_of_ble_eq_true rfl) ?_
  intro p e s m below meth c A ls B hP hD hS hl
  have hl : lv_has ls 4 [(0, .ref a), (1, .ref b)] := hl
  have B : Bd p s m _ meth c cX0_putDoubled 4 none RX0 E A := B
  have hx := B.1
  have hb := B.2.1
  have hP : va_P E.1 classes [(a, .inl (E.2.1, 16, .inl f)), (b, .inl (E.2.1, 16, .inl g))] _ := hP
  have hD : va_D A [(a, .inl (E.2.1, 16, .inl f)), (b, .inl (E.2.1, 16, .inl g))] := hD
  refine lv_aload_n hx hb dX0_putDoubled_0 rfl (lv_at hl 0 rfl) ?_
  refine lv_iconst (v := 0) hx hb dX0_putDoubled_1 (by decide) ?_
  refine x_ald B hP 0 rfl 0 rfl (by omega) (by decide) dX0_putDoubled_2 ?_
  refine lv_sipush (v := 128) hx hb dX0_putDoubled_3 (by decide) ?_
  refine lv_icmp_lt (tgt := 15) hx hb dX0_putDoubled_6 (by decide) (fun c_6 => ?_) (fun c_6 => ?_)
  · refine lv_iconst (v := 0) hx hb dX0_putDoubled_15 (by decide) ?_
    refine lv_istore_n (lv' := [(2, .int 0), (0, .ref a), (1, .ref b)]) hx hb dX0_putDoubled_16 rfl hl (by decide) rfl (fun ls hl => ?_)
    refine lv_iconst (v := 0) hx hb dX0_putDoubled_17 (by decide) ?_
    refine lv_istore_n (lv' := [(3, .int 0), (2, .int 0), (0, .ref a), (1, .ref b)]) hx hb dX0_putDoubled_18 rfl hl (by decide) rfl (fun ls hl => ?_)
    have hP : va_P E.1 classes [(a, .inl (E.2.1, 16, .inl f)), (b, .inl (E.2.1, 16, .inl (dblM f g 0)))] _ := hP
    have hD : va_D A [(a, .inl (E.2.1, 16, .inl f)), (b, .inl (E.2.1, 16, .inl (dblM f g 0)))] := hD
    refine lp_dbl (z := 0) B ⟨by decide, by decide⟩ (fun H locs ls hP hD hS hl => ?_) 16 0 (by omega) (by omega) _ _ _ hP hD hS (lv_sub hl [0, 1, 2, 3] rfl)
    have eZ : foldM f = 0 := if_pos c_6
    refine lv_aload_n hx hb dX0_putDoubled_52 rfl (lv_at hl 3 rfl) ?_
    refine lv_bipush (v := 15) hx hb dX0_putDoubled_53 (by decide) ?_
    refine lv_aload_n hx hb dX0_putDoubled_55 rfl (lv_at hl 2 rfl) ?_
    refine lv_bipush (v := 15) hx hb dX0_putDoubled_56 (by decide) ?_
    refine x_ald B hP 0 rfl 15 rfl (by omega) (by decide) dX0_putDoubled_58 ?_
    refine lv_iconst (v := 1) hx hb dX0_putDoubled_59 (by decide) ?_
    refine lv_ishl hx hb dX0_putDoubled_60 ?_
    refine lv_sipush (v := 255) hx hb dX0_putDoubled_61 (by decide) ?_
    refine lv_iand hx hb dX0_putDoubled_64 ?_
    refine lv_iload_n hx hb dX0_putDoubled_65 rfl (lv_at hl 1 rfl) ?_
    refine lv_ixor hx hb dX0_putDoubled_66 ?_
    refine x_ast B hP hD hS 1 rfl 15 rfl (by omega) (by decide) dX0_putDoubled_67 (fun H locs hP hD hS => ?_)
    have hP : va_P E.1 classes [(a, .inl (E.2.1, 16, .inl f)), (b, .inl (E.2.1, 16, .inl (upd (dblM f g 15) 15 ((((f 15) <<< ((1 : Int32) &&& 31)) &&& 255) ^^^ 0))))] _ := hP
    have hD : va_D A [(a, .inl (E.2.1, 16, .inl f)), (b, .inl (E.2.1, 16, .inl (upd (dblM f g 15) 15 ((((f 15) <<< ((1 : Int32) &&& 31)) &&& 255) ^^^ 0))))] := hD
    have hP : va_P E.1 classes [(a, .inl (E.2.1, 16, .inl f)), (b, .inl (E.2.1, 16, .inl (dblW f g)))] _ := (by unfold dblW; rw [eZ]; exact hP)
    have hD : va_D A [(a, .inl (E.2.1, 16, .inl f)), (b, .inl (E.2.1, 16, .inl (dblW f g)))] := (by unfold dblW; rw [eZ]; exact hD)
    exact x_vret B hP hD hS dX0_putDoubled_68
  · refine lv_sipush (v := 135) hx hb dX0_putDoubled_9 (by decide) ?_
    refine lv_goto (tgt := 16) hx hb dX0_putDoubled_12 (by decide) ?_
    refine lv_istore_n (lv' := [(2, .int 135), (0, .ref a), (1, .ref b)]) hx hb dX0_putDoubled_16 rfl hl (by decide) rfl (fun ls hl => ?_)
    refine lv_iconst (v := 0) hx hb dX0_putDoubled_17 (by decide) ?_
    refine lv_istore_n (lv' := [(3, .int 0), (2, .int 135), (0, .ref a), (1, .ref b)]) hx hb dX0_putDoubled_18 rfl hl (by decide) rfl (fun ls hl => ?_)
    have hP : va_P E.1 classes [(a, .inl (E.2.1, 16, .inl f)), (b, .inl (E.2.1, 16, .inl (dblM f g 0)))] _ := hP
    have hD : va_D A [(a, .inl (E.2.1, 16, .inl f)), (b, .inl (E.2.1, 16, .inl (dblM f g 0)))] := hD
    refine lp_dbl (z := 135) B ⟨by decide, by decide⟩ (fun H locs ls hP hD hS hl => ?_) 16 0 (by omega) (by omega) _ _ _ hP hD hS (lv_sub hl [0, 1, 2, 3] rfl)
    have eZ : foldM f = 135 := if_neg c_6
    refine lv_aload_n hx hb dX0_putDoubled_52 rfl (lv_at hl 3 rfl) ?_
    refine lv_bipush (v := 15) hx hb dX0_putDoubled_53 (by decide) ?_
    refine lv_aload_n hx hb dX0_putDoubled_55 rfl (lv_at hl 2 rfl) ?_
    refine lv_bipush (v := 15) hx hb dX0_putDoubled_56 (by decide) ?_
    refine x_ald B hP 0 rfl 15 rfl (by omega) (by decide) dX0_putDoubled_58 ?_
    refine lv_iconst (v := 1) hx hb dX0_putDoubled_59 (by decide) ?_
    refine lv_ishl hx hb dX0_putDoubled_60 ?_
    refine lv_sipush (v := 255) hx hb dX0_putDoubled_61 (by decide) ?_
    refine lv_iand hx hb dX0_putDoubled_64 ?_
    refine lv_iload_n hx hb dX0_putDoubled_65 rfl (lv_at hl 1 rfl) ?_
    refine lv_ixor hx hb dX0_putDoubled_66 ?_
    refine x_ast B hP hD hS 1 rfl 15 rfl (by omega) (by decide) dX0_putDoubled_67 (fun H locs hP hD hS => ?_)
    have hP : va_P E.1 classes [(a, .inl (E.2.1, 16, .inl f)), (b, .inl (E.2.1, 16, .inl (upd (dblM f g 15) 15 ((((f 15) <<< ((1 : Int32) &&& 31)) &&& 255) ^^^ 135))))] _ := hP
    have hD : va_D A [(a, .inl (E.2.1, 16, .inl f)), (b, .inl (E.2.1, 16, .inl (upd (dblM f g 15) 15 ((((f 15) <<< ((1 : Int32) &&& 31)) &&& 255) ^^^ 135))))] := hD
    have hP : va_P E.1 classes [(a, .inl (E.2.1, 16, .inl f)), (b, .inl (E.2.1, 16, .inl (dblW f g)))] _ := (by unfold dblW; rw [eZ]; exact hP)
    have hD : va_D A [(a, .inl (E.2.1, 16, .inl f)), (b, .inl (E.2.1, 16, .inl (dblW f g)))] := (by unfold dblW; rw [eZ]; exact hD)
    exact x_vret B hP hD hS dX0_putDoubled_68
set_option maxHeartbeats 4000000 in
set_option maxRecDepth 100000 in
theorem lp_dblA {p : Program} {l : Launch} {e : Env} {R : Room} {s : State} {m : MethodId} {args : Array Value} {below : List Frame} {meth : Method} {c : Code} {cells slots : Nat} {Q : State → Prop} {E : EE} {A : Nat → Prop} {a : Nat} {f : Nat → Int32} {z : Int32} (B : Bd p s m args meth c cX0_putDoubled 4 none RX0 E A) (hf : cells ≤ R.cells ∧ slots ≤ R.slots) 
    (kk : ∀ (H : Heap) (locs : List Loc) (ls : Array Slot), va_P E.1 classes [(a, .inl (E.2.1, 16, .inl (dblS f 15)))] H → va_D A [(a, .inl (E.2.1, 16, .inl (dblS f 15)))] → va_S A s.heap H locs → lv_has ls 4 [(3, .int (nI 15)), (2, .int z), (0, .ref a), (1, .ref a)] → W p l e R s m args below meth c H locs cells slots Q (F0 m 52 ls [])) :
    ∀ (fu i : Nat), i ≤ 15 → 15 < i + fu → ∀ (H : Heap) (locs : List Loc) (ls : Array Slot), va_P E.1 classes [(a, .inl (E.2.1, 16, .inl (dblS f i)))] H → va_D A [(a, .inl (E.2.1, 16, .inl (dblS f i)))] → va_S A s.heap H locs → lv_has ls 4 [(3, .int (nI i)), (2, .int z), (0, .ref a), (1, .ref a)] → W p l e R s m args below meth c H locs cells slots Q (F0 m 19 ls []) := by
  have hx := B.1
  have hb := B.2.1
  intro fu
  induction fu with
  | zero =>
    intro i h1 h2
    exact absurd h2 (by omega)
  | succ fu ih =>
    intro i hi hin H locs ls hP hD hS hl
    refine lv_iload_n hx hb dX0_putDoubled_19 rfl (lv_at hl 0 rfl) ?_
    refine lv_bipush (v := 15) hx hb dX0_putDoubled_20 (by decide) ?_
    refine lv_icmp_ge (tgt := 52) hx hb dX0_putDoubled_22 (by decide) (fun c_22 => ?_) (fun c_22 => ?_)
    · have hj : i = 15 := by have := ge_t (b := 15) c_22 (by omega) (by omega); omega
      subst hj
      exact kk _ _ _ hP hD hS hl
    · have hj : i < 15 := by have := ge_f (b := 15) c_22 (by omega) (by omega); omega
      refine lv_aload_n hx hb dX0_putDoubled_25 rfl (lv_at hl 3 rfl) ?_
      refine lv_iload_n hx hb dX0_putDoubled_26 rfl (lv_at hl 0 rfl) ?_
      refine lv_aload_n hx hb dX0_putDoubled_27 rfl (lv_at hl 2 rfl) ?_
      refine lv_iload_n hx hb dX0_putDoubled_28 rfl (lv_at hl 0 rfl) ?_
      refine x_ald B hP 0 rfl i rfl (by omega) (by decide) dX0_putDoubled_29 ?_
      refine lv_iconst (v := 1) hx hb dX0_putDoubled_30 (by decide) ?_
      refine lv_ishl hx hb dX0_putDoubled_31 ?_
      refine lv_sipush (v := 255) hx hb dX0_putDoubled_32 (by decide) ?_
      refine lv_iand hx hb dX0_putDoubled_35 ?_
      refine lv_aload_n hx hb dX0_putDoubled_36 rfl (lv_at hl 2 rfl) ?_
      refine lv_iload_n hx hb dX0_putDoubled_37 rfl (lv_at hl 0 rfl) ?_
      refine lv_iconst (v := 1) hx hb dX0_putDoubled_38 (by decide) ?_
      refine lv_iadd hx hb dX0_putDoubled_39 ?_
      refine x_ald B hP 0 rfl (i + 1) (na_add rfl rfl) (by omega) (by decide) dX0_putDoubled_40 ?_
      refine lv_bipush (v := 7) hx hb dX0_putDoubled_41 (by decide) ?_
      refine lv_ishr hx hb dX0_putDoubled_43 ?_
      refine lv_ior hx hb dX0_putDoubled_44 ?_
      refine x_ast B hP hD hS 0 rfl i rfl (by omega) (by decide) dX0_putDoubled_45 (fun H locs hP hD hS => ?_)
      have hP : va_P E.1 classes [(a, .inl (E.2.1, 16, .inl (upd (dblS f i) i (((((dblS f i) i) <<< ((1 : Int32) &&& 31)) &&& 255) ||| (((dblS f i) (i + 1)) >>> ((7 : Int32) &&& 31))))))] _ := hP
      have hD : va_D A [(a, .inl (E.2.1, 16, .inl (upd (dblS f i) i (((((dblS f i) i) <<< ((1 : Int32) &&& 31)) &&& 255) ||| (((dblS f i) (i + 1)) >>> ((7 : Int32) &&& 31))))))] := hD
      refine lv_iinc (v := (nI (i + 1))) (lv' := [(3, .int (nI (i + 1))), (2, .int z), (0, .ref a), (1, .ref a)]) hx hb dX0_putDoubled_46 hl (k := 0) rfl (ii_1 i) (by decide) rfl (fun ls hl => ?_)
      refine lv_goto (tgt := 19) hx hb dX0_putDoubled_49 (by decide) ?_
      have hP : va_P E.1 classes [(a, .inl (E.2.1, 16, .inl (dblS f (i + 1))))] _ := hP
      have hD : va_D A [(a, .inl (E.2.1, 16, .inl (dblS f (i + 1))))] := hD
      exact ih (i + 1) (by omega) (by omega) _ _ _ hP hD hS (lv_sub hl [0, 1, 2, 3] rfl)
set_option maxHeartbeats 4000000 in
set_option maxRecDepth 100000 in
/-- putDoubled, into itself -/
theorem c_X0_putDoubled_A (l : Launch) (E : EE) (a : Nat) (f : Nat → Int32) : Cv l yX0_putDoubled (.code yX0_putDoubled cX0_putDoubled 4 none) ({ frames := 0, cells := 0, slots := 0, locals := 0 }) E [.ref a, .ref a] [(a, .inl (E.2.1, 16, .inl f))] [(a, .inl (E.2.1, 16, .inl (dblA f)))] := by
  refine Cv.of (by decide) (Nat.le_of_ble_eq_true rfl) ?_
  intro p e s m below meth c A ls B hP hD hS hl
  have hl : lv_has ls 4 [(0, .ref a), (1, .ref a)] := hl
  have B : Bd p s m _ meth c cX0_putDoubled 4 none RX0 E A := B
  have hx := B.1
  have hb := B.2.1
  have hP : va_P E.1 classes [(a, .inl (E.2.1, 16, .inl f))] _ := hP
  have hD : va_D A [(a, .inl (E.2.1, 16, .inl f))] := hD
  refine lv_aload_n hx hb dX0_putDoubled_0 rfl (lv_at hl 0 rfl) ?_
  refine lv_iconst (v := 0) hx hb dX0_putDoubled_1 (by decide) ?_
  refine x_ald B hP 0 rfl 0 rfl (by omega) (by decide) dX0_putDoubled_2 ?_
  refine lv_sipush (v := 128) hx hb dX0_putDoubled_3 (by decide) ?_
  refine lv_icmp_lt (tgt := 15) hx hb dX0_putDoubled_6 (by decide) (fun c_6 => ?_) (fun c_6 => ?_)
  · refine lv_iconst (v := 0) hx hb dX0_putDoubled_15 (by decide) ?_
    refine lv_istore_n (lv' := [(2, .int 0), (0, .ref a), (1, .ref a)]) hx hb dX0_putDoubled_16 rfl hl (by decide) rfl (fun ls hl => ?_)
    refine lv_iconst (v := 0) hx hb dX0_putDoubled_17 (by decide) ?_
    refine lv_istore_n (lv' := [(3, .int 0), (2, .int 0), (0, .ref a), (1, .ref a)]) hx hb dX0_putDoubled_18 rfl hl (by decide) rfl (fun ls hl => ?_)
    have hP : va_P E.1 classes [(a, .inl (E.2.1, 16, .inl (dblS f 0)))] _ := hP
    have hD : va_D A [(a, .inl (E.2.1, 16, .inl (dblS f 0)))] := hD
    refine lp_dblA (z := 0) B ⟨by decide, by decide⟩ (fun H locs ls hP hD hS hl => ?_) 16 0 (by omega) (by omega) _ _ _ hP hD hS (lv_sub hl [0, 1, 2, 3] rfl)
    have eZ : foldM f = 0 := if_pos c_6
    refine lv_aload_n hx hb dX0_putDoubled_52 rfl (lv_at hl 3 rfl) ?_
    refine lv_bipush (v := 15) hx hb dX0_putDoubled_53 (by decide) ?_
    refine lv_aload_n hx hb dX0_putDoubled_55 rfl (lv_at hl 2 rfl) ?_
    refine lv_bipush (v := 15) hx hb dX0_putDoubled_56 (by decide) ?_
    refine x_ald B hP 0 rfl 15 rfl (by omega) (by decide) dX0_putDoubled_58 ?_
    refine lv_iconst (v := 1) hx hb dX0_putDoubled_59 (by decide) ?_
    refine lv_ishl hx hb dX0_putDoubled_60 ?_
    refine lv_sipush (v := 255) hx hb dX0_putDoubled_61 (by decide) ?_
    refine lv_iand hx hb dX0_putDoubled_64 ?_
    refine lv_iload_n hx hb dX0_putDoubled_65 rfl (lv_at hl 1 rfl) ?_
    refine lv_ixor hx hb dX0_putDoubled_66 ?_
    refine x_ast B hP hD hS 0 rfl 15 rfl (by omega) (by decide) dX0_putDoubled_67 (fun H locs hP hD hS => ?_)
    have hP : va_P E.1 classes [(a, .inl (E.2.1, 16, .inl (upd (dblS f 15) 15 (((((dblS f 15) 15) <<< ((1 : Int32) &&& 31)) &&& 255) ^^^ 0))))] _ := hP
    have hD : va_D A [(a, .inl (E.2.1, 16, .inl (upd (dblS f 15) 15 (((((dblS f 15) 15) <<< ((1 : Int32) &&& 31)) &&& 255) ^^^ 0))))] := hD
    have hP : va_P E.1 classes [(a, .inl (E.2.1, 16, .inl (dblA f)))] _ := (by unfold dblA; rw [eZ]; exact hP)
    have hD : va_D A [(a, .inl (E.2.1, 16, .inl (dblA f)))] := (by unfold dblA; rw [eZ]; exact hD)
    exact x_vret B hP hD hS dX0_putDoubled_68
  · refine lv_sipush (v := 135) hx hb dX0_putDoubled_9 (by decide) ?_
    refine lv_goto (tgt := 16) hx hb dX0_putDoubled_12 (by decide) ?_
    refine lv_istore_n (lv' := [(2, .int 135), (0, .ref a), (1, .ref a)]) hx hb dX0_putDoubled_16 rfl hl (by decide) rfl (fun ls hl => ?_)
    refine lv_iconst (v := 0) hx hb dX0_putDoubled_17 (by decide) ?_
    refine lv_istore_n (lv' := [(3, .int 0), (2, .int 135), (0, .ref a), (1, .ref a)]) hx hb dX0_putDoubled_18 rfl hl (by decide) rfl (fun ls hl => ?_)
    have hP : va_P E.1 classes [(a, .inl (E.2.1, 16, .inl (dblS f 0)))] _ := hP
    have hD : va_D A [(a, .inl (E.2.1, 16, .inl (dblS f 0)))] := hD
    refine lp_dblA (z := 135) B ⟨by decide, by decide⟩ (fun H locs ls hP hD hS hl => ?_) 16 0 (by omega) (by omega) _ _ _ hP hD hS (lv_sub hl [0, 1, 2, 3] rfl)
    have eZ : foldM f = 135 := if_neg c_6
    refine lv_aload_n hx hb dX0_putDoubled_52 rfl (lv_at hl 3 rfl) ?_
    refine lv_bipush (v := 15) hx hb dX0_putDoubled_53 (by decide) ?_
    refine lv_aload_n hx hb dX0_putDoubled_55 rfl (lv_at hl 2 rfl) ?_
    refine lv_bipush (v := 15) hx hb dX0_putDoubled_56 (by decide) ?_
    refine x_ald B hP 0 rfl 15 rfl (by omega) (by decide) dX0_putDoubled_58 ?_
    refine lv_iconst (v := 1) hx hb dX0_putDoubled_59 (by decide) ?_
    refine lv_ishl hx hb dX0_putDoubled_60 ?_
    refine lv_sipush (v := 255) hx hb dX0_putDoubled_61 (by decide) ?_
    refine lv_iand hx hb dX0_putDoubled_64 ?_
    refine lv_iload_n hx hb dX0_putDoubled_65 rfl (lv_at hl 1 rfl) ?_
    refine lv_ixor hx hb dX0_putDoubled_66 ?_
    refine x_ast B hP hD hS 0 rfl 15 rfl (by omega) (by decide) dX0_putDoubled_67 (fun H locs hP hD hS => ?_)
    have hP : va_P E.1 classes [(a, .inl (E.2.1, 16, .inl (upd (dblS f 15) 15 (((((dblS f 15) 15) <<< ((1 : Int32) &&& 31)) &&& 255) ^^^ 135))))] _ := hP
    have hD : va_D A [(a, .inl (E.2.1, 16, .inl (upd (dblS f 15) 15 (((((dblS f 15) 15) <<< ((1 : Int32) &&& 31)) &&& 255) ^^^ 135))))] := hD
    have hP : va_P E.1 classes [(a, .inl (E.2.1, 16, .inl (dblA f)))] _ := (by unfold dblA; rw [eZ]; exact hP)
    have hD : va_D A [(a, .inl (E.2.1, 16, .inl (dblA f)))] := (by unfold dblA; rw [eZ]; exact hD)
    exact x_vret B hP hD hS dX0_putDoubled_68
theorem fillM_by {x : Int32} {f : Nat → Int32} {n : Nat} (hx : By x) (hf : ∀ i, i < n → By (f i)) : ∀ k, ∀ i, i < n → By (fillM x f k i)
  | 0 => hf
  | k + 1 => By.upd (fillM_by hx hf k) hx
theorem by_0 : By 0 := By.of (j := 0) (by decide)
/-- the first half key's row, the second's, the moved row, after makeHalves -/
def hv1 (fW fF fV : Nat → Int32) : (Nat → Int32) × (Nat → Int32) := forM fW (fillM 0 fF 16) fV 10
set_option maxHeartbeats 4000000 in
set_option maxRecDepth 100000 in
/-- makeHalves -/
theorem c_X0_makeHalves (l : Launch) (E : EE) (oK aB aW aF aG aV : Nat) (fW fF fG fV : Nat → Int32) (mde : Int32) (hW : ∀ i, i < 176 → By (fW i)) (hF : ∀ i, i < 16 → By (fF i)) (hG : ∀ i, i < 16 → By (fG i)) (hV : ∀ i, i < 16 → By (fV i)) : Cv l yX0_makeHalves (.code yX0_makeHalves cX0_makeHalves 1 none) ({ frames := 4, cells := 0, slots := 0, locals := 104 }) E [.ref oK] [(oK, .inr (0, [.ref aB, .ref aW, .ref aF, .ref aG, .ref aV, .int mde])), (aW, .inl (E.2.1, 176, .inl fW)), (aF, .inl (E.2.1, 16, .inl fF)), (aG, .inl (E.2.1, 16, .inl fG)), (aV, .inl (E.2.1, 16, .inl fV))] [(oK, .inr (0, [.ref aB, .ref aW, .ref aF, .ref aG, .ref aV, .int mde])), (aW, .inl (E.2.1, 176, .inl fW)), (aF, .inl (E.2.1, 16, .inl (dblA (hv1 fW fF fV).1))), (aG, .inl (E.2.1, 16, .inl (dblW (dblA (hv1 fW fF fV).1) fG))), (aV, .inl (E.2.1, 16, .inl ((hv1 fW fF fV).2)))] := by
  refine Cv.of (by decide) (Nat.le_of_ble_eq_true rfl) ?_
  intro p e s m below meth c A ls B hP hD hS hl
  have hl : lv_has ls 1 [(0, .ref oK)] := hl
  have B : Bd p s m _ meth c cX0_makeHalves 1 none RX0 E A := B
  have hx := B.1
  have hb := B.2.1
  have hP : va_P E.1 classes [(oK, .inr (0, [.ref aB, .ref aW, .ref aF, .ref aG, .ref aV, .int mde])), (aW, .inl (E.2.1, 176, .inl fW)), (aF, .inl (E.2.1, 16, .inl fF)), (aG, .inl (E.2.1, 16, .inl fG)), (aV, .inl (E.2.1, 16, .inl fV))] _ := hP
  have hD : va_D A [(oK, .inr (0, [.ref aB, .ref aW, .ref aF, .ref aG, .ref aV, .int mde])), (aW, .inl (E.2.1, 176, .inl fW)), (aF, .inl (E.2.1, 16, .inl fF)), (aG, .inl (E.2.1, 16, .inl fG)), (aV, .inl (E.2.1, 16, .inl fV))] := hD
  refine lv_aload_n hx hb dX0_makeHalves_0 rfl (lv_at hl 0 rfl) ?_
  refine x_get B hP 0 rfl rfl i_X0 2 (by decide) g_23 rfl dX0_makeHalves_1 ?_
  refine lv_iconst (v := 0) hx hb dX0_makeHalves_4 (by decide) ?_
  refine x_Sv (wr := [(oK, .inr (0, [.ref aB, .ref aW, .ref aF, .ref aG, .ref aV, .int mde])), (aW, .inl (E.2.1, 176, .inl fW)), (aG, .inl (E.2.1, 16, .inl fG)), (aV, .inl (E.2.1, 16, .inl fV))]) (isC := [2]) (isR := [0, 1, 3, 4]) (As := [.ref aF, .int 0]) B (c_J7_fill_53178 l E aF 16 fF 0 (by decide)) k_J7_fill_53178 g_103 s_J7_fill_53178 ⟨by decide, by decide, rfl, rfl⟩ hP hD hS ⟨rfl, rfl, rfl, rfl, by decide⟩ rfl hl.1 rfl (Nat.le_of_ble_eq_true rfl) dX0_makeHalves_5 ⟨by decide, by decide⟩ (fun H locs hP hD hS => ?_)
  have hP : va_P E.1 classes [(oK, .inr (0, [.ref aB, .ref aW, .ref aF, .ref aG, .ref aV, .int mde])), (aW, .inl (E.2.1, 176, .inl fW)), (aG, .inl (E.2.1, 16, .inl fG)), (aV, .inl (E.2.1, 16, .inl fV)), (aF, .inl (E.2.1, 16, .inl (fillM 0 fF 16)))] _ := hP
  have hD : va_D A [(oK, .inr (0, [.ref aB, .ref aW, .ref aF, .ref aG, .ref aV, .int mde])), (aW, .inl (E.2.1, 176, .inl fW)), (aG, .inl (E.2.1, 16, .inl fG)), (aV, .inl (E.2.1, 16, .inl fV)), (aF, .inl (E.2.1, 16, .inl (fillM 0 fF 16)))] := hD
  refine lv_aload_n hx hb dX0_makeHalves_8 rfl (lv_at hl 0 rfl) ?_
  refine lv_aload_n hx hb dX0_makeHalves_9 rfl (lv_at hl 0 rfl) ?_
  refine x_get B hP 0 rfl rfl i_X0 2 (by decide) g_23 rfl dX0_makeHalves_10 ?_
  refine x_Vv (wr := [(aG, .inl (E.2.1, 16, .inl fG))]) (isC := [0, 1, 3, 4]) (isR := [2]) (As := [.ref aF]) B (c_X0_goForth l E oK aB aW aF aG aV aF fW (fillM 0 fF 16) fV mde hW (fillM_by by_0 hF 16) hV) k_X0_goForth g_156 s_X0_goForth ⟨by decide, by decide, rfl, rfl⟩ rfl 0 rfl hP hD hS ⟨rfl, rfl, rfl, rfl, by decide⟩ rfl hl.1 rfl (Nat.le_of_ble_eq_true rfl) dX0_makeHalves_13 ⟨by decide, by decide⟩ (fun H locs hP hD hS => ?_)
  have hP : va_P E.1 classes [(aG, .inl (E.2.1, 16, .inl fG)), (oK, .inr (0, [.ref aB, .ref aW, .ref aF, .ref aG, .ref aV, .int mde])), (aW, .inl (E.2.1, 176, .inl fW)), (aV, .inl (E.2.1, 16, .inl ((forM fW (fillM 0 fF 16) fV 10).2))), (aF, .inl (E.2.1, 16, .inl ((forM fW (fillM 0 fF 16) fV 10).1)))] _ := hP
  have hD : va_D A [(aG, .inl (E.2.1, 16, .inl fG)), (oK, .inr (0, [.ref aB, .ref aW, .ref aF, .ref aG, .ref aV, .int mde])), (aW, .inl (E.2.1, 176, .inl fW)), (aV, .inl (E.2.1, 16, .inl ((forM fW (fillM 0 fF 16) fV 10).2))), (aF, .inl (E.2.1, 16, .inl ((forM fW (fillM 0 fF 16) fV 10).1)))] := hD
  refine lv_aload_n hx hb dX0_makeHalves_16 rfl (lv_at hl 0 rfl) ?_
  refine x_get B hP 1 rfl rfl i_X0 2 (by decide) g_23 rfl dX0_makeHalves_17 ?_
  refine lv_aload_n hx hb dX0_makeHalves_20 rfl (lv_at hl 0 rfl) ?_
  refine x_get B hP 1 rfl rfl i_X0 2 (by decide) g_23 rfl dX0_makeHalves_21 ?_
  refine x_Sv (wr := [(aG, .inl (E.2.1, 16, .inl fG)), (oK, .inr (0, [.ref aB, .ref aW, .ref aF, .ref aG, .ref aV, .int mde])), (aW, .inl (E.2.1, 176, .inl fW)), (aV, .inl (E.2.1, 16, .inl ((forM fW (fillM 0 fF 16) fV 10).2)))]) (isC := [4]) (isR := [0, 1, 2, 3]) (As := [.ref aF, .ref aF]) B (c_X0_putDoubled_A l E aF ((forM fW (fillM 0 fF 16) fV 10).1)) k_X0_putDoubled g_176 s_X0_putDoubled ⟨by decide, by decide, rfl, rfl⟩ hP hD hS ⟨rfl, rfl, rfl, rfl, by decide⟩ rfl hl.1 rfl (Nat.le_of_ble_eq_true rfl) dX0_makeHalves_24 ⟨by decide, by decide⟩ (fun H locs hP hD hS => ?_)
  have hP : va_P E.1 classes [(aG, .inl (E.2.1, 16, .inl fG)), (oK, .inr (0, [.ref aB, .ref aW, .ref aF, .ref aG, .ref aV, .int mde])), (aW, .inl (E.2.1, 176, .inl fW)), (aV, .inl (E.2.1, 16, .inl ((forM fW (fillM 0 fF 16) fV 10).2))), (aF, .inl (E.2.1, 16, .inl (dblA ((forM fW (fillM 0 fF 16) fV 10).1))))] _ := hP
  have hD : va_D A [(aG, .inl (E.2.1, 16, .inl fG)), (oK, .inr (0, [.ref aB, .ref aW, .ref aF, .ref aG, .ref aV, .int mde])), (aW, .inl (E.2.1, 176, .inl fW)), (aV, .inl (E.2.1, 16, .inl ((forM fW (fillM 0 fF 16) fV 10).2))), (aF, .inl (E.2.1, 16, .inl (dblA ((forM fW (fillM 0 fF 16) fV 10).1))))] := hD
  refine lv_aload_n hx hb dX0_makeHalves_27 rfl (lv_at hl 0 rfl) ?_
  refine x_get B hP 1 rfl rfl i_X0 2 (by decide) g_23 rfl dX0_makeHalves_28 ?_
  refine lv_aload_n hx hb dX0_makeHalves_31 rfl (lv_at hl 0 rfl) ?_
  refine x_get B hP 1 rfl rfl i_X0 3 (by decide) g_26 rfl dX0_makeHalves_32 ?_
  refine x_Sv (wr := [(oK, .inr (0, [.ref aB, .ref aW, .ref aF, .ref aG, .ref aV, .int mde])), (aW, .inl (E.2.1, 176, .inl fW)), (aV, .inl (E.2.1, 16, .inl ((forM fW (fillM 0 fF 16) fV 10).2)))]) (isC := [4, 0]) (isR := [1, 2, 3]) (As := [.ref aF, .ref aG]) B (c_X0_putDoubled l E aF aG (dblA ((forM fW (fillM 0 fF 16) fV 10).1)) fG) k_X0_putDoubled g_176 s_X0_putDoubled ⟨by decide, by decide, rfl, rfl⟩ hP hD hS ⟨rfl, rfl, rfl, rfl, by decide⟩ rfl hl.1 rfl (Nat.le_of_ble_eq_true rfl) dX0_makeHalves_35 ⟨by decide, by decide⟩ (fun H locs hP hD hS => ?_)
  have hP : va_P E.1 classes [(oK, .inr (0, [.ref aB, .ref aW, .ref aF, .ref aG, .ref aV, .int mde])), (aW, .inl (E.2.1, 176, .inl fW)), (aV, .inl (E.2.1, 16, .inl ((forM fW (fillM 0 fF 16) fV 10).2))), (aF, .inl (E.2.1, 16, .inl (dblA ((forM fW (fillM 0 fF 16) fV 10).1)))), (aG, .inl (E.2.1, 16, .inl (dblW (dblA ((forM fW (fillM 0 fF 16) fV 10).1)) fG)))] _ := hP
  have hD : va_D A [(oK, .inr (0, [.ref aB, .ref aW, .ref aF, .ref aG, .ref aV, .int mde])), (aW, .inl (E.2.1, 176, .inl fW)), (aV, .inl (E.2.1, 16, .inl ((forM fW (fillM 0 fF 16) fV 10).2))), (aF, .inl (E.2.1, 16, .inl (dblA ((forM fW (fillM 0 fF 16) fV 10).1)))), (aG, .inl (E.2.1, 16, .inl (dblW (dblA ((forM fW (fillM 0 fF 16) fV 10).1)) fG)))] := hD
  have hP := hP.sub (ws' := [(oK, .inr (0, [.ref aB, .ref aW, .ref aF, .ref aG, .ref aV, .int mde])), (aW, .inl (E.2.1, 176, .inl fW)), (aF, .inl (E.2.1, 16, .inl (dblA ((forM fW (fillM 0 fF 16) fV 10).1)))), (aG, .inl (E.2.1, 16, .inl (dblW (dblA ((forM fW (fillM 0 fF 16) fV 10).1)) fG))), (aV, .inl (E.2.1, 16, .inl ((forM fW (fillM 0 fF 16) fV 10).2)))]) [0, 1, 3, 4, 2] rfl
  have hD := hD.sub (ws' := [(oK, .inr (0, [.ref aB, .ref aW, .ref aF, .ref aG, .ref aV, .int mde])), (aW, .inl (E.2.1, 176, .inl fW)), (aF, .inl (E.2.1, 16, .inl (dblA ((forM fW (fillM 0 fF 16) fV 10).1)))), (aG, .inl (E.2.1, 16, .inl (dblW (dblA ((forM fW (fillM 0 fF 16) fV 10).1)) fG))), (aV, .inl (E.2.1, 16, .inl ((forM fW (fillM 0 fF 16) fV 10).2)))]) [0, 1, 3, 4, 2] (by decide) rfl
  have hP : va_P E.1 classes [(oK, .inr (0, [.ref aB, .ref aW, .ref aF, .ref aG, .ref aV, .int mde])), (aW, .inl (E.2.1, 176, .inl fW)), (aF, .inl (E.2.1, 16, .inl (dblA (hv1 fW fF fV).1))), (aG, .inl (E.2.1, 16, .inl (dblW (dblA (hv1 fW fF fV).1) fG))), (aV, .inl (E.2.1, 16, .inl ((hv1 fW fF fV).2)))] _ := hP
  have hD : va_D A [(oK, .inr (0, [.ref aB, .ref aW, .ref aF, .ref aG, .ref aV, .int mde])), (aW, .inl (E.2.1, 176, .inl fW)), (aF, .inl (E.2.1, 16, .inl (dblA (hv1 fW fF fV).1))), (aG, .inl (E.2.1, 16, .inl (dblW (dblA (hv1 fW fF fV).1) fG))), (aV, .inl (E.2.1, 16, .inl ((hv1 fW fF fV).2)))] := hD
  exact x_vret B hP hD hS dX0_makeHalves_38
set_option maxHeartbeats 4000000 in
set_option maxRecDepth 100000 in
/-- make -/
theorem c_X0_make (l : Launch) (E : EE) (oK aB aW aF aG aV : Nat) (fB fW fF fG fV : Nat → Int32) (mde : Int32) (hB : ∀ i, i < 16 → By (fB i)) (hW : ∀ i, i < 176 → By (fW i)) (hF : ∀ i, i < 16 → By (fF i)) (hG : ∀ i, i < 16 → By (fG i)) (hV : ∀ i, i < 16 → By (fV i)) : Cv l yX0_make (.code yX0_make cX0_make 1 none) ({ frames := 5, cells := 0, slots := 0, locals := 124 }) E [.ref oK] [(oK, .inr (0, [.ref aB, .ref aW, .ref aF, .ref aG, .ref aV, .int mde])), (aB, .inl (E.2.1, 16, .inl fB)), (aW, .inl (E.2.1, 176, .inl fW)), (aF, .inl (E.2.1, 16, .inl fF)), (aG, .inl (E.2.1, 16, .inl fG)), (aV, .inl (E.2.1, 16, .inl fV))] [(oK, .inr (0, [.ref aB, .ref aW, .ref aF, .ref aG, .ref aV, .int 1])), (aB, .inl (E.2.1, 16, .inl fB)), (aW, .inl (E.2.1, 176, .inl ((wordM (va_cpy fB fW 0 0 16) 40).1))), (aF, .inl (E.2.1, 16, .inl (dblA (hv1 (wordM (va_cpy fB fW 0 0 16) 40).1 fF fV).1))), (aG, .inl (E.2.1, 16, .inl (dblW (dblA (hv1 (wordM (va_cpy fB fW 0 0 16) 40).1 fF fV).1) fG))), (aV, .inl (E.2.1, 16, .inl ((hv1 (wordM (va_cpy fB fW 0 0 16) 40).1 fF fV).2)))] := by
  refine Cv.of (by decide) (Nat.le_of_ble_eq_true rfl) ?_
  intro p e s m below meth c A ls B hP hD hS hl
  have hl : lv_has ls 1 [(0, .ref oK)] := hl
  have B : Bd p s m _ meth c cX0_make 1 none RX0 E A := B
  have hx := B.1
  have hb := B.2.1
  have hP : va_P E.1 classes [(oK, .inr (0, [.ref aB, .ref aW, .ref aF, .ref aG, .ref aV, .int mde])), (aB, .inl (E.2.1, 16, .inl fB)), (aW, .inl (E.2.1, 176, .inl fW)), (aF, .inl (E.2.1, 16, .inl fF)), (aG, .inl (E.2.1, 16, .inl fG)), (aV, .inl (E.2.1, 16, .inl fV))] _ := hP
  have hD : va_D A [(oK, .inr (0, [.ref aB, .ref aW, .ref aF, .ref aG, .ref aV, .int mde])), (aB, .inl (E.2.1, 16, .inl fB)), (aW, .inl (E.2.1, 176, .inl fW)), (aF, .inl (E.2.1, 16, .inl fF)), (aG, .inl (E.2.1, 16, .inl fG)), (aV, .inl (E.2.1, 16, .inl fV))] := hD
  refine lv_aload_n hx hb dX0_make_0 rfl (lv_at hl 0 rfl) ?_
  refine x_Vv (wr := [(aF, .inl (E.2.1, 16, .inl fF)), (aG, .inl (E.2.1, 16, .inl fG)), (aV, .inl (E.2.1, 16, .inl fV))]) (isC := [0, 1, 2]) (isR := [3, 4, 5]) (As := []) B (c_X0_makeWords l E oK aB aW aF aG aV fB fW mde hB hW) k_X0_makeWords g_132 s_X0_makeWords ⟨by decide, by decide, rfl, rfl⟩ rfl 0 rfl hP hD hS ⟨rfl, rfl, rfl, rfl, by decide⟩ rfl hl.1 rfl (Nat.le_of_ble_eq_true rfl) dX0_make_1 ⟨by decide, by decide⟩ (fun H locs hP hD hS => ?_)
  have hP : va_P E.1 classes [(aF, .inl (E.2.1, 16, .inl fF)), (aG, .inl (E.2.1, 16, .inl fG)), (aV, .inl (E.2.1, 16, .inl fV)), (oK, .inr (0, [.ref aB, .ref aW, .ref aF, .ref aG, .ref aV, .int mde])), (aB, .inl (E.2.1, 16, .inl fB)), (aW, .inl (E.2.1, 176, .inl ((wordM (va_cpy fB fW 0 0 16) 40).1)))] _ := hP
  have hD : va_D A [(aF, .inl (E.2.1, 16, .inl fF)), (aG, .inl (E.2.1, 16, .inl fG)), (aV, .inl (E.2.1, 16, .inl fV)), (oK, .inr (0, [.ref aB, .ref aW, .ref aF, .ref aG, .ref aV, .int mde])), (aB, .inl (E.2.1, 16, .inl fB)), (aW, .inl (E.2.1, 176, .inl ((wordM (va_cpy fB fW 0 0 16) 40).1)))] := hD
  refine lv_aload_n hx hb dX0_make_4 rfl (lv_at hl 0 rfl) ?_
  refine x_Vv (wr := [(aB, .inl (E.2.1, 16, .inl fB))]) (isC := [3, 5, 0, 1, 2]) (isR := [4]) (As := []) B (c_X0_makeHalves l E oK aB aW aF aG aV ((wordM (va_cpy fB fW 0 0 16) 40).1) fF fG fV mde ((wordM_by (By.cpy (N := 16) (by decide) hB hW) 40 (by decide)).1) hF hG hV) k_X0_makeHalves g_152 s_X0_makeHalves ⟨by decide, by decide, rfl, rfl⟩ rfl 3 rfl hP hD hS ⟨rfl, rfl, rfl, rfl, by decide⟩ rfl hl.1 rfl (Nat.le_of_ble_eq_true rfl) dX0_make_5 ⟨by decide, by decide⟩ (fun H locs hP hD hS => ?_)
  have hP : va_P E.1 classes [(aB, .inl (E.2.1, 16, .inl fB)), (oK, .inr (0, [.ref aB, .ref aW, .ref aF, .ref aG, .ref aV, .int mde])), (aW, .inl (E.2.1, 176, .inl ((wordM (va_cpy fB fW 0 0 16) 40).1))), (aF, .inl (E.2.1, 16, .inl (dblA (hv1 ((wordM (va_cpy fB fW 0 0 16) 40).1) fF fV).1))), (aG, .inl (E.2.1, 16, .inl (dblW (dblA (hv1 ((wordM (va_cpy fB fW 0 0 16) 40).1) fF fV).1) fG))), (aV, .inl (E.2.1, 16, .inl ((hv1 ((wordM (va_cpy fB fW 0 0 16) 40).1) fF fV).2)))] _ := hP
  have hD : va_D A [(aB, .inl (E.2.1, 16, .inl fB)), (oK, .inr (0, [.ref aB, .ref aW, .ref aF, .ref aG, .ref aV, .int mde])), (aW, .inl (E.2.1, 176, .inl ((wordM (va_cpy fB fW 0 0 16) 40).1))), (aF, .inl (E.2.1, 16, .inl (dblA (hv1 ((wordM (va_cpy fB fW 0 0 16) 40).1) fF fV).1))), (aG, .inl (E.2.1, 16, .inl (dblW (dblA (hv1 ((wordM (va_cpy fB fW 0 0 16) 40).1) fF fV).1) fG))), (aV, .inl (E.2.1, 16, .inl ((hv1 ((wordM (va_cpy fB fW 0 0 16) 40).1) fF fV).2)))] := hD
  refine lv_aload_n hx hb dX0_make_8 rfl (lv_at hl 0 rfl) ?_
  refine lv_iconst (v := 1) hx hb dX0_make_9 (by decide) ?_
  refine x_put B hP hD hS 1 rfl rfl i_X0 tyX0 tyX0_ok nmX0 5 (by decide) g_30 rfl rfl rfl (Nat.le_of_ble_eq_true rfl) dX0_make_10 (fun H locs hP hD hS => ?_)
  have hP : va_P E.1 classes [(aB, .inl (E.2.1, 16, .inl fB)), (oK, .inr (0, [.ref aB, .ref aW, .ref aF, .ref aG, .ref aV, .int 1])), (aW, .inl (E.2.1, 176, .inl ((wordM (va_cpy fB fW 0 0 16) 40).1))), (aF, .inl (E.2.1, 16, .inl (dblA (hv1 ((wordM (va_cpy fB fW 0 0 16) 40).1) fF fV).1))), (aG, .inl (E.2.1, 16, .inl (dblW (dblA (hv1 ((wordM (va_cpy fB fW 0 0 16) 40).1) fF fV).1) fG))), (aV, .inl (E.2.1, 16, .inl ((hv1 ((wordM (va_cpy fB fW 0 0 16) 40).1) fF fV).2)))] _ := hP
  have hD : va_D A [(aB, .inl (E.2.1, 16, .inl fB)), (oK, .inr (0, [.ref aB, .ref aW, .ref aF, .ref aG, .ref aV, .int 1])), (aW, .inl (E.2.1, 176, .inl ((wordM (va_cpy fB fW 0 0 16) 40).1))), (aF, .inl (E.2.1, 16, .inl (dblA (hv1 ((wordM (va_cpy fB fW 0 0 16) 40).1) fF fV).1))), (aG, .inl (E.2.1, 16, .inl (dblW (dblA (hv1 ((wordM (va_cpy fB fW 0 0 16) 40).1) fF fV).1) fG))), (aV, .inl (E.2.1, 16, .inl ((hv1 ((wordM (va_cpy fB fW 0 0 16) 40).1) fF fV).2)))] := hD
  have hP := hP.sub (ws' := [(oK, .inr (0, [.ref aB, .ref aW, .ref aF, .ref aG, .ref aV, .int 1])), (aB, .inl (E.2.1, 16, .inl fB)), (aW, .inl (E.2.1, 176, .inl ((wordM (va_cpy fB fW 0 0 16) 40).1))), (aF, .inl (E.2.1, 16, .inl (dblA (hv1 ((wordM (va_cpy fB fW 0 0 16) 40).1) fF fV).1))), (aG, .inl (E.2.1, 16, .inl (dblW (dblA (hv1 ((wordM (va_cpy fB fW 0 0 16) 40).1) fF fV).1) fG))), (aV, .inl (E.2.1, 16, .inl ((hv1 ((wordM (va_cpy fB fW 0 0 16) 40).1) fF fV).2)))]) [1, 0, 2, 3, 4, 5] rfl
  have hD := hD.sub (ws' := [(oK, .inr (0, [.ref aB, .ref aW, .ref aF, .ref aG, .ref aV, .int 1])), (aB, .inl (E.2.1, 16, .inl fB)), (aW, .inl (E.2.1, 176, .inl ((wordM (va_cpy fB fW 0 0 16) 40).1))), (aF, .inl (E.2.1, 16, .inl (dblA (hv1 ((wordM (va_cpy fB fW 0 0 16) 40).1) fF fV).1))), (aG, .inl (E.2.1, 16, .inl (dblW (dblA (hv1 ((wordM (va_cpy fB fW 0 0 16) 40).1) fF fV).1) fG))), (aV, .inl (E.2.1, 16, .inl ((hv1 ((wordM (va_cpy fB fW 0 0 16) 40).1) fF fV).2)))]) [1, 0, 2, 3, 4, 5] (by decide) rfl
  have hP : va_P E.1 classes [(oK, .inr (0, [.ref aB, .ref aW, .ref aF, .ref aG, .ref aV, .int 1])), (aB, .inl (E.2.1, 16, .inl fB)), (aW, .inl (E.2.1, 176, .inl ((wordM (va_cpy fB fW 0 0 16) 40).1))), (aF, .inl (E.2.1, 16, .inl (dblA (hv1 (wordM (va_cpy fB fW 0 0 16) 40).1 fF fV).1))), (aG, .inl (E.2.1, 16, .inl (dblW (dblA (hv1 (wordM (va_cpy fB fW 0 0 16) 40).1 fF fV).1) fG))), (aV, .inl (E.2.1, 16, .inl ((hv1 (wordM (va_cpy fB fW 0 0 16) 40).1 fF fV).2)))] _ := hP
  have hD : va_D A [(oK, .inr (0, [.ref aB, .ref aW, .ref aF, .ref aG, .ref aV, .int 1])), (aB, .inl (E.2.1, 16, .inl fB)), (aW, .inl (E.2.1, 176, .inl ((wordM (va_cpy fB fW 0 0 16) 40).1))), (aF, .inl (E.2.1, 16, .inl (dblA (hv1 (wordM (va_cpy fB fW 0 0 16) 40).1 fF fV).1))), (aG, .inl (E.2.1, 16, .inl (dblW (dblA (hv1 (wordM (va_cpy fB fW 0 0 16) 40).1 fF fV).1) fG))), (aV, .inl (E.2.1, 16, .inl ((hv1 (wordM (va_cpy fB fW 0 0 16) 40).1 fF fV).2)))] := hD
  exact x_vret B hP hD hS dX0_make_13
set_option maxHeartbeats 4000000 in
set_option maxRecDepth 100000 in
/-- put -/
theorem c_X0_put (l : Launch) (E : EE) (oK aB aW aF aG aV : Nat) (fB : Nat → Int32) (mde : Int32) (k : Nat) (v x : Int32) (hv : v = nI k) (hk : k < 16) : Cv l yX0_put (.code yX0_put cX0_put 3 none) ({ frames := 0, cells := 0, slots := 0, locals := 0 }) E [.ref oK, .int v, .int x] [(oK, .inr (0, [.ref aB, .ref aW, .ref aF, .ref aG, .ref aV, .int mde])), (aB, .inl (E.2.1, 16, .inl fB))] [(oK, .inr (0, [.ref aB, .ref aW, .ref aF, .ref aG, .ref aV, .int 0])), (aB, .inl (E.2.1, 16, .inl (upd fB k x)))] := by
  refine Cv.of (by decide) (Nat.le_of_ble_eq_true rfl) ?_
  intro p e s m below meth c A ls B hP hD hS hl
  have hl : lv_has ls 3 [(0, .ref oK), (1, .int v), (2, .int x)] := hl
  have B : Bd p s m _ meth c cX0_put 3 none RX0 E A := B
  have hx := B.1
  have hb := B.2.1
  have hP : va_P E.1 classes [(oK, .inr (0, [.ref aB, .ref aW, .ref aF, .ref aG, .ref aV, .int mde])), (aB, .inl (E.2.1, 16, .inl fB))] _ := hP
  have hD : va_D A [(oK, .inr (0, [.ref aB, .ref aW, .ref aF, .ref aG, .ref aV, .int mde])), (aB, .inl (E.2.1, 16, .inl fB))] := hD
  refine lv_aload_n hx hb dX0_put_0 rfl (lv_at hl 0 rfl) ?_
  refine x_get B hP 0 rfl rfl i_X0 0 (by decide) g_21 rfl dX0_put_1 ?_
  refine lv_iload_n hx hb dX0_put_4 rfl (lv_at hl 1 rfl) ?_
  refine lv_iload_n hx hb dX0_put_5 rfl (lv_at hl 2 rfl) ?_
  refine x_ast B hP hD hS 1 rfl k hv (by omega) (by decide) dX0_put_6 (fun H locs hP hD hS => ?_)
  have hP : va_P E.1 classes [(oK, .inr (0, [.ref aB, .ref aW, .ref aF, .ref aG, .ref aV, .int mde])), (aB, .inl (E.2.1, 16, .inl (upd fB k x)))] _ := hP
  have hD : va_D A [(oK, .inr (0, [.ref aB, .ref aW, .ref aF, .ref aG, .ref aV, .int mde])), (aB, .inl (E.2.1, 16, .inl (upd fB k x)))] := hD
  refine lv_aload_n hx hb dX0_put_7 rfl (lv_at hl 0 rfl) ?_
  refine lv_iconst (v := 0) hx hb dX0_put_8 (by decide) ?_
  refine x_put B hP hD hS 0 rfl rfl i_X0 tyX0 tyX0_ok nmX0 5 (by decide) g_30 rfl rfl rfl (Nat.le_of_ble_eq_true rfl) dX0_put_9 (fun H locs hP hD hS => ?_)
  have hP : va_P E.1 classes [(oK, .inr (0, [.ref aB, .ref aW, .ref aF, .ref aG, .ref aV, .int 0])), (aB, .inl (E.2.1, 16, .inl (upd fB k x)))] _ := hP
  have hD : va_D A [(oK, .inr (0, [.ref aB, .ref aW, .ref aF, .ref aG, .ref aV, .int 0])), (aB, .inl (E.2.1, 16, .inl (upd fB k x)))] := hD
  have hP : va_P E.1 classes [(oK, .inr (0, [.ref aB, .ref aW, .ref aF, .ref aG, .ref aV, .int 0])), (aB, .inl (E.2.1, 16, .inl (upd fB k x)))] _ := hP
  have hD : va_D A [(oK, .inr (0, [.ref aB, .ref aW, .ref aF, .ref aG, .ref aV, .int 0])), (aB, .inl (E.2.1, 16, .inl (upd fB k x)))] := hD
  exact x_vret B hP hD hS dX0_put_12
