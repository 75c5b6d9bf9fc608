set_option maxHeartbeats 4000000 in
set_option maxRecDepth 100000 in
theorem lp_xor {p : Program} {l : Launch} {e : Env} {R : Room} {s : State} {m : MethodId} {args : Array Value} {below : List Frame} {meth : Method} {c : Code} {cells slots : Nat} {Q : State → Prop} {E : EE} {A : Nat → Prop} {a b n fr : Nat} {f g : Nat → Int32} {v : Int32} (B : Bd p s m args meth c cX2_xor 4 none RX2 E A) (hf : cells ≤ R.cells ∧ slots ≤ R.slots) (hv : v = nI fr) (hn : fr + 16 ≤ n) (hN : n < 2 ^ 31)
    (kk : ∀ (H : Heap) (locs : List Loc) (ls : Array Slot), va_P E.1 classes [(a, .inl (E.2.1, 16, .inl (xorM g fr f 16))), (b, .inl (E.2.1, n, .inl g))] H → va_D A [(a, .inl (E.2.1, 16, .inl (xorM g fr f 16))), (b, .inl (E.2.1, n, .inl g))] → va_S A s.heap H locs → lv_has ls 4 [(3, .int (nI 16)), (0, .ref a), (1, .ref b), (2, .int v)] → W p l e R s m args below meth c H locs cells slots Q (F0 m 25 ls [])) :
    ∀ (fu i : Nat), i ≤ 16 → 16 < i + fu → ∀ (H : Heap) (locs : List Loc) (ls : Array Slot), va_P E.1 classes [(a, .inl (E.2.1, 16, .inl (xorM g fr f i))), (b, .inl (E.2.1, n, .inl g))] H → va_D A [(a, .inl (E.2.1, 16, .inl (xorM g fr f i))), (b, .inl (E.2.1, n, .inl g))] → va_S A s.heap H locs → lv_has ls 4 [(3, .int (nI i)), (0, .ref a), (1, .ref b), (2, .int v)] → W p l e R s m args below meth c H locs cells slots Q (F0 m 2 ls []) := by
  have hx := B.1
  have hb := B.2.1
  intro fu
  induction fu with
  | zero =>
    intro i h1 h2
    exact absurd h2 (by omega)
  | succ fu ih =>
    intro i hi hin H locs ls hP hD hS hl
    refine lv_iload_n hx hb dX2_xor_2 rfl (lv_at hl 0 rfl) ?_
    refine lv_bipush (v := 16) hx hb dX2_xor_3 (by decide) ?_
    refine lv_icmp_ge (tgt := 25) hx hb dX2_xor_5 (by decide) (fun c_5 => ?_) (fun c_5 => ?_)
    · have hj : i = 16 := by have := ge_t (b := 16) c_5 (by omega) (by omega); omega
      subst hj
      exact kk _ _ _ hP hD hS hl
    · have hj : i < 16 := by have := ge_f (b := 16) c_5 (by omega) (by omega); omega
      refine lv_aload_n hx hb dX2_xor_8 rfl (lv_at hl 1 rfl) ?_
      refine lv_iload_n hx hb dX2_xor_9 rfl (lv_at hl 0 rfl) ?_
      refine lv_dup2_11 hx hb dX2_xor_10 rfl rfl ?_
      refine x_ald B hP 0 rfl i rfl (by omega) (by decide) dX2_xor_11 ?_
      refine lv_aload_n hx hb dX2_xor_12 rfl (lv_at hl 2 rfl) ?_
      refine lv_iload_n hx hb dX2_xor_13 rfl (lv_at hl 3 rfl) ?_
      refine lv_iload_n hx hb dX2_xor_14 rfl (lv_at hl 0 rfl) ?_
      refine lv_iadd hx hb dX2_xor_15 ?_
      refine x_ald B hP 1 rfl (fr + i) (na_add hv rfl) (by omega) (by omega) dX2_xor_16 ?_
      refine lv_ixor hx hb dX2_xor_17 ?_
      refine x_ast B hP hD hS 0 rfl i rfl (by omega) (by decide) dX2_xor_18 (fun H locs hP hD hS => ?_)
      have hP : va_P E.1 classes [(a, .inl (E.2.1, 16, .inl (upd (xorM g fr f i) i (((xorM g fr f i) i) ^^^ (g (fr + i)))))), (b, .inl (E.2.1, n, .inl g))] _ := hP
      have hD : va_D A [(a, .inl (E.2.1, 16, .inl (upd (xorM g fr f i) i (((xorM g fr f i) i) ^^^ (g (fr + i)))))), (b, .inl (E.2.1, n, .inl g))] := hD
      refine lv_iinc (v := (nI (i + 1))) (lv' := [(3, .int (nI (i + 1))), (0, .ref a), (1, .ref b), (2, .int v)]) hx hb dX2_xor_19 hl (k := 0) rfl (ii_1 i) (by decide) rfl (fun ls hl => ?_)
      refine lv_goto (tgt := 2) hx hb dX2_xor_22 (by decide) ?_
      have hP : va_P E.1 classes [(a, .inl (E.2.1, 16, .inl (xorM g fr f (i + 1)))), (b, .inl (E.2.1, n, .inl g))] _ := hP
      have hD : va_D A [(a, .inl (E.2.1, 16, .inl (xorM g fr f (i + 1)))), (b, .inl (E.2.1, n, .inl g))] := hD
      exact ih (i + 1) (by omega) (by omega) _ _ _ hP hD hS (lv_sub hl [0, 1, 2, 3] rfl)
set_option maxHeartbeats 4000000 in
set_option maxRecDepth 100000 in
/-- xor -/
theorem c_X2_xor (l : Launch) (E : EE) (a b n fr : Nat) (f g : Nat → Int32) (v : Int32) (hv : v = nI fr) (hn : fr + 16 ≤ n) (hN : n < 2 ^ 31) : Cv l yX2_xor (.code yX2_xor cX2_xor 4 none) ({ frames := 0, cells := 0, slots := 0, locals := 0 }) E [.ref a, .ref b, .int v] [(a, .inl (E.2.1, 16, .inl f)), (b, .inl (E.2.1, n, .inl g))] [(a, .inl (E.2.1, 16, .inl (xorM g fr f 16))), (b, .inl (E.2.1, n, .inl g))] := by
  refine Cv.of (by decide) (Nat.le_of_ble_eq_true rfl) ?_
  intro p e s m below meth c A ls B hP hD hS hl
  have hl : lv_has ls 4 [(0, .ref a), (1, .ref b), (2, .int v)] := hl
  have B : Bd p s m _ meth c cX2_xor 4 none RX2 E A := B
  have hx := B.1
  have hb := B.2.1
  have hP : va_P E.1 classes [(a, .inl (E.2.1, 16, .inl f)), (b, .inl (E.2.1, n, .inl g))] _ := hP
  have hD : va_D A [(a, .inl (E.2.1, 16, .inl f)), (b, .inl (E.2.1, n, .inl g))] := hD
  refine lv_iconst (v := 0) hx hb dX2_xor_0 (by decide) ?_
  refine lv_istore_n (lv' := [(3, .int 0), (0, .ref a), (1, .ref b), (2, .int v)]) hx hb dX2_xor_1 rfl hl (by decide) rfl (fun ls hl => ?_)
  have hP : va_P E.1 classes [(a, .inl (E.2.1, 16, .inl (xorM g fr f 0))), (b, .inl (E.2.1, n, .inl g))] _ := hP
  have hD : va_D A [(a, .inl (E.2.1, 16, .inl (xorM g fr f 0))), (b, .inl (E.2.1, n, .inl g))] := hD
  refine lp_xor B ⟨by decide, by decide⟩ hv hn hN (fun H locs ls hP hD hS hl => ?_) 17 0 (by omega) (by omega) _ _ _ hP hD hS (lv_sub hl [0, 1, 2, 3] rfl)
  have hP : va_P E.1 classes [(a, .inl (E.2.1, 16, .inl (xorM g fr f 16))), (b, .inl (E.2.1, n, .inl g))] _ := hP
  have hD : va_D A [(a, .inl (E.2.1, 16, .inl (xorM g fr f 16))), (b, .inl (E.2.1, n, .inl g))] := hD
  exact x_vret B hP hD hS dX2_xor_25
set_option maxHeartbeats 4000000 in
set_option maxRecDepth 100000 in
/-- twice -/
theorem c_X0_twice (l : Launch) (E : EE) (a : Int32) : Ci l yX0_twice (.code yX0_twice cX0_twice 1 (some .int)) ({ frames := 0, cells := 0, slots := 0, locals := 0 }) E [.int a] (twM a) [] [] := by
  refine Ci.of (by decide) (Nat.le_of_ble_eq_true rfl) ?_
  intro p e s m below meth c A ls B hP hD hS hl
  have hl : lv_has ls 1 [(0, .int a)] := hl
  have B : Bd p s m _ meth c cX0_twice 1 (some .int) RX0 E A := B
  have hx := B.1
  have hb := B.2.1
  have hP : va_P E.1 classes [] _ := hP
  have hD : va_D A [] := hD
  refine lv_iload_n hx hb dX0_twice_0 rfl (lv_at hl 0 rfl) ?_
  refine lv_sipush (v := 128) hx hb dX0_twice_1 (by decide) ?_
  refine lv_icmp_ge (tgt := 13) hx hb dX0_twice_4 (by decide) (fun c_4 => ?_) (fun c_4 => ?_)
  · refine lv_iload_n hx hb dX0_twice_13 rfl (lv_at hl 0 rfl) ?_
    refine lv_iconst (v := 1) hx hb dX0_twice_14 (by decide) ?_
    refine lv_ishl hx hb dX0_twice_15 ?_
    refine lv_sipush (v := 283) hx hb dX0_twice_16 (by decide) ?_
    refine lv_ixor hx hb dX0_twice_19 ?_
    have hP : va_P E.1 classes [] _ := hP
    have hD : va_D A [] := hD
    exact x_iret B hP hD hS rfl (by unfold twM; first | exact (if_pos c_4).symm | exact (if_neg c_4).symm) dX0_twice_20
  · refine lv_iload_n hx hb dX0_twice_7 rfl (lv_at hl 0 rfl) ?_
    refine lv_iconst (v := 1) hx hb dX0_twice_8 (by decide) ?_
    refine lv_ishl hx hb dX0_twice_9 ?_
    refine lv_goto (tgt := 20) hx hb dX0_twice_10 (by decide) ?_
    have hP : va_P E.1 classes [] _ := hP
    have hD : va_D A [] := hD
    exact x_iret B hP hD hS rfl (by unfold twM; first | exact (if_pos c_4).symm | exact (if_neg c_4).symm) dX0_twice_20
set_option maxHeartbeats 4000000 in
set_option maxRecDepth 100000 in
/-- mixed -/
theorem c_X0_mixed (l : Launch) (E : EE) (x1 x2 x3 x4 : Int32) : Ci l yX0_mixed (.code yX0_mixed cX0_mixed 4 (some .int)) ({ frames := 1, cells := 0, slots := 0, locals := 20 }) E [.int x1, .int x2, .int x3, .int x4] (mxE x1 x2 x3 x4) [] [] := by
  refine Ci.of (by decide) (Nat.le_of_ble_eq_true rfl) ?_
  intro p e s m below meth c A ls B hP hD hS hl
  have hl : lv_has ls 4 [(0, .int x1), (1, .int x2), (2, .int x3), (3, .int x4)] := hl
  have B : Bd p s m _ meth c cX0_mixed 4 (some .int) RX0 E A := B
  have hx := B.1
  have hb := B.2.1
  have hP : va_P E.1 classes [] _ := hP
  have hD : va_D A [] := hD
  refine lv_iload_n hx hb dX0_mixed_0 rfl (lv_at hl 0 rfl) ?_
  refine lv_iload_n hx hb dX0_mixed_1 rfl (lv_at hl 1 rfl) ?_
  refine lv_ixor hx hb dX0_mixed_2 ?_
  refine x_Si (wr := []) (isC := []) (isR := []) (As := [.int (x1 ^^^ x2)]) B (c_X0_twice l E (x1 ^^^ x2)) k_X0_twice g_145 s_X0_twice ⟨by decide, by decide, rfl, rfl⟩ hP hD hS ⟨rfl, rfl, rfl, rfl, by decide⟩ rfl hl.1 rfl (Nat.le_of_ble_eq_true rfl) dX0_mixed_3 ⟨by decide, by decide⟩ (fun H locs hP hD hS => ?_)
  have hP : va_P E.1 classes [] _ := hP
  have hD : va_D A [] := hD
  refine lv_iload_n hx hb dX0_mixed_6 rfl (lv_at hl 1 rfl) ?_
  refine lv_ixor hx hb dX0_mixed_7 ?_
  refine lv_iload_n hx hb dX0_mixed_8 rfl (lv_at hl 2 rfl) ?_
  refine lv_ixor hx hb dX0_mixed_9 ?_
  refine lv_iload_n hx hb dX0_mixed_10 rfl (lv_at hl 3 rfl) ?_
  refine lv_ixor hx hb dX0_mixed_11 ?_
  have hP : va_P E.1 classes [] _ := hP
  have hD : va_D A [] := hD
  exact x_iret B hP hD hS rfl rfl dX0_mixed_12
set_option maxHeartbeats 4000000 in
set_option maxRecDepth 100000 in
/-- source -/
theorem c_X0_source (l : Launch) (E : EE) (k : Nat) (v : Int32) (hv : v = nI k) (hk : k < 16) : Ci l yX0_source (.code yX0_source cX0_source 1 (some .int)) ({ frames := 0, cells := 0, slots := 0, locals := 0 }) E [.int v] (nI (srcM k)) [] [] := by
  refine Ci.of (by decide) (Nat.le_of_ble_eq_true rfl) ?_
  intro p e s m below meth c A ls B hP hD hS hl
  have hl : lv_has ls 1 [(0, .int v)] := hl
  have B : Bd p s m _ meth c cX0_source 1 (some .int) RX0 E A := B
  have hx := B.1
  have hb := B.2.1
  have hP : va_P E.1 classes [] _ := hP
  have hD : va_D A [] := hD
  refine lv_iload_n hx hb dX0_source_0 rfl (lv_at hl 0 rfl) ?_
  refine lv_iconst (v := 4) hx hb dX0_source_1 (by decide) ?_
  refine lv_iload_n hx hb dX0_source_2 rfl (lv_at hl 0 rfl) ?_
  refine lv_iconst (v := 4) hx hb dX0_source_3 (by decide) ?_
  refine lv_irem hx hb dX0_source_4 (by decide) ?_
  refine lv_imul hx hb dX0_source_5 ?_
  refine lv_iadd hx hb dX0_source_6 ?_
  refine lv_bipush (v := 16) hx hb dX0_source_7 (by decide) ?_
  refine lv_irem hx hb dX0_source_9 (by decide) ?_
  have hP : va_P E.1 classes [] _ := hP
  have hD : va_D A [] := hD
  exact x_iret B hP hD hS rfl (na_rem (na_add hv (na_mul rfl (na_rem hv rfl (by omega) (by decide) (by decide)))) rfl (by omega) (by decide) (by decide)) dX0_source_10
set_option maxHeartbeats 4000000 in
set_option maxRecDepth 100000 in
theorem lp_mix {p : Program} {l : Launch} {e : Env} {R : Room} {s : State} {m : MethodId} {args : Array Value} {below : List Frame} {meth : Method} {c : Code} {cells slots : Nat} {Q : State → Prop} {E : EE} {A : Nat → Prop} {a : Nat} {f : Nat → Int32} (B : Bd p s m args meth c cX0_mix 6 none RX0 E A) (hf : cells ≤ R.cells ∧ slots ≤ R.slots) (hR : 2 ≤ R.frames ∧ 43 ≤ R.locals) (hF : ∀ i, i < 16 → By (f i))
    (kk : ∀ (H : Heap) (locs : List Loc) (ls : Array Slot), va_P E.1 classes [(a, .inl (E.2.1, 16, .inl (mixM f 4)))] H → va_D A [(a, .inl (E.2.1, 16, .inl (mixM f 4)))] → va_S A s.heap H locs → lv_has ls 6 [(1, .int (nI (4 * 4))), (0, .ref a)] → W p l e R s m args below meth c H locs cells slots Q (F0 m 92 ls [])) :
    ∀ (fu i : Nat), i ≤ 4 → 4 < i + fu → ∀ (H : Heap) (locs : List Loc) (ls : Array Slot), va_P E.1 classes [(a, .inl (E.2.1, 16, .inl (mixM f i)))] H → va_D A [(a, .inl (E.2.1, 16, .inl (mixM f i)))] → va_S A s.heap H locs → lv_has ls 6 [(1, .int (nI (4 * i))), (0, .ref a)] → W p l e R s m args below meth c H locs cells slots Q (F0 m 2 ls []) := by
  have hx := B.1
  have hb := B.2.1
  intro fu
  induction fu with
  | zero =>
    intro i h1 h2
    exact absurd h2 (by omega)
  | succ fu ih =>
    intro i hi hin H locs ls hP hD hS hl
    refine lv_iload_n hx hb dX0_mix_2 rfl (lv_at hl 0 rfl) ?_
    refine lv_bipush (v := 16) hx hb dX0_mix_3 (by decide) ?_
    refine lv_icmp_ge (tgt := 92) hx hb dX0_mix_5 (by decide) (fun c_5 => ?_) (fun c_5 => ?_)
    · have hj : i = 4 := by have := ge_t (b := 16) c_5 (by omega) (by omega); omega
      subst hj
      exact kk _ _ _ hP hD hS hl
    · have hj : i < 4 := by have := ge_f (b := 16) c_5 (by omega) (by omega); omega
      refine lv_aload_n hx hb dX0_mix_8 rfl (lv_at hl 1 rfl) ?_
      refine lv_iload_n hx hb dX0_mix_9 rfl (lv_at hl 0 rfl) ?_
      refine x_ald B hP 0 rfl (4 * i) rfl (by omega) (by decide) dX0_mix_10 ?_
      refine lv_istore_n (lv' := [(2, .int ((mixM f i) (4 * i))), (1, .int (nI (4 * i))), (0, .ref a)]) hx hb dX0_mix_11 rfl hl (by decide) rfl (fun ls hl => ?_)
      refine lv_aload_n hx hb dX0_mix_12 rfl (lv_at hl 2 rfl) ?_
      refine lv_iload_n hx hb dX0_mix_13 rfl (lv_at hl 1 rfl) ?_
      refine lv_iconst (v := 1) hx hb dX0_mix_14 (by decide) ?_
      refine lv_iadd hx hb dX0_mix_15 ?_
      refine x_ald B hP 0 rfl ((4 * i) + 1) (na_add rfl rfl) (by omega) (by decide) dX0_mix_16 ?_
      refine lv_istore_n (lv' := [(3, .int ((mixM f i) ((4 * i) + 1))), (2, .int ((mixM f i) (4 * i))), (1, .int (nI (4 * i))), (0, .ref a)]) hx hb dX0_mix_17 rfl hl (by decide) rfl (fun ls hl => ?_)
      refine lv_aload_n hx hb dX0_mix_18 rfl (lv_at hl 3 rfl) ?_
      refine lv_iload_n hx hb dX0_mix_19 rfl (lv_at hl 2 rfl) ?_
      refine lv_iconst (v := 2) hx hb dX0_mix_20 (by decide) ?_
      refine lv_iadd hx hb dX0_mix_21 ?_
      refine x_ald B hP 0 rfl ((4 * i) + 2) (na_add rfl rfl) (by omega) (by decide) dX0_mix_22 ?_
      refine lv_istore (lv' := [(4, .int ((mixM f i) ((4 * i) + 2))), (3, .int ((mixM f i) ((4 * i) + 1))), (2, .int ((mixM f i) (4 * i))), (1, .int (nI (4 * i))), (0, .ref a)]) hx hb dX0_mix_23 hl (by decide) rfl (fun ls hl => ?_)
      refine lv_aload_n hx hb dX0_mix_25 rfl (lv_at hl 4 rfl) ?_
      refine lv_iload_n hx hb dX0_mix_26 rfl (lv_at hl 3 rfl) ?_
      refine lv_iconst (v := 3) hx hb dX0_mix_27 (by decide) ?_
      refine lv_iadd hx hb dX0_mix_28 ?_
      refine x_ald B hP 0 rfl ((4 * i) + 3) (na_add rfl rfl) (by omega) (by decide) dX0_mix_29 ?_
      refine lv_istore (lv' := [(5, .int ((mixM f i) ((4 * i) + 3))), (4, .int ((mixM f i) ((4 * i) + 2))), (3, .int ((mixM f i) ((4 * i) + 1))), (2, .int ((mixM f i) (4 * i))), (1, .int (nI (4 * i))), (0, .ref a)]) hx hb dX0_mix_30 hl (by decide) rfl (fun ls hl => ?_)
      refine lv_aload_n hx hb dX0_mix_32 rfl (lv_at hl 5 rfl) ?_
      refine lv_iload_n hx hb dX0_mix_33 rfl (lv_at hl 4 rfl) ?_
      refine lv_iload_n hx hb dX0_mix_34 rfl (lv_at hl 3 rfl) ?_
      refine lv_iload_n hx hb dX0_mix_35 rfl (lv_at hl 2 rfl) ?_
      refine lv_iload hx hb dX0_mix_36 (lv_at hl 1 rfl) ?_
      refine lv_iload hx hb dX0_mix_38 (lv_at hl 0 rfl) ?_
      refine x_Si (wr := [(a, .inl (E.2.1, 16, .inl (mixM f i)))]) (isC := []) (isR := [0]) (As := [.int ((mixM f i) (4 * i)), .int ((mixM f i) ((4 * i) + 1)), .int ((mixM f i) ((4 * i) + 2)), .int ((mixM f i) ((4 * i) + 3))]) B (c_X0_mixed l E ((mixM f i) (4 * i)) ((mixM f i) ((4 * i) + 1)) ((mixM f i) ((4 * i) + 2)) ((mixM f i) ((4 * i) + 3))) k_X0_mixed g_173 s_X0_mixed ⟨Nat.le_trans (by decide) hR.1, Nat.le_trans (by decide) hR.2, rfl, rfl⟩ hP hD hS ⟨rfl, rfl, rfl, rfl, by decide⟩ rfl hl.1 rfl (Nat.le_of_ble_eq_true rfl) dX0_mix_40 hf (fun H locs hP hD hS => ?_)
      have hP : va_P E.1 classes [(a, .inl (E.2.1, 16, .inl (mixM f i)))] _ := hP
      have hD : va_D A [(a, .inl (E.2.1, 16, .inl (mixM f i)))] := hD
      refine x_ast B hP hD hS 0 rfl (4 * i) rfl (by omega) (by decide) dX0_mix_43 (fun H locs hP hD hS => ?_)
      have hP : va_P E.1 classes [(a, .inl (E.2.1, 16, .inl (upd (mixM f i) (4 * i) (mxE ((mixM f i) (4 * i)) ((mixM f i) ((4 * i) + 1)) ((mixM f i) ((4 * i) + 2)) ((mixM f i) ((4 * i) + 3))))))] _ := hP
      have hD : va_D A [(a, .inl (E.2.1, 16, .inl (upd (mixM f i) (4 * i) (mxE ((mixM f i) (4 * i)) ((mixM f i) ((4 * i) + 1)) ((mixM f i) ((4 * i) + 2)) ((mixM f i) ((4 * i) + 3))))))] := hD
      refine lv_aload_n hx hb dX0_mix_44 rfl (lv_at hl 5 rfl) ?_
      refine lv_iload_n hx hb dX0_mix_45 rfl (lv_at hl 4 rfl) ?_
      refine lv_iconst (v := 1) hx hb dX0_mix_46 (by decide) ?_
      refine lv_iadd hx hb dX0_mix_47 ?_
      refine lv_iload_n hx hb dX0_mix_48 rfl (lv_at hl 2 rfl) ?_
      refine lv_iload hx hb dX0_mix_49 (lv_at hl 1 rfl) ?_
      refine lv_iload hx hb dX0_mix_51 (lv_at hl 0 rfl) ?_
      refine lv_iload_n hx hb dX0_mix_53 rfl (lv_at hl 3 rfl) ?_
      refine x_Si (wr := [(a, .inl (E.2.1, 16, .inl (upd (mixM f i) (4 * i) (mxE ((mixM f i) (4 * i)) ((mixM f i) ((4 * i) + 1)) ((mixM f i) ((4 * i) + 2)) ((mixM f i) ((4 * i) + 3))))))]) (isC := []) (isR := [0]) (As := [.int ((mixM f i) ((4 * i) + 1)), .int ((mixM f i) ((4 * i) + 2)), .int ((mixM f i) ((4 * i) + 3)), .int ((mixM f i) (4 * i))]) B (c_X0_mixed l E ((mixM f i) ((4 * i) + 1)) ((mixM f i) ((4 * i) + 2)) ((mixM f i) ((4 * i) + 3)) ((mixM f i) (4 * i))) k_X0_mixed g_173 s_X0_mixed ⟨Nat.le_trans (by decide) hR.1, Nat.le_trans (by decide) hR.2, rfl, rfl⟩ hP hD hS ⟨rfl, rfl, rfl, rfl, by decide⟩ rfl hl.1 rfl (Nat.le_of_ble_eq_true rfl) dX0_mix_54 hf (fun H locs hP hD hS => ?_)
      have hP : va_P E.1 classes [(a, .inl (E.2.1, 16, .inl (upd (mixM f i) (4 * i) (mxE ((mixM f i) (4 * i)) ((mixM f i) ((4 * i) + 1)) ((mixM f i) ((4 * i) + 2)) ((mixM f i) ((4 * i) + 3))))))] _ := hP
      have hD : va_D A [(a, .inl (E.2.1, 16, .inl (upd (mixM f i) (4 * i) (mxE ((mixM f i) (4 * i)) ((mixM f i) ((4 * i) + 1)) ((mixM f i) ((4 * i) + 2)) ((mixM f i) ((4 * i) + 3))))))] := hD
      refine x_ast B hP hD hS 0 rfl ((4 * i) + 1) (na_add rfl rfl) (by omega) (by decide) dX0_mix_57 (fun H locs hP hD hS => ?_)
      have hP : va_P E.1 classes [(a, .inl (E.2.1, 16, .inl (upd (upd (mixM f i) (4 * i) (mxE ((mixM f i) (4 * i)) ((mixM f i) ((4 * i) + 1)) ((mixM f i) ((4 * i) + 2)) ((mixM f i) ((4 * i) + 3)))) ((4 * i) + 1) (mxE ((mixM f i) ((4 * i) + 1)) ((mixM f i) ((4 * i) + 2)) ((mixM f i) ((4 * i) + 3)) ((mixM f i) (4 * i))))))] _ := hP
      have hD : va_D A [(a, .inl (E.2.1, 16, .inl (upd (upd (mixM f i) (4 * i) (mxE ((mixM f i) (4 * i)) ((mixM f i) ((4 * i) + 1)) ((mixM f i) ((4 * i) + 2)) ((mixM f i) ((4 * i) + 3)))) ((4 * i) + 1) (mxE ((mixM f i) ((4 * i) + 1)) ((mixM f i) ((4 * i) + 2)) ((mixM f i) ((4 * i) + 3)) ((mixM f i) (4 * i))))))] := hD
      refine lv_aload_n hx hb dX0_mix_58 rfl (lv_at hl 5 rfl) ?_
      refine lv_iload_n hx hb dX0_mix_59 rfl (lv_at hl 4 rfl) ?_
      refine lv_iconst (v := 2) hx hb dX0_mix_60 (by decide) ?_
      refine lv_iadd hx hb dX0_mix_61 ?_
      refine lv_iload hx hb dX0_mix_62 (lv_at hl 1 rfl) ?_
      refine lv_iload hx hb dX0_mix_64 (lv_at hl 0 rfl) ?_
      refine lv_iload_n hx hb dX0_mix_66 rfl (lv_at hl 3 rfl) ?_
      refine lv_iload_n hx hb dX0_mix_67 rfl (lv_at hl 2 rfl) ?_
      refine x_Si (wr := [(a, .inl (E.2.1, 16, .inl (upd (upd (mixM f i) (4 * i) (mxE ((mixM f i) (4 * i)) ((mixM f i) ((4 * i) + 1)) ((mixM f i) ((4 * i) + 2)) ((mixM f i) ((4 * i) + 3)))) ((4 * i) + 1) (mxE ((mixM f i) ((4 * i) + 1)) ((mixM f i) ((4 * i) + 2)) ((mixM f i) ((4 * i) + 3)) ((mixM f i) (4 * i))))))]) (isC := []) (isR := [0]) (As := [.int ((mixM f i) ((4 * i) + 2)), .int ((mixM f i) ((4 * i) + 3)), .int ((mixM f i) (4 * i)), .int ((mixM f i) ((4 * i) + 1))]) B (c_X0_mixed l E ((mixM f i) ((4 * i) + 2)) ((mixM f i) ((4 * i) + 3)) ((mixM f i) (4 * i)) ((mixM f i) ((4 * i) + 1))) k_X0_mixed g_173 s_X0_mixed ⟨Nat.le_trans (by decide) hR.1, Nat.le_trans (by decide) hR.2, rfl, rfl⟩ hP hD hS ⟨rfl, rfl, rfl, rfl, by decide⟩ rfl hl.1 rfl (Nat.le_of_ble_eq_true rfl) dX0_mix_68 hf (fun H locs hP hD hS => ?_)
      have hP : va_P E.1 classes [(a, .inl (E.2.1, 16, .inl (upd (upd (mixM f i) (4 * i) (mxE ((mixM f i) (4 * i)) ((mixM f i) ((4 * i) + 1)) ((mixM f i) ((4 * i) + 2)) ((mixM f i) ((4 * i) + 3)))) ((4 * i) + 1) (mxE ((mixM f i) ((4 * i) + 1)) ((mixM f i) ((4 * i) + 2)) ((mixM f i) ((4 * i) + 3)) ((mixM f i) (4 * i))))))] _ := hP
      have hD : va_D A [(a, .inl (E.2.1, 16, .inl (upd (upd (mixM f i) (4 * i) (mxE ((mixM f i) (4 * i)) ((mixM f i) ((4 * i) + 1)) ((mixM f i) ((4 * i) + 2)) ((mixM f i) ((4 * i) + 3)))) ((4 * i) + 1) (mxE ((mixM f i) ((4 * i) + 1)) ((mixM f i) ((4 * i) + 2)) ((mixM f i) ((4 * i) + 3)) ((mixM f i) (4 * i))))))] := hD
      refine x_ast B hP hD hS 0 rfl ((4 * i) + 2) (na_add rfl rfl) (by omega) (by decide) dX0_mix_71 (fun H locs hP hD hS => ?_)
      have hP : va_P E.1 classes [(a, .inl (E.2.1, 16, .inl (upd (upd (upd (mixM f i) (4 * i) (mxE ((mixM f i) (4 * i)) ((mixM f i) ((4 * i) + 1)) ((mixM f i) ((4 * i) + 2)) ((mixM f i) ((4 * i) + 3)))) ((4 * i) + 1) (mxE ((mixM f i) ((4 * i) + 1)) ((mixM f i) ((4 * i) + 2)) ((mixM f i) ((4 * i) + 3)) ((mixM f i) (4 * i)))) ((4 * i) + 2) (mxE ((mixM f i) ((4 * i) + 2)) ((mixM f i) ((4 * i) + 3)) ((mixM f i) (4 * i)) ((mixM f i) ((4 * i) + 1))))))] _ := hP
      have hD : va_D A [(a, .inl (E.2.1, 16, .inl (upd (upd (upd (mixM f i) (4 * i) (mxE ((mixM f i) (4 * i)) ((mixM f i) ((4 * i) + 1)) ((mixM f i) ((4 * i) + 2)) ((mixM f i) ((4 * i) + 3)))) ((4 * i) + 1) (mxE ((mixM f i) ((4 * i) + 1)) ((mixM f i) ((4 * i) + 2)) ((mixM f i) ((4 * i) + 3)) ((mixM f i) (4 * i)))) ((4 * i) + 2) (mxE ((mixM f i) ((4 * i) + 2)) ((mixM f i) ((4 * i) + 3)) ((mixM f i) (4 * i)) ((mixM f i) ((4 * i) + 1))))))] := hD
      refine lv_aload_n hx hb dX0_mix_72 rfl (lv_at hl 5 rfl) ?_
      refine lv_iload_n hx hb dX0_mix_73 rfl (lv_at hl 4 rfl) ?_
      refine lv_iconst (v := 3) hx hb dX0_mix_74 (by decide) ?_
      refine lv_iadd hx hb dX0_mix_75 ?_
      refine lv_iload hx hb dX0_mix_76 (lv_at hl 0 rfl) ?_
      refine lv_iload_n hx hb dX0_mix_78 rfl (lv_at hl 3 rfl) ?_
      refine lv_iload_n hx hb dX0_mix_79 rfl (lv_at hl 2 rfl) ?_
      refine lv_iload hx hb dX0_mix_80 (lv_at hl 1 rfl) ?_
      refine x_Si (wr := [(a, .inl (E.2.1, 16, .inl (upd (upd (upd (mixM f i) (4 * i) (mxE ((mixM f i) (4 * i)) ((mixM f i) ((4 * i) + 1)) ((mixM f i) ((4 * i) + 2)) ((mixM f i) ((4 * i) + 3)))) ((4 * i) + 1) (mxE ((mixM f i) ((4 * i) + 1)) ((mixM f i) ((4 * i) + 2)) ((mixM f i) ((4 * i) + 3)) ((mixM f i) (4 * i)))) ((4 * i) + 2) (mxE ((mixM f i) ((4 * i) + 2)) ((mixM f i) ((4 * i) + 3)) ((mixM f i) (4 * i)) ((mixM f i) ((4 * i) + 1))))))]) (isC := []) (isR := [0]) (As := [.int ((mixM f i) ((4 * i) + 3)), .int ((mixM f i) (4 * i)), .int ((mixM f i) ((4 * i) + 1)), .int ((mixM f i) ((4 * i) + 2))]) B (c_X0_mixed l E ((mixM f i) ((4 * i) + 3)) ((mixM f i) (4 * i)) ((mixM f i) ((4 * i) + 1)) ((mixM f i) ((4 * i) + 2))) k_X0_mixed g_173 s_X0_mixed ⟨Nat.le_trans (by decide) hR.1, Nat.le_trans (by decide) hR.2, rfl, rfl⟩ hP hD hS ⟨rfl, rfl, rfl, rfl, by decide⟩ rfl hl.1 rfl (Nat.le_of_ble_eq_true rfl) dX0_mix_82 hf (fun H locs hP hD hS => ?_)
      have hP : va_P E.1 classes [(a, .inl (E.2.1, 16, .inl (upd (upd (upd (mixM f i) (4 * i) (mxE ((mixM f i) (4 * i)) ((mixM f i) ((4 * i) + 1)) ((mixM f i) ((4 * i) + 2)) ((mixM f i) ((4 * i) + 3)))) ((4 * i) + 1) (mxE ((mixM f i) ((4 * i) + 1)) ((mixM f i) ((4 * i) + 2)) ((mixM f i) ((4 * i) + 3)) ((mixM f i) (4 * i)))) ((4 * i) + 2) (mxE ((mixM f i) ((4 * i) + 2)) ((mixM f i) ((4 * i) + 3)) ((mixM f i) (4 * i)) ((mixM f i) ((4 * i) + 1))))))] _ := hP
      have hD : va_D A [(a, .inl (E.2.1, 16, .inl (upd (upd (upd (mixM f i) (4 * i) (mxE ((mixM f i) (4 * i)) ((mixM f i) ((4 * i) + 1)) ((mixM f i) ((4 * i) + 2)) ((mixM f i) ((4 * i) + 3)))) ((4 * i) + 1) (mxE ((mixM f i) ((4 * i) + 1)) ((mixM f i) ((4 * i) + 2)) ((mixM f i) ((4 * i) + 3)) ((mixM f i) (4 * i)))) ((4 * i) + 2) (mxE ((mixM f i) ((4 * i) + 2)) ((mixM f i) ((4 * i) + 3)) ((mixM f i) (4 * i)) ((mixM f i) ((4 * i) + 1))))))] := hD
      refine x_ast B hP hD hS 0 rfl ((4 * i) + 3) (na_add rfl rfl) (by omega) (by decide) dX0_mix_85 (fun H locs hP hD hS => ?_)
      have hP : va_P E.1 classes [(a, .inl (E.2.1, 16, .inl (upd (upd (upd (upd (mixM f i) (4 * i) (mxE ((mixM f i) (4 * i)) ((mixM f i) ((4 * i) + 1)) ((mixM f i) ((4 * i) + 2)) ((mixM f i) ((4 * i) + 3)))) ((4 * i) + 1) (mxE ((mixM f i) ((4 * i) + 1)) ((mixM f i) ((4 * i) + 2)) ((mixM f i) ((4 * i) + 3)) ((mixM f i) (4 * i)))) ((4 * i) + 2) (mxE ((mixM f i) ((4 * i) + 2)) ((mixM f i) ((4 * i) + 3)) ((mixM f i) (4 * i)) ((mixM f i) ((4 * i) + 1)))) ((4 * i) + 3) (mxE ((mixM f i) ((4 * i) + 3)) ((mixM f i) (4 * i)) ((mixM f i) ((4 * i) + 1)) ((mixM f i) ((4 * i) + 2))))))] _ := hP
      have hD : va_D A [(a, .inl (E.2.1, 16, .inl (upd (upd (upd (upd (mixM f i) (4 * i) (mxE ((mixM f i) (4 * i)) ((mixM f i) ((4 * i) + 1)) ((mixM f i) ((4 * i) + 2)) ((mixM f i) ((4 * i) + 3)))) ((4 * i) + 1) (mxE ((mixM f i) ((4 * i) + 1)) ((mixM f i) ((4 * i) + 2)) ((mixM f i) ((4 * i) + 3)) ((mixM f i) (4 * i)))) ((4 * i) + 2) (mxE ((mixM f i) ((4 * i) + 2)) ((mixM f i) ((4 * i) + 3)) ((mixM f i) (4 * i)) ((mixM f i) ((4 * i) + 1)))) ((4 * i) + 3) (mxE ((mixM f i) ((4 * i) + 3)) ((mixM f i) (4 * i)) ((mixM f i) ((4 * i) + 1)) ((mixM f i) ((4 * i) + 2))))))] := hD
      refine lv_iinc (v := (nI ((4 * i) + 4))) (lv' := [(1, .int (nI ((4 * i) + 4))), (5, .int ((mixM f i) ((4 * i) + 3))), (4, .int ((mixM f i) ((4 * i) + 2))), (3, .int ((mixM f i) ((4 * i) + 1))), (2, .int ((mixM f i) (4 * i))), (0, .ref a)]) hx hb dX0_mix_86 hl (k := 4) rfl (ii_n 4 (4 * i) rfl) (by decide) rfl (fun ls hl => ?_)
      refine lv_goto (tgt := 2) hx hb dX0_mix_89 (by decide) ?_
      have hP : va_P E.1 classes [(a, .inl (E.2.1, 16, .inl (mixM f (i + 1))))] _ := hP
      have hD : va_D A [(a, .inl (E.2.1, 16, .inl (mixM f (i + 1))))] := hD
      exact ih (i + 1) (by omega) (by omega) _ _ _ hP hD hS (lv_sub hl [0, 5] rfl)
set_option maxHeartbeats 4000000 in
set_option maxRecDepth 100000 in
/-- mix -/
theorem c_X0_mix (l : Launch) (E : EE) (a : Nat) (f : Nat → Int32) (hF : ∀ i, i < 16 → By (f i)) : Cv l yX0_mix (.code yX0_mix cX0_mix 6 none) ({ frames := 2, cells := 0, slots := 0, locals := 43 }) E [.ref a] [(a, .inl (E.2.1, 16, .inl f))] [(a, .inl (E.2.1, 16, .inl (mixM f 4)))] := by
  refine Cv.of (by decide) (Nat.le_of_ble_eq_true rfl) ?_
  intro p e s m below meth c A ls B hP hD hS hl
  have hl : lv_has ls 6 [(0, .ref a)] := hl
  have B : Bd p s m _ meth c cX0_mix 6 none RX0 E A := B
  have hx := B.1
  have hb := B.2.1
  have hP : va_P E.1 classes [(a, .inl (E.2.1, 16, .inl f))] _ := hP
  have hD : va_D A [(a, .inl (E.2.1, 16, .inl f))] := hD
  refine lv_iconst (v := 0) hx hb dX0_mix_0 (by decide) ?_
  refine lv_istore_n (lv' := [(1, .int 0), (0, .ref a)]) hx hb dX0_mix_1 rfl hl (by decide) rfl (fun ls hl => ?_)
  have hP : va_P E.1 classes [(a, .inl (E.2.1, 16, .inl (mixM f 0)))] _ := hP
  have hD : va_D A [(a, .inl (E.2.1, 16, .inl (mixM f 0)))] := hD
  refine lp_mix B ⟨by decide, by decide⟩ ⟨by decide, by decide⟩ hF (fun H locs ls hP hD hS hl => ?_) 5 0 (by omega) (by omega) _ _ _ hP hD hS (lv_sub hl [0, 1] rfl)
  have hP : va_P E.1 classes [(a, .inl (E.2.1, 16, .inl (mixM f 4)))] _ := hP
  have hD : va_D A [(a, .inl (E.2.1, 16, .inl (mixM f 4)))] := hD
  exact x_vret B hP hD hS dX0_mix_92
set_option maxHeartbeats 4000000 in
set_option maxRecDepth 100000 in
/-- unmix -/
theorem c_X0_unmix (l : Launch) (E : EE) (a : Nat) (f : Nat → Int32) (hF : ∀ i, i < 16 → By (f i)) : Cv l yX0_unmix (.code yX0_unmix cX0_unmix 1 none) ({ frames := 3, cells := 0, slots := 0, locals := 68 }) E [.ref a] [(a, .inl (E.2.1, 16, .inl f))] [(a, .inl (E.2.1, 16, .inl (mixW (mixW (mixW f)))))] := by
  refine Cv.of (by decide) (Nat.le_of_ble_eq_true rfl) ?_
  intro p e s m below meth c A ls B hP hD hS hl
  have hl : lv_has ls 1 [(0, .ref a)] := hl
  have B : Bd p s m _ meth c cX0_unmix 1 none RX0 E A := B
  have hx := B.1
  have hb := B.2.1
  have hP : va_P E.1 classes [(a, .inl (E.2.1, 16, .inl f))] _ := hP
  have hD : va_D A [(a, .inl (E.2.1, 16, .inl f))] := hD
  refine lv_aload_n hx hb dX0_unmix_0 rfl (lv_at hl 0 rfl) ?_
  refine x_Sv (wr := []) (isC := [0]) (isR := []) (As := [.ref a]) B (c_X0_mix l E a f hF) k_X0_mix g_170 s_X0_mix ⟨by decide, by decide, rfl, rfl⟩ hP hD hS ⟨rfl, rfl, rfl, rfl, by decide⟩ rfl hl.1 rfl (Nat.le_of_ble_eq_true rfl) dX0_unmix_1 ⟨by decide, by decide⟩ (fun H locs hP hD hS => ?_)
  have hP : va_P E.1 classes [(a, .inl (E.2.1, 16, .inl (mixW f)))] _ := hP
  have hD : va_D A [(a, .inl (E.2.1, 16, .inl (mixW f)))] := hD
  refine lv_aload_n hx hb dX0_unmix_4 rfl (lv_at hl 0 rfl) ?_
  refine x_Sv (wr := []) (isC := [0]) (isR := []) (As := [.ref a]) B (c_X0_mix l E a (mixW f) (mixM_by hF 4 (by decide))) k_X0_mix g_170 s_X0_mix ⟨by decide, by decide, rfl, rfl⟩ hP hD hS ⟨rfl, rfl, rfl, rfl, by decide⟩ rfl hl.1 rfl (Nat.le_of_ble_eq_true rfl) dX0_unmix_5 ⟨by decide, by decide⟩ (fun H locs hP hD hS => ?_)
  have hP : va_P E.1 classes [(a, .inl (E.2.1, 16, .inl (mixW (mixW f))))] _ := hP
  have hD : va_D A [(a, .inl (E.2.1, 16, .inl (mixW (mixW f))))] := hD
  refine lv_aload_n hx hb dX0_unmix_8 rfl (lv_at hl 0 rfl) ?_
  refine x_Sv (wr := []) (isC := [0]) (isR := []) (As := [.ref a]) B (c_X0_mix l E a (mixW (mixW f)) (mixM_by (mixM_by hF 4 (by decide)) 4 (by decide))) k_X0_mix g_170 s_X0_mix ⟨by decide, by decide, rfl, rfl⟩ hP hD hS ⟨rfl, rfl, rfl, rfl, by decide⟩ rfl hl.1 rfl (Nat.le_of_ble_eq_true rfl) dX0_unmix_9 ⟨by decide, by decide⟩ (fun H locs hP hD hS => ?_)
  have hP : va_P E.1 classes [(a, .inl (E.2.1, 16, .inl (mixW (mixW (mixW f)))))] _ := hP
  have hD : va_D A [(a, .inl (E.2.1, 16, .inl (mixW (mixW (mixW f)))))] := hD
  have hP : va_P E.1 classes [(a, .inl (E.2.1, 16, .inl (mixW (mixW (mixW f)))))] _ := hP
  have hD : va_D A [(a, .inl (E.2.1, 16, .inl (mixW (mixW (mixW f)))))] := hD
  exact x_vret B hP hD hS dX0_unmix_12
set_option maxHeartbeats 4000000 in
set_option maxRecDepth 100000 in
theorem lp_repl {p : Program} {l : Launch} {e : Env} {R : Room} {s : State} {m : MethodId} {args : Array Value} {below : List Frame} {meth : Method} {c : Code} {cells slots : Nat} {Q : State → Prop} {E : EE} {A : Nat → Prop} {oK aB aW aF aG aV b : Nat} {f g : Nat → Int32} {mde : Int32} (B : Bd p s m args meth c cX0_replaceAndMove 3 none RX0 E A) (hf : cells ≤ R.cells ∧ slots ≤ R.slots) (hR : 1 ≤ R.frames ∧ 60 ≤ R.locals) (hF : ∀ i, i < 16 → By (f i))
    (kk : ∀ (H : Heap) (locs : List Loc) (ls : Array Slot), va_P E.1 classes [(oK, .inr (0, [.ref aB, .ref aW, .ref aF, .ref aG, .ref aV, .int mde])), (aV, .inl (E.2.1, 16, .inl (subM f g 16))), (b, .inl (E.2.1, 16, .inl f))] H → va_D A [(oK, .inr (0, [.ref aB, .ref aW, .ref aF, .ref aG, .ref aV, .int mde])), (aV, .inl (E.2.1, 16, .inl (subM f g 16))), (b, .inl (E.2.1, 16, .inl f))] → va_S A s.heap H locs → lv_has ls 3 [(2, .int (nI 16)), (0, .ref oK), (1, .ref b)] → W p l e R s m args below meth c H locs cells slots Q (F0 m 30 ls [])) :
    ∀ (fu i : Nat), i ≤ 16 → 16 < i + fu → ∀ (H : Heap) (locs : List Loc) (ls : Array Slot), va_P E.1 classes [(oK, .inr (0, [.ref aB, .ref aW, .ref aF, .ref aG, .ref aV, .int mde])), (aV, .inl (E.2.1, 16, .inl (subM f g i))), (b, .inl (E.2.1, 16, .inl f))] H → va_D A [(oK, .inr (0, [.ref aB, .ref aW, .ref aF, .ref aG, .ref aV, .int mde])), (aV, .inl (E.2.1, 16, .inl (subM f g i))), (b, .inl (E.2.1, 16, .inl f))] → va_S A s.heap H locs → lv_has ls 3 [(2, .int (nI i)), (0, .ref oK), (1, .ref b)] → W p l e R s m args below meth c H locs cells slots Q (F0 m 2 ls []) := by
  have hx := B.1
  have hb := B.2.1
  intro fu
  induction fu with
  | zero =>
    intro i h1 h2
    exact absurd h2 (by omega)
  | succ fu ih =>
    intro i hi hin H locs ls hP hD hS hl
    refine lv_iload_n hx hb dX0_replaceAndMove_2 rfl (lv_at hl 0 rfl) ?_
    refine lv_bipush (v := 16) hx hb dX0_replaceAndMove_3 (by decide) ?_
    refine lv_icmp_ge (tgt := 30) hx hb dX0_replaceAndMove_5 (by decide) (fun c_5 => ?_) (fun c_5 => ?_)
    · have hj : i = 16 := by have := ge_t (b := 16) c_5 (by omega) (by omega); omega
      subst hj
      exact kk _ _ _ hP hD hS hl
    · have hj : i < 16 := by have := ge_f (b := 16) c_5 (by omega) (by omega); omega
      refine lv_aload_n hx hb dX0_replaceAndMove_8 rfl (lv_at hl 1 rfl) ?_
      refine x_get B hP 0 rfl rfl i_X0 4 (by decide) g_29 rfl dX0_replaceAndMove_9 ?_
      refine lv_iload_n hx hb dX0_replaceAndMove_12 rfl (lv_at hl 0 rfl) ?_
      refine x_gsN B hS 0 rfl n_143 dX0_replaceAndMove_13 ?_
      refine lv_aload_n hx hb dX0_replaceAndMove_16 rfl (lv_at hl 2 rfl) ?_
      refine lv_iload_n hx hb dX0_replaceAndMove_17 rfl (lv_at hl 0 rfl) ?_
      refine x_Si (wr := [(oK, .inr (0, [.ref aB, .ref aW, .ref aF, .ref aG, .ref aV, .int mde])), (aV, .inl (E.2.1, 16, .inl (subM f g i))), (b, .inl (E.2.1, 16, .inl f))]) (isC := []) (isR := [0, 1, 2]) (As := [.int (nI i)]) B (c_X0_source l E i (nI i) rfl (by omega)) k_X0_source g_167 s_X0_source ⟨Nat.le_trans (by decide) hR.1, Nat.le_trans (by decide) hR.2, rfl, rfl⟩ hP hD hS ⟨rfl, rfl, rfl, rfl, by decide⟩ rfl hl.1 rfl (Nat.le_of_ble_eq_true rfl) dX0_replaceAndMove_18 hf (fun H locs hP hD hS => ?_)
      have hP : va_P E.1 classes [(oK, .inr (0, [.ref aB, .ref aW, .ref aF, .ref aG, .ref aV, .int mde])), (aV, .inl (E.2.1, 16, .inl (subM f g i))), (b, .inl (E.2.1, 16, .inl f))] _ := hP
      have hD : va_D A [(oK, .inr (0, [.ref aB, .ref aW, .ref aF, .ref aG, .ref aV, .int mde])), (aV, .inl (E.2.1, 16, .inl (subM f g i))), (b, .inl (E.2.1, 16, .inl f))] := hD
      refine x_ald B hP 2 rfl (srcM i) rfl (srcM_lt i) (by decide) dX0_replaceAndMove_21 ?_
      refine x_tld B hS 0 rfl ((f (srcM i)).toNatClampNeg) (((hF (srcM i) (srcM_lt i))).1) (((hF (srcM i) (srcM_lt i))).2) (by decide) dX0_replaceAndMove_22 ?_
      refine x_ast B hP hD hS 1 rfl i rfl (by omega) (by decide) dX0_replaceAndMove_23 (fun H locs hP hD hS => ?_)
      have hP : va_P E.1 classes [(oK, .inr (0, [.ref aB, .ref aW, .ref aF, .ref aG, .ref aV, .int mde])), (aV, .inl (E.2.1, 16, .inl (upd (subM f g i) i (fS ((f (srcM i)).toNatClampNeg))))), (b, .inl (E.2.1, 16, .inl f))] _ := hP
      have hD : va_D A [(oK, .inr (0, [.ref aB, .ref aW, .ref aF, .ref aG, .ref aV, .int mde])), (aV, .inl (E.2.1, 16, .inl (upd (subM f g i) i (fS ((f (srcM i)).toNatClampNeg))))), (b, .inl (E.2.1, 16, .inl f))] := hD
      refine lv_iinc (v := (nI (i + 1))) (lv' := [(2, .int (nI (i + 1))), (0, .ref oK), (1, .ref b)]) hx hb dX0_replaceAndMove_24 hl (k := 0) rfl (ii_1 i) (by decide) rfl (fun ls hl => ?_)
      refine lv_goto (tgt := 2) hx hb dX0_replaceAndMove_27 (by decide) ?_
      have hP : va_P E.1 classes [(oK, .inr (0, [.ref aB, .ref aW, .ref aF, .ref aG, .ref aV, .int mde])), (aV, .inl (E.2.1, 16, .inl (subM f g (i + 1)))), (b, .inl (E.2.1, 16, .inl f))] _ := hP
      have hD : va_D A [(oK, .inr (0, [.ref aB, .ref aW, .ref aF, .ref aG, .ref aV, .int mde])), (aV, .inl (E.2.1, 16, .inl (subM f g (i + 1)))), (b, .inl (E.2.1, 16, .inl f))] := hD
      exact ih (i + 1) (by omega) (by omega) _ _ _ hP hD hS (lv_sub hl [0, 1, 2] rfl)
set_option maxHeartbeats 4000000 in
set_option maxRecDepth 100000 in
/-- lp_repl -/
theorem c_X0_replaceAndMove (l : Launch) (E : EE) (oK aB aW aF aG aV b : Nat) (f g : Nat → Int32) (mde : Int32) (hF : ∀ i, i < 16 → By (f i)) : Cv l yX0_replaceAndMove (.code yX0_replaceAndMove cX0_replaceAndMove 3 none) ({ frames := 1, cells := 0, slots := 0, locals := 60 }) E [.ref oK, .ref b] [(oK, .inr (0, [.ref aB, .ref aW, .ref aF, .ref aG, .ref aV, .int mde])), (aV, .inl (E.2.1, 16, .inl g)), (b, .inl (E.2.1, 16, .inl f))] [(oK, .inr (0, [.ref aB, .ref aW, .ref aF, .ref aG, .ref aV, .int mde])), (aV, .inl (E.2.1, 16, .inl (subM f g 16))), (b, .inl (E.2.1, 16, .inl (va_cpy (subM f g 16) f 0 0 16)))] := by
  refine Cv.of (by decide) (Nat.le_of_ble_eq_true rfl) ?_
  intro p e s m below meth c A ls B hP hD hS hl
  have hl : lv_has ls 3 [(0, .ref oK), (1, .ref b)] := hl
  have B : Bd p s m _ meth c cX0_replaceAndMove 3 none RX0 E A := B
  have hx := B.1
  have hb := B.2.1
  have hP : va_P E.1 classes [(oK, .inr (0, [.ref aB, .ref aW, .ref aF, .ref aG, .ref aV, .int mde])), (aV, .inl (E.2.1, 16, .inl g)), (b, .inl (E.2.1, 16, .inl f))] _ := hP
  have hD : va_D A [(oK, .inr (0, [.ref aB, .ref aW, .ref aF, .ref aG, .ref aV, .int mde])), (aV, .inl (E.2.1, 16, .inl g)), (b, .inl (E.2.1, 16, .inl f))] := hD
  refine lv_iconst (v := 0) hx hb dX0_replaceAndMove_0 (by decide) ?_
  refine lv_istore_n (lv' := [(2, .int 0), (0, .ref oK), (1, .ref b)]) hx hb dX0_replaceAndMove_1 rfl hl (by decide) rfl (fun ls hl => ?_)
  have hP : va_P E.1 classes [(oK, .inr (0, [.ref aB, .ref aW, .ref aF, .ref aG, .ref aV, .int mde])), (aV, .inl (E.2.1, 16, .inl (subM f g 0))), (b, .inl (E.2.1, 16, .inl f))] _ := hP
  have hD : va_D A [(oK, .inr (0, [.ref aB, .ref aW, .ref aF, .ref aG, .ref aV, .int mde])), (aV, .inl (E.2.1, 16, .inl (subM f g 0))), (b, .inl (E.2.1, 16, .inl f))] := hD
  refine lp_repl B ⟨by decide, by decide⟩ ⟨by decide, by decide⟩ hF (fun H locs ls hP hD hS hl => ?_) 17 0 (by omega) (by omega) _ _ _ hP hD hS (lv_sub hl [0, 1, 2] rfl)
  refine lv_aload_n hx hb dX0_replaceAndMove_30 rfl (lv_at hl 1 rfl) ?_
  refine x_get B hP 0 rfl rfl i_X0 4 (by decide) g_29 rfl dX0_replaceAndMove_31 ?_
  refine lv_iconst (v := 0) hx hb dX0_replaceAndMove_34 (by decide) ?_
  refine lv_aload_n hx hb dX0_replaceAndMove_35 rfl (lv_at hl 2 rfl) ?_
  refine lv_iconst (v := 0) hx hb dX0_replaceAndMove_36 (by decide) ?_
  refine lv_bipush (v := 16) hx hb dX0_replaceAndMove_37 (by decide) ?_
  refine x_copy B hP hD hS g_136 w_copy hl.1 1 2 rfl rfl 16 rfl (by decide) (by decide) (by decide) (by decide) (Nat.le_of_ble_eq_true rfl) dX0_replaceAndMove_39 (fun H locs hP hD hS => ?_)
  have hP : va_P E.1 classes [(oK, .inr (0, [.ref aB, .ref aW, .ref aF, .ref aG, .ref aV, .int mde])), (aV, .inl (E.2.1, 16, .inl (subM f g 16))), (b, .inl (E.2.1, 16, .inl (va_cpy (subM f g 16) f 0 0 16)))] _ := hP
  have hD : va_D A [(oK, .inr (0, [.ref aB, .ref aW, .ref aF, .ref aG, .ref aV, .int mde])), (aV, .inl (E.2.1, 16, .inl (subM f g 16))), (b, .inl (E.2.1, 16, .inl (va_cpy (subM f g 16) f 0 0 16)))] := hD
  have hP : va_P E.1 classes [(oK, .inr (0, [.ref aB, .ref aW, .ref aF, .ref aG, .ref aV, .int mde])), (aV, .inl (E.2.1, 16, .inl (subM f g 16))), (b, .inl (E.2.1, 16, .inl (va_cpy (subM f g 16) f 0 0 16)))] _ := hP
  have hD : va_D A [(oK, .inr (0, [.ref aB, .ref aW, .ref aF, .ref aG, .ref aV, .int mde])), (aV, .inl (E.2.1, 16, .inl (subM f g 16))), (b, .inl (E.2.1, 16, .inl (va_cpy (subM f g 16) f 0 0 16)))] := hD
  exact x_vret B hP hD hS dX0_replaceAndMove_42
set_option maxHeartbeats 4000000 in
set_option maxRecDepth 100000 in
theorem lp_unre {p : Program} {l : Launch} {e : Env} {R : Room} {s : State} {m : MethodId} {args : Array Value} {below : List Frame} {meth : Method} {c : Code} {cells slots : Nat} {Q : State → Prop} {E : EE} {A : Nat → Prop} {oK aB aW aF aG aV b : Nat} {f g : Nat → Int32} {mde : Int32} (B : Bd p s m args meth c cX0_moveAndReplaceBack 3 none RX0 E A) (hf : cells ≤ R.cells ∧ slots ≤ R.slots) (hR : 1 ≤ R.frames ∧ 60 ≤ R.locals) (hF : ∀ i, i < 16 → By (f i))
    (kk : ∀ (H : Heap) (locs : List Loc) (ls : Array Slot), va_P E.1 classes [(oK, .inr (0, [.ref aB, .ref aW, .ref aF, .ref aG, .ref aV, .int mde])), (aV, .inl (E.2.1, 16, .inl (unsM f g 16))), (b, .inl (E.2.1, 16, .inl f))] H → va_D A [(oK, .inr (0, [.ref aB, .ref aW, .ref aF, .ref aG, .ref aV, .int mde])), (aV, .inl (E.2.1, 16, .inl (unsM f g 16))), (b, .inl (E.2.1, 16, .inl f))] → va_S A s.heap H locs → lv_has ls 3 [(2, .int (nI 16)), (0, .ref oK), (1, .ref b)] → W p l e R s m args below meth c H locs cells slots Q (F0 m 30 ls [])) :
    ∀ (fu i : Nat), i ≤ 16 → 16 < i + fu → ∀ (H : Heap) (locs : List Loc) (ls : Array Slot), va_P E.1 classes [(oK, .inr (0, [.ref aB, .ref aW, .ref aF, .ref aG, .ref aV, .int mde])), (aV, .inl (E.2.1, 16, .inl (unsM f g i))), (b, .inl (E.2.1, 16, .inl f))] H → va_D A [(oK, .inr (0, [.ref aB, .ref aW, .ref aF, .ref aG, .ref aV, .int mde])), (aV, .inl (E.2.1, 16, .inl (unsM f g i))), (b, .inl (E.2.1, 16, .inl f))] → va_S A s.heap H locs → lv_has ls 3 [(2, .int (nI i)), (0, .ref oK), (1, .ref b)] → W p l e R s m args below meth c H locs cells slots Q (F0 m 2 ls []) := by
  have hx := B.1
  have hb := B.2.1
  intro fu
  induction fu with
  | zero =>
    intro i h1 h2
    exact absurd h2 (by omega)
  | succ fu ih =>
    intro i hi hin H locs ls hP hD hS hl
    refine lv_iload_n hx hb dX0_moveAndReplaceBack_2 rfl (lv_at hl 0 rfl) ?_
    refine lv_bipush (v := 16) hx hb dX0_moveAndReplaceBack_3 (by decide) ?_
    refine lv_icmp_ge (tgt := 30) hx hb dX0_moveAndReplaceBack_5 (by decide) (fun c_5 => ?_) (fun c_5 => ?_)
    · have hj : i = 16 := by have := ge_t (b := 16) c_5 (by omega) (by omega); omega
      subst hj
      exact kk _ _ _ hP hD hS hl
    · have hj : i < 16 := by have := ge_f (b := 16) c_5 (by omega) (by omega); omega
      refine lv_aload_n hx hb dX0_moveAndReplaceBack_8 rfl (lv_at hl 1 rfl) ?_
      refine x_get B hP 0 rfl rfl i_X0 4 (by decide) g_29 rfl dX0_moveAndReplaceBack_9 ?_
      refine lv_iload_n hx hb dX0_moveAndReplaceBack_12 rfl (lv_at hl 0 rfl) ?_
      refine x_Si (wr := [(oK, .inr (0, [.ref aB, .ref aW, .ref aF, .ref aG, .ref aV, .int mde])), (aV, .inl (E.2.1, 16, .inl (unsM f g i))), (b, .inl (E.2.1, 16, .inl f))]) (isC := []) (isR := [0, 1, 2]) (As := [.int (nI i)]) B (c_X0_source l E i (nI i) rfl (by omega)) k_X0_source g_167 s_X0_source ⟨Nat.le_trans (by decide) hR.1, Nat.le_trans (by decide) hR.2, rfl, rfl⟩ hP hD hS ⟨rfl, rfl, rfl, rfl, by decide⟩ rfl hl.1 rfl (Nat.le_of_ble_eq_true rfl) dX0_moveAndReplaceBack_13 hf (fun H locs hP hD hS => ?_)
      have hP : va_P E.1 classes [(oK, .inr (0, [.ref aB, .ref aW, .ref aF, .ref aG, .ref aV, .int mde])), (aV, .inl (E.2.1, 16, .inl (unsM f g i))), (b, .inl (E.2.1, 16, .inl f))] _ := hP
      have hD : va_D A [(oK, .inr (0, [.ref aB, .ref aW, .ref aF, .ref aG, .ref aV, .int mde])), (aV, .inl (E.2.1, 16, .inl (unsM f g i))), (b, .inl (E.2.1, 16, .inl f))] := hD
      refine x_gsN B hS 1 rfl n_251 dX0_moveAndReplaceBack_16 ?_
      refine lv_aload_n hx hb dX0_moveAndReplaceBack_19 rfl (lv_at hl 2 rfl) ?_
      refine lv_iload_n hx hb dX0_moveAndReplaceBack_20 rfl (lv_at hl 0 rfl) ?_
      refine x_ald B hP 2 rfl i rfl (by omega) (by decide) dX0_moveAndReplaceBack_21 ?_
      refine x_tld B hS 1 rfl ((f i).toNatClampNeg) (((hF i (by omega))).1) (((hF i (by omega))).2) (by decide) dX0_moveAndReplaceBack_22 ?_
      refine x_ast B hP hD hS 1 rfl (srcM i) rfl (srcM_lt i) (by decide) dX0_moveAndReplaceBack_23 (fun H locs hP hD hS => ?_)
      have hP : va_P E.1 classes [(oK, .inr (0, [.ref aB, .ref aW, .ref aF, .ref aG, .ref aV, .int mde])), (aV, .inl (E.2.1, 16, .inl (upd (unsM f g i) (srcM i) (fU ((f i).toNatClampNeg))))), (b, .inl (E.2.1, 16, .inl f))] _ := hP
      have hD : va_D A [(oK, .inr (0, [.ref aB, .ref aW, .ref aF, .ref aG, .ref aV, .int mde])), (aV, .inl (E.2.1, 16, .inl (upd (unsM f g i) (srcM i) (fU ((f i).toNatClampNeg))))), (b, .inl (E.2.1, 16, .inl f))] := hD
      refine lv_iinc (v := (nI (i + 1))) (lv' := [(2, .int (nI (i + 1))), (0, .ref oK), (1, .ref b)]) hx hb dX0_moveAndReplaceBack_24 hl (k := 0) rfl (ii_1 i) (by decide) rfl (fun ls hl => ?_)
      refine lv_goto (tgt := 2) hx hb dX0_moveAndReplaceBack_27 (by decide) ?_
      have hP : va_P E.1 classes [(oK, .inr (0, [.ref aB, .ref aW, .ref aF, .ref aG, .ref aV, .int mde])), (aV, .inl (E.2.1, 16, .inl (unsM f g (i + 1)))), (b, .inl (E.2.1, 16, .inl f))] _ := hP
      have hD : va_D A [(oK, .inr (0, [.ref aB, .ref aW, .ref aF, .ref aG, .ref aV, .int mde])), (aV, .inl (E.2.1, 16, .inl (unsM f g (i + 1)))), (b, .inl (E.2.1, 16, .inl f))] := hD
      exact ih (i + 1) (by omega) (by omega) _ _ _ hP hD hS (lv_sub hl [0, 1, 2] rfl)
set_option maxHeartbeats 4000000 in
set_option maxRecDepth 100000 in
/-- lp_unre -/
theorem c_X0_moveAndReplaceBack (l : Launch) (E : EE) (oK aB aW aF aG aV b : Nat) (f g : Nat → Int32) (mde : Int32) (hF : ∀ i, i < 16 → By (f i)) : Cv l yX0_moveAndReplaceBack (.code yX0_moveAndReplaceBack cX0_moveAndReplaceBack 3 none) ({ frames := 1, cells := 0, slots := 0, locals := 60 }) E [.ref oK, .ref b] [(oK, .inr (0, [.ref aB, .ref aW, .ref aF, .ref aG, .ref aV, .int mde])), (aV, .inl (E.2.1, 16, .inl g)), (b, .inl (E.2.1, 16, .inl f))] [(oK, .inr (0, [.ref aB, .ref aW, .ref aF, .ref aG, .ref aV, .int mde])), (aV, .inl (E.2.1, 16, .inl (unsM f g 16))), (b, .inl (E.2.1, 16, .inl (va_cpy (unsM f g 16) f 0 0 16)))] := by
  refine Cv.of (by decide) (Nat.le_of_ble_eq_true rfl) ?_
  intro p e s m below meth c A ls B hP hD hS hl
  have hl : lv_has ls 3 [(0, .ref oK), (1, .ref b)] := hl
  have B : Bd p s m _ meth c cX0_moveAndReplaceBack 3 none RX0 E A := B
  have hx := B.1
  have hb := B.2.1
  have hP : va_P E.1 classes [(oK, .inr (0, [.ref aB, .ref aW, .ref aF, .ref aG, .ref aV, .int mde])), (aV, .inl (E.2.1, 16, .inl g)), (b, .inl (E.2.1, 16, .inl f))] _ := hP
  have hD : va_D A [(oK, .inr (0, [.ref aB, .ref aW, .ref aF, .ref aG, .ref aV, .int mde])), (aV, .inl (E.2.1, 16, .inl g)), (b, .inl (E.2.1, 16, .inl f))] := hD
  refine lv_iconst (v := 0) hx hb dX0_moveAndReplaceBack_0 (by decide) ?_
  refine lv_istore_n (lv' := [(2, .int 0), (0, .ref oK), (1, .ref b)]) hx hb dX0_moveAndReplaceBack_1 rfl hl (by decide) rfl (fun ls hl => ?_)
  have hP : va_P E.1 classes [(oK, .inr (0, [.ref aB, .ref aW, .ref aF, .ref aG, .ref aV, .int mde])), (aV, .inl (E.2.1, 16, .inl (unsM f g 0))), (b, .inl (E.2.1, 16, .inl f))] _ := hP
  have hD : va_D A [(oK, .inr (0, [.ref aB, .ref aW, .ref aF, .ref aG, .ref aV, .int mde])), (aV, .inl (E.2.1, 16, .inl (unsM f g 0))), (b, .inl (E.2.1, 16, .inl f))] := hD
  refine lp_unre B ⟨by decide, by decide⟩ ⟨by decide, by decide⟩ hF (fun H locs ls hP hD hS hl => ?_) 17 0 (by omega) (by omega) _ _ _ hP hD hS (lv_sub hl [0, 1, 2] rfl)
  refine lv_aload_n hx hb dX0_moveAndReplaceBack_30 rfl (lv_at hl 1 rfl) ?_
  refine x_get B hP 0 rfl rfl i_X0 4 (by decide) g_29 rfl dX0_moveAndReplaceBack_31 ?_
  refine lv_iconst (v := 0) hx hb dX0_moveAndReplaceBack_34 (by decide) ?_
  refine lv_aload_n hx hb dX0_moveAndReplaceBack_35 rfl (lv_at hl 2 rfl) ?_
  refine lv_iconst (v := 0) hx hb dX0_moveAndReplaceBack_36 (by decide) ?_
  refine lv_bipush (v := 16) hx hb dX0_moveAndReplaceBack_37 (by decide) ?_
  refine x_copy B hP hD hS g_136 w_copy hl.1 1 2 rfl rfl 16 rfl (by decide) (by decide) (by decide) (by decide) (Nat.le_of_ble_eq_true rfl) dX0_moveAndReplaceBack_39 (fun H locs hP hD hS => ?_)
  have hP : va_P E.1 classes [(oK, .inr (0, [.ref aB, .ref aW, .ref aF, .ref aG, .ref aV, .int mde])), (aV, .inl (E.2.1, 16, .inl (unsM f g 16))), (b, .inl (E.2.1, 16, .inl (va_cpy (unsM f g 16) f 0 0 16)))] _ := hP
  have hD : va_D A [(oK, .inr (0, [.ref aB, .ref aW, .ref aF, .ref aG, .ref aV, .int mde])), (aV, .inl (E.2.1, 16, .inl (unsM f g 16))), (b, .inl (E.2.1, 16, .inl (va_cpy (unsM f g 16) f 0 0 16)))] := hD
  have hP : va_P E.1 classes [(oK, .inr (0, [.ref aB, .ref aW, .ref aF, .ref aG, .ref aV, .int mde])), (aV, .inl (E.2.1, 16, .inl (unsM f g 16))), (b, .inl (E.2.1, 16, .inl (va_cpy (unsM f g 16) f 0 0 16)))] _ := hP
  have hD : va_D A [(oK, .inr (0, [.ref aB, .ref aW, .ref aF, .ref aG, .ref aV, .int mde])), (aV, .inl (E.2.1, 16, .inl (unsM f g 16))), (b, .inl (E.2.1, 16, .inl (va_cpy (unsM f g 16) f 0 0 16)))] := hD
  exact x_vret B hP hD hS dX0_moveAndReplaceBack_42
set_option maxHeartbeats 4000000 in
set_option maxRecDepth 100000 in
theorem lp_forth {p : Program} {l : Launch} {e : Env} {R : Room} {s : State} {m : MethodId} {args : Array Value} {below : List Frame} {meth : Method} {c : Code} {cells slots : Nat} {Q : State → Prop} {E : EE} {A : Nat → Prop} {oK aB aW aF aG aV b : Nat} {fW f g : Nat → Int32} {mde : Int32} (B : Bd p s m args meth c cX0_goForth 3 none RX0 E A) (hf : cells ≤ R.cells ∧ slots ≤ R.slots) (hR : 3 ≤ R.frames ∧ 82 ≤ R.locals) (hW : ∀ i, i < 176 → By (fW i)) (hF : ∀ i, i < 16 → By (f i)) (hG : ∀ i, i < 16 → By (g i))
    (kk : ∀ (H : Heap) (locs : List Loc) (ls : Array Slot), va_P E.1 classes [(oK, .inr (0, [.ref aB, .ref aW, .ref aF, .ref aG, .ref aV, .int mde])), (aW, .inl (E.2.1, 176, .inl fW)), (aV, .inl (E.2.1, 16, .inl ((forM fW f g 10).2))), (b, .inl (E.2.1, 16, .inl ((forM fW f g 10).1)))] H → va_D A [(oK, .inr (0, [.ref aB, .ref aW, .ref aF, .ref aG, .ref aV, .int mde])), (aW, .inl (E.2.1, 176, .inl fW)), (aV, .inl (E.2.1, 16, .inl ((forM fW f g 10).2))), (b, .inl (E.2.1, 16, .inl ((forM fW f g 10).1)))] → va_S A s.heap H locs → lv_has ls 3 [(2, .int (nI (10 + 1))), (0, .ref oK), (1, .ref b)] → W p l e R s m args below meth c H locs cells slots Q (F0 m 50 ls [])) :
    ∀ (fu i : Nat), i ≤ 10 → 10 < i + fu → ∀ (H : Heap) (locs : List Loc) (ls : Array Slot), va_P E.1 classes [(oK, .inr (0, [.ref aB, .ref aW, .ref aF, .ref aG, .ref aV, .int mde])), (aW, .inl (E.2.1, 176, .inl fW)), (aV, .inl (E.2.1, 16, .inl ((forM fW f g i).2))), (b, .inl (E.2.1, 16, .inl ((forM fW f g i).1)))] H → va_D A [(oK, .inr (0, [.ref aB, .ref aW, .ref aF, .ref aG, .ref aV, .int mde])), (aW, .inl (E.2.1, 176, .inl fW)), (aV, .inl (E.2.1, 16, .inl ((forM fW f g i).2))), (b, .inl (E.2.1, 16, .inl ((forM fW f g i).1)))] → va_S A s.heap H locs → lv_has ls 3 [(2, .int (nI (i + 1))), (0, .ref oK), (1, .ref b)] → W p l e R s m args below meth c H locs cells slots Q (F0 m 11 ls []) := by
  have hx := B.1
  have hb := B.2.1
  intro fu
  induction fu with
  | zero =>
    intro i h1 h2
    exact absurd h2 (by omega)
  | succ fu ih =>
    intro i hi hin H locs ls hP hD hS hl
    refine lv_iload_n hx hb dX0_goForth_11 rfl (lv_at hl 0 rfl) ?_
    refine lv_bipush (v := 10) hx hb dX0_goForth_12 (by decide) ?_
    refine lv_icmp_gt (tgt := 50) hx hb dX0_goForth_14 (by decide) (fun c_14 => ?_) (fun c_14 => ?_)
    · have hj : i = 10 := by have := lt_t (a := 10) c_14 (by omega) (by omega); omega
      subst hj
      exact kk _ _ _ hP hD hS hl
    · have hj : i < 10 := by have := lt_f (a := 10) c_14 (by omega) (by omega); omega
      refine lv_aload_n hx hb dX0_goForth_17 rfl (lv_at hl 1 rfl) ?_
      refine lv_aload_n hx hb dX0_goForth_18 rfl (lv_at hl 2 rfl) ?_
      refine x_Vv (wr := [(aW, .inl (E.2.1, 176, .inl fW))]) (isC := [0, 2, 3]) (isR := [1]) (As := [.ref b]) B (c_X0_replaceAndMove l E oK aB aW aF aG aV b ((forM fW f g i).1) ((forM fW f g i).2) mde ((forM_by hW hF hG i (by omega)).1)) k_X0_replaceAndMove g_163 s_X0_replaceAndMove ⟨Nat.le_trans (by decide) hR.1, Nat.le_trans (by decide) hR.2, rfl, rfl⟩ rfl 0 rfl hP hD hS ⟨rfl, rfl, rfl, rfl, by decide⟩ rfl hl.1 rfl (Nat.le_of_ble_eq_true rfl) dX0_goForth_19 hf (fun H locs hP hD hS => ?_)
      have hP : va_P E.1 classes [(aW, .inl (E.2.1, 176, .inl fW)), (oK, .inr (0, [.ref aB, .ref aW, .ref aF, .ref aG, .ref aV, .int mde])), (aV, .inl (E.2.1, 16, .inl (subM ((forM fW f g i).1) ((forM fW f g i).2) 16))), (b, .inl (E.2.1, 16, .inl (va_cpy (subM ((forM fW f g i).1) ((forM fW f g i).2) 16) ((forM fW f g i).1) 0 0 16)))] _ := hP
      have hD : va_D A [(aW, .inl (E.2.1, 176, .inl fW)), (oK, .inr (0, [.ref aB, .ref aW, .ref aF, .ref aG, .ref aV, .int mde])), (aV, .inl (E.2.1, 16, .inl (subM ((forM fW f g i).1) ((forM fW f g i).2) 16))), (b, .inl (E.2.1, 16, .inl (va_cpy (subM ((forM fW f g i).1) ((forM fW f g i).2) 16) ((forM fW f g i).1) 0 0 16)))] := hD
      refine lv_iload_n hx hb dX0_goForth_22 rfl (lv_at hl 0 rfl) ?_
      refine lv_bipush (v := 10) hx hb dX0_goForth_23 (by decide) ?_
      refine lv_icmp_ge (tgt := 32) hx hb dX0_goForth_25 (by decide) (fun c_25 => ?_) (fun c_25 => ?_)
      · refine lv_aload_n hx hb dX0_goForth_32 rfl (lv_at hl 2 rfl) ?_
        refine lv_aload_n hx hb dX0_goForth_33 rfl (lv_at hl 1 rfl) ?_
        refine x_get B hP 1 rfl rfl i_X0 1 (by decide) g_22 rfl dX0_goForth_34 ?_
        refine lv_bipush (v := 16) hx hb dX0_goForth_37 (by decide) ?_
        refine lv_iload_n hx hb dX0_goForth_39 rfl (lv_at hl 0 rfl) ?_
        refine lv_imul hx hb dX0_goForth_40 ?_
        refine x_SNv (wr := [(oK, .inr (0, [.ref aB, .ref aW, .ref aF, .ref aG, .ref aV, .int mde])), (aV, .inl (E.2.1, 16, .inl (subM ((forM fW f g i).1) ((forM fW f g i).2) 16)))]) (isC := [3, 0]) (isR := [1, 2]) (As := [.ref b, .ref aW, .int (16 * (nI (i + 1)))]) B (c_X2_xor l E b aW 176 (16 * (i + 1)) (va_cpy (subM ((forM fW f g i).1) ((forM fW f g i).2) 16) ((forM fW f g i).1) 0 0 16) fW (16 * (nI (i + 1))) (na_mul rfl rfl) (by omega) (by decide)) k_X2_xor n_160 s_X2_xor ⟨Nat.le_trans (by decide) hR.1, Nat.le_trans (by decide) hR.2, rfl, rfl⟩ hP hD hS ⟨rfl, rfl, rfl, rfl, by decide⟩ rfl hl.1 rfl (Nat.le_of_ble_eq_true rfl) dX0_goForth_41 hf (fun H locs hP hD hS => ?_)
        have hP : va_P E.1 classes [(oK, .inr (0, [.ref aB, .ref aW, .ref aF, .ref aG, .ref aV, .int mde])), (aV, .inl (E.2.1, 16, .inl (subM ((forM fW f g i).1) ((forM fW f g i).2) 16))), (b, .inl (E.2.1, 16, .inl (xorM fW (16 * (i + 1)) (va_cpy (subM ((forM fW f g i).1) ((forM fW f g i).2) 16) ((forM fW f g i).1) 0 0 16) 16))), (aW, .inl (E.2.1, 176, .inl fW))] _ := hP
        have hD : va_D A [(oK, .inr (0, [.ref aB, .ref aW, .ref aF, .ref aG, .ref aV, .int mde])), (aV, .inl (E.2.1, 16, .inl (subM ((forM fW f g i).1) ((forM fW f g i).2) 16))), (b, .inl (E.2.1, 16, .inl (xorM fW (16 * (i + 1)) (va_cpy (subM ((forM fW f g i).1) ((forM fW f g i).2) 16) ((forM fW f g i).1) 0 0 16) 16))), (aW, .inl (E.2.1, 176, .inl fW))] := hD
        refine lv_iinc (v := (nI ((i + 1) + 1))) (lv' := [(2, .int (nI ((i + 1) + 1))), (0, .ref oK), (1, .ref b)]) hx hb dX0_goForth_44 hl (k := 0) rfl (ii_1 (i + 1)) (by decide) rfl (fun ls hl => ?_)
        refine lv_goto (tgt := 11) hx hb dX0_goForth_47 (by decide) ?_
        have hk : ¬ i + 1 < 10 := by have := ge_t (b := 10) c_25 (by omega) (by omega); omega
        have eF : forM fW f g (i + 1) = (xorM fW (16 * (i + 1)) (va_cpy (subM (forM fW f g i).1 (forM fW f g i).2 16) (forM fW f g i).1 0 0 16) 16, subM (forM fW f g i).1 (forM fW f g i).2 16) := by
          show (xorM fW (16 * (i + 1)) (if i + 1 < 10 then _ else _) 16, _) = _
          rw [if_neg hk]
        have hP := hP.sub (ws' := [(oK, .inr (0, [.ref aB, .ref aW, .ref aF, .ref aG, .ref aV, .int mde])), (aW, .inl (E.2.1, 176, .inl fW)), (aV, .inl (E.2.1, 16, .inl (subM ((forM fW f g i).1) ((forM fW f g i).2) 16))), (b, .inl (E.2.1, 16, .inl (xorM fW (16 * (i + 1)) (va_cpy (subM ((forM fW f g i).1) ((forM fW f g i).2) 16) ((forM fW f g i).1) 0 0 16) 16)))]) [0, 3, 1, 2] rfl
        have hD := hD.sub (ws' := [(oK, .inr (0, [.ref aB, .ref aW, .ref aF, .ref aG, .ref aV, .int mde])), (aW, .inl (E.2.1, 176, .inl fW)), (aV, .inl (E.2.1, 16, .inl (subM ((forM fW f g i).1) ((forM fW f g i).2) 16))), (b, .inl (E.2.1, 16, .inl (xorM fW (16 * (i + 1)) (va_cpy (subM ((forM fW f g i).1) ((forM fW f g i).2) 16) ((forM fW f g i).1) 0 0 16) 16)))]) [0, 3, 1, 2] (by decide) rfl
        have hP : va_P E.1 classes [(oK, .inr (0, [.ref aB, .ref aW, .ref aF, .ref aG, .ref aV, .int mde])), (aW, .inl (E.2.1, 176, .inl fW)), (aV, .inl (E.2.1, 16, .inl ((forM fW f g (i + 1)).2))), (b, .inl (E.2.1, 16, .inl ((forM fW f g (i + 1)).1)))] _ := (by rw [eF]; exact hP)
        have hD : va_D A [(oK, .inr (0, [.ref aB, .ref aW, .ref aF, .ref aG, .ref aV, .int mde])), (aW, .inl (E.2.1, 176, .inl fW)), (aV, .inl (E.2.1, 16, .inl ((forM fW f g (i + 1)).2))), (b, .inl (E.2.1, 16, .inl ((forM fW f g (i + 1)).1)))] := (by rw [eF]; exact hD)
        exact ih (i + 1) (by omega) (by omega) _ _ _ hP hD hS (lv_sub hl [0, 1, 2] rfl)
      · refine lv_aload_n hx hb dX0_goForth_28 rfl (lv_at hl 2 rfl) ?_
        refine x_Sv (wr := [(aW, .inl (E.2.1, 176, .inl fW)), (oK, .inr (0, [.ref aB, .ref aW, .ref aF, .ref aG, .ref aV, .int mde])), (aV, .inl (E.2.1, 16, .inl (subM ((forM fW f g i).1) ((forM fW f g i).2) 16)))]) (isC := [3]) (isR := [0, 1, 2]) (As := [.ref b]) B (c_X0_mix l E b (va_cpy (subM ((forM fW f g i).1) ((forM fW f g i).2) 16) ((forM fW f g i).1) 0 0 16) (By.cpy (N := 16) (by decide) (subM_by ((forM_by hW hF hG i (by omega)).1) ((forM_by hW hF hG i (by omega)).2) 16 (by decide)) ((forM_by hW hF hG i (by omega)).1))) k_X0_mix g_170 s_X0_mix ⟨Nat.le_trans (by decide) hR.1, Nat.le_trans (by decide) hR.2, rfl, rfl⟩ hP hD hS ⟨rfl, rfl, rfl, rfl, by decide⟩ rfl hl.1 rfl (Nat.le_of_ble_eq_true rfl) dX0_goForth_29 hf (fun H locs hP hD hS => ?_)
        have hP : va_P E.1 classes [(aW, .inl (E.2.1, 176, .inl fW)), (oK, .inr (0, [.ref aB, .ref aW, .ref aF, .ref aG, .ref aV, .int mde])), (aV, .inl (E.2.1, 16, .inl (subM ((forM fW f g i).1) ((forM fW f g i).2) 16))), (b, .inl (E.2.1, 16, .inl (mixW (va_cpy (subM ((forM fW f g i).1) ((forM fW f g i).2) 16) ((forM fW f g i).1) 0 0 16))))] _ := hP
        have hD : va_D A [(aW, .inl (E.2.1, 176, .inl fW)), (oK, .inr (0, [.ref aB, .ref aW, .ref aF, .ref aG, .ref aV, .int mde])), (aV, .inl (E.2.1, 16, .inl (subM ((forM fW f g i).1) ((forM fW f g i).2) 16))), (b, .inl (E.2.1, 16, .inl (mixW (va_cpy (subM ((forM fW f g i).1) ((forM fW f g i).2) 16) ((forM fW f g i).1) 0 0 16))))] := hD
        refine lv_aload_n hx hb dX0_goForth_32 rfl (lv_at hl 2 rfl) ?_
        refine lv_aload_n hx hb dX0_goForth_33 rfl (lv_at hl 1 rfl) ?_
        refine x_get B hP 1 rfl rfl i_X0 1 (by decide) g_22 rfl dX0_goForth_34 ?_
        refine lv_bipush (v := 16) hx hb dX0_goForth_37 (by decide) ?_
        refine lv_iload_n hx hb dX0_goForth_39 rfl (lv_at hl 0 rfl) ?_
        refine lv_imul hx hb dX0_goForth_40 ?_
        refine x_SNv (wr := [(oK, .inr (0, [.ref aB, .ref aW, .ref aF, .ref aG, .ref aV, .int mde])), (aV, .inl (E.2.1, 16, .inl (subM ((forM fW f g i).1) ((forM fW f g i).2) 16)))]) (isC := [3, 0]) (isR := [1, 2]) (As := [.ref b, .ref aW, .int (16 * (nI (i + 1)))]) B (c_X2_xor l E b aW 176 (16 * (i + 1)) (mixW (va_cpy (subM ((forM fW f g i).1) ((forM fW f g i).2) 16) ((forM fW f g i).1) 0 0 16)) fW (16 * (nI (i + 1))) (na_mul rfl rfl) (by omega) (by decide)) k_X2_xor n_160 s_X2_xor ⟨Nat.le_trans (by decide) hR.1, Nat.le_trans (by decide) hR.2, rfl, rfl⟩ hP hD hS ⟨rfl, rfl, rfl, rfl, by decide⟩ rfl hl.1 rfl (Nat.le_of_ble_eq_true rfl) dX0_goForth_41 hf (fun H locs hP hD hS => ?_)
        have hP : va_P E.1 classes [(oK, .inr (0, [.ref aB, .ref aW, .ref aF, .ref aG, .ref aV, .int mde])), (aV, .inl (E.2.1, 16, .inl (subM ((forM fW f g i).1) ((forM fW f g i).2) 16))), (b, .inl (E.2.1, 16, .inl (xorM fW (16 * (i + 1)) (mixW (va_cpy (subM ((forM fW f g i).1) ((forM fW f g i).2) 16) ((forM fW f g i).1) 0 0 16)) 16))), (aW, .inl (E.2.1, 176, .inl fW))] _ := hP
        have hD : va_D A [(oK, .inr (0, [.ref aB, .ref aW, .ref aF, .ref aG, .ref aV, .int mde])), (aV, .inl (E.2.1, 16, .inl (subM ((forM fW f g i).1) ((forM fW f g i).2) 16))), (b, .inl (E.2.1, 16, .inl (xorM fW (16 * (i + 1)) (mixW (va_cpy (subM ((forM fW f g i).1) ((forM fW f g i).2) 16) ((forM fW f g i).1) 0 0 16)) 16))), (aW, .inl (E.2.1, 176, .inl fW))] := hD
        refine lv_iinc (v := (nI ((i + 1) + 1))) (lv' := [(2, .int (nI ((i + 1) + 1))), (0, .ref oK), (1, .ref b)]) hx hb dX0_goForth_44 hl (k := 0) rfl (ii_1 (i + 1)) (by decide) rfl (fun ls hl => ?_)
        refine lv_goto (tgt := 11) hx hb dX0_goForth_47 (by decide) ?_
        have hk : i + 1 < 10 := by have := ge_f (b := 10) c_25 (by omega) (by omega); omega
        have eF : forM fW f g (i + 1) = (xorM fW (16 * (i + 1)) (mixW (va_cpy (subM (forM fW f g i).1 (forM fW f g i).2 16) (forM fW f g i).1 0 0 16)) 16, subM (forM fW f g i).1 (forM fW f g i).2 16) := by
          show (xorM fW (16 * (i + 1)) (if i + 1 < 10 then _ else _) 16, _) = _
          rw [if_pos hk]
        have hP := hP.sub (ws' := [(oK, .inr (0, [.ref aB, .ref aW, .ref aF, .ref aG, .ref aV, .int mde])), (aW, .inl (E.2.1, 176, .inl fW)), (aV, .inl (E.2.1, 16, .inl (subM ((forM fW f g i).1) ((forM fW f g i).2) 16))), (b, .inl (E.2.1, 16, .inl (xorM fW (16 * (i + 1)) (mixW (va_cpy (subM ((forM fW f g i).1) ((forM fW f g i).2) 16) ((forM fW f g i).1) 0 0 16)) 16)))]) [0, 3, 1, 2] rfl
        have hD := hD.sub (ws' := [(oK, .inr (0, [.ref aB, .ref aW, .ref aF, .ref aG, .ref aV, .int mde])), (aW, .inl (E.2.1, 176, .inl fW)), (aV, .inl (E.2.1, 16, .inl (subM ((forM fW f g i).1) ((forM fW f g i).2) 16))), (b, .inl (E.2.1, 16, .inl (xorM fW (16 * (i + 1)) (mixW (va_cpy (subM ((forM fW f g i).1) ((forM fW f g i).2) 16) ((forM fW f g i).1) 0 0 16)) 16)))]) [0, 3, 1, 2] (by decide) rfl
        have hP : va_P E.1 classes [(oK, .inr (0, [.ref aB, .ref aW, .ref aF, .ref aG, .ref aV, .int mde])), (aW, .inl (E.2.1, 176, .inl fW)), (aV, .inl (E.2.1, 16, .inl ((forM fW f g (i + 1)).2))), (b, .inl (E.2.1, 16, .inl ((forM fW f g (i + 1)).1)))] _ := (by rw [eF]; exact hP)
        have hD : va_D A [(oK, .inr (0, [.ref aB, .ref aW, .ref aF, .ref aG, .ref aV, .int mde])), (aW, .inl (E.2.1, 176, .inl fW)), (aV, .inl (E.2.1, 16, .inl ((forM fW f g (i + 1)).2))), (b, .inl (E.2.1, 16, .inl ((forM fW f g (i + 1)).1)))] := (by rw [eF]; exact hD)
        exact ih (i + 1) (by omega) (by omega) _ _ _ hP hD hS (lv_sub hl [0, 1, 2] rfl)
set_option maxHeartbeats 4000000 in
set_option maxRecDepth 100000 in
/-- goForth -/
theorem c_X0_goForth (l : Launch) (E : EE) (oK aB aW aF aG aV b : Nat) (fW f g : Nat → Int32) (mde : Int32) (hW : ∀ i, i < 176 → By (fW i)) (hF : ∀ i, i < 16 → By (f i)) (hG : ∀ i, i < 16 → By (g i)) : Cv l yX0_goForth (.code yX0_goForth cX0_goForth 3 none) ({ frames := 3, cells := 0, slots := 0, locals := 82 }) E [.ref oK, .ref b] [(oK, .inr (0, [.ref aB, .ref aW, .ref aF, .ref aG, .ref aV, .int mde])), (aW, .inl (E.2.1, 176, .inl fW)), (aV, .inl (E.2.1, 16, .inl g)), (b, .inl (E.2.1, 16, .inl f))] [(oK, .inr (0, [.ref aB, .ref aW, .ref aF, .ref aG, .ref aV, .int mde])), (aW, .inl (E.2.1, 176, .inl fW)), (aV, .inl (E.2.1, 16, .inl ((forM fW f g 10).2))), (b, .inl (E.2.1, 16, .inl ((forM fW f g 10).1)))] := by
  refine Cv.of (by decide) (Nat.le_of_ble_eq_true rfl) ?_
  intro p e s m below meth c A ls B hP hD hS hl
  have hl : lv_has ls 3 [(0, .ref oK), (1, .ref b)] := hl
  have B : Bd p s m _ meth c cX0_goForth 3 none RX0 E A := B
  have hx := B.1
  have hb := B.2.1
  have hP : va_P E.1 classes [(oK, .inr (0, [.ref aB, .ref aW, .ref aF, .ref aG, .ref aV, .int mde])), (aW, .inl (E.2.1, 176, .inl fW)), (aV, .inl (E.2.1, 16, .inl g)), (b, .inl (E.2.1, 16, .inl f))] _ := hP
  have hD : va_D A [(oK, .inr (0, [.ref aB, .ref aW, .ref aF, .ref aG, .ref aV, .int mde])), (aW, .inl (E.2.1, 176, .inl fW)), (aV, .inl (E.2.1, 16, .inl g)), (b, .inl (E.2.1, 16, .inl f))] := hD
  refine lv_aload_n hx hb dX0_goForth_0 rfl (lv_at hl 1 rfl) ?_
  refine lv_aload_n hx hb dX0_goForth_1 rfl (lv_at hl 0 rfl) ?_
  refine x_get B hP 0 rfl rfl i_X0 1 (by decide) g_22 rfl dX0_goForth_2 ?_
  refine lv_iconst (v := 0) hx hb dX0_goForth_5 (by decide) ?_
  refine x_SNv (wr := [(oK, .inr (0, [.ref aB, .ref aW, .ref aF, .ref aG, .ref aV, .int mde])), (aV, .inl (E.2.1, 16, .inl g))]) (isC := [3, 1]) (isR := [0, 2]) (As := [.ref b, .ref aW, .int 0]) B (c_X2_xor l E b aW 176 0 f fW 0 rfl (by omega) (by decide)) k_X2_xor n_160 s_X2_xor ⟨by decide, by decide, rfl, rfl⟩ hP hD hS ⟨rfl, rfl, rfl, rfl, by decide⟩ rfl hl.1 rfl (Nat.le_of_ble_eq_true rfl) dX0_goForth_6 ⟨by decide, by decide⟩ (fun H locs hP hD hS => ?_)
  have hP : va_P E.1 classes [(oK, .inr (0, [.ref aB, .ref aW, .ref aF, .ref aG, .ref aV, .int mde])), (aV, .inl (E.2.1, 16, .inl g)), (b, .inl (E.2.1, 16, .inl (xorM fW 0 f 16))), (aW, .inl (E.2.1, 176, .inl fW))] _ := hP
  have hD : va_D A [(oK, .inr (0, [.ref aB, .ref aW, .ref aF, .ref aG, .ref aV, .int mde])), (aV, .inl (E.2.1, 16, .inl g)), (b, .inl (E.2.1, 16, .inl (xorM fW 0 f 16))), (aW, .inl (E.2.1, 176, .inl fW))] := hD
  refine lv_iconst (v := 1) hx hb dX0_goForth_9 (by decide) ?_
  refine lv_istore_n (lv' := [(2, .int 1), (0, .ref oK), (1, .ref b)]) hx hb dX0_goForth_10 rfl hl (by decide) rfl (fun ls hl => ?_)
  have hP := hP.sub (ws' := [(oK, .inr (0, [.ref aB, .ref aW, .ref aF, .ref aG, .ref aV, .int mde])), (aW, .inl (E.2.1, 176, .inl fW)), (aV, .inl (E.2.1, 16, .inl g)), (b, .inl (E.2.1, 16, .inl (xorM fW 0 f 16)))]) [0, 3, 1, 2] rfl
  have hD := hD.sub (ws' := [(oK, .inr (0, [.ref aB, .ref aW, .ref aF, .ref aG, .ref aV, .int mde])), (aW, .inl (E.2.1, 176, .inl fW)), (aV, .inl (E.2.1, 16, .inl g)), (b, .inl (E.2.1, 16, .inl (xorM fW 0 f 16)))]) [0, 3, 1, 2] (by decide) rfl
  have hP : va_P E.1 classes [(oK, .inr (0, [.ref aB, .ref aW, .ref aF, .ref aG, .ref aV, .int mde])), (aW, .inl (E.2.1, 176, .inl fW)), (aV, .inl (E.2.1, 16, .inl ((forM fW f g 0).2))), (b, .inl (E.2.1, 16, .inl ((forM fW f g 0).1)))] _ := hP
  have hD : va_D A [(oK, .inr (0, [.ref aB, .ref aW, .ref aF, .ref aG, .ref aV, .int mde])), (aW, .inl (E.2.1, 176, .inl fW)), (aV, .inl (E.2.1, 16, .inl ((forM fW f g 0).2))), (b, .inl (E.2.1, 16, .inl ((forM fW f g 0).1)))] := hD
  refine lp_forth B ⟨by decide, by decide⟩ ⟨by decide, by decide⟩ hW hF hG (fun H locs ls hP hD hS hl => ?_) 11 0 (by omega) (by omega) _ _ _ hP hD hS (lv_sub hl [0, 1, 2] rfl)
  have hP : va_P E.1 classes [(oK, .inr (0, [.ref aB, .ref aW, .ref aF, .ref aG, .ref aV, .int mde])), (aW, .inl (E.2.1, 176, .inl fW)), (aV, .inl (E.2.1, 16, .inl ((forM fW f g 10).2))), (b, .inl (E.2.1, 16, .inl ((forM fW f g 10).1)))] _ := hP
  have hD : va_D A [(oK, .inr (0, [.ref aB, .ref aW, .ref aF, .ref aG, .ref aV, .int mde])), (aW, .inl (E.2.1, 176, .inl fW)), (aV, .inl (E.2.1, 16, .inl ((forM fW f g 10).2))), (b, .inl (E.2.1, 16, .inl ((forM fW f g 10).1)))] := hD
  exact x_vret B hP hD hS dX0_goForth_50
theorem dn_10 {i : Nat} (h : i < 10) : nI (10 - i) + Int32.ofInt (-1) = nI (10 - (i + 1)) := by
  obtain ⟨k, hk⟩ : ∃ k, 10 - i = k + 1 := ⟨10 - (i + 1), by omega⟩
  rw [hk, show 10 - (i + 1) = k by omega]
  exact pk_m1 k
set_option maxHeartbeats 4000000 in
set_option maxRecDepth 100000 in
theorem lp_back {p : Program} {l : Launch} {e : Env} {R : Room} {s : State} {m : MethodId} {args : Array Value} {below : List Frame} {meth : Method} {c : Code} {cells slots : Nat} {Q : State → Prop} {E : EE} {A : Nat → Prop} {oK aB aW aF aG aV b : Nat} {fW f g : Nat → Int32} {mde : Int32} (B : Bd p s m args meth c cX0_goBack 3 none RX0 E A) (hf : cells ≤ R.cells ∧ slots ≤ R.slots) (hR : 4 ≤ R.frames ∧ 88 ≤ R.locals) (hW : ∀ i, i < 176 → By (fW i)) (hF : ∀ i, i < 16 → By (f i)) (hG : ∀ i, i < 16 → By (g i))
    (kk : ∀ (H : Heap) (locs : List Loc) (ls : Array Slot), va_P E.1 classes [(oK, .inr (0, [.ref aB, .ref aW, .ref aF, .ref aG, .ref aV, .int mde])), (aW, .inl (E.2.1, 176, .inl fW)), (aV, .inl (E.2.1, 16, .inl ((bckM fW f g 10).2))), (b, .inl (E.2.1, 16, .inl ((bckM fW f g 10).1)))] H → va_D A [(oK, .inr (0, [.ref aB, .ref aW, .ref aF, .ref aG, .ref aV, .int mde])), (aW, .inl (E.2.1, 176, .inl fW)), (aV, .inl (E.2.1, 16, .inl ((bckM fW f g 10).2))), (b, .inl (E.2.1, 16, .inl ((bckM fW f g 10).1)))] → va_S A s.heap H locs → lv_has ls 3 [(2, .int (nI (10 - 10))), (0, .ref oK), (1, .ref b)] → W p l e R s m args below meth c H locs cells slots Q (F0 m 41 ls [])) :
    ∀ (fu i : Nat), i ≤ 10 → 10 < i + fu → ∀ (H : Heap) (locs : List Loc) (ls : Array Slot), va_P E.1 classes [(oK, .inr (0, [.ref aB, .ref aW, .ref aF, .ref aG, .ref aV, .int mde])), (aW, .inl (E.2.1, 176, .inl fW)), (aV, .inl (E.2.1, 16, .inl ((bckM fW f g i).2))), (b, .inl (E.2.1, 16, .inl ((bckM fW f g i).1)))] H → va_D A [(oK, .inr (0, [.ref aB, .ref aW, .ref aF, .ref aG, .ref aV, .int mde])), (aW, .inl (E.2.1, 176, .inl fW)), (aV, .inl (E.2.1, 16, .inl ((bckM fW f g i).2))), (b, .inl (E.2.1, 16, .inl ((bckM fW f g i).1)))] → va_S A s.heap H locs → lv_has ls 3 [(2, .int (nI (10 - i))), (0, .ref oK), (1, .ref b)] → W p l e R s m args below meth c H locs cells slots Q (F0 m 3 ls []) := by
  have hx := B.1
  have hb := B.2.1
  intro fu
  induction fu with
  | zero =>
    intro i h1 h2
    exact absurd h2 (by omega)
  | succ fu ih =>
    intro i hi hin H locs ls hP hD hS hl
    refine lv_iload_n hx hb dX0_goBack_3 rfl (lv_at hl 0 rfl) ?_
    refine lv_iconst (v := 1) hx hb dX0_goBack_4 (by decide) ?_
    refine lv_icmp_lt (tgt := 41) hx hb dX0_goBack_5 (by decide) (fun c_5 => ?_) (fun c_5 => ?_)
    · have hj : i = 10 := by have := lt_t (b := 1) c_5 (by omega) (by omega); omega
      subst hj
      exact kk _ _ _ hP hD hS hl
    · have hj : i < 10 := by have := lt_f (b := 1) c_5 (by omega) (by omega); omega
      refine lv_aload_n hx hb dX0_goBack_8 rfl (lv_at hl 2 rfl) ?_
      refine lv_aload_n hx hb dX0_goBack_9 rfl (lv_at hl 1 rfl) ?_
      refine x_get B hP 0 rfl rfl i_X0 1 (by decide) g_22 rfl dX0_goBack_10 ?_
      refine lv_bipush (v := 16) hx hb dX0_goBack_13 (by decide) ?_
      refine lv_iload_n hx hb dX0_goBack_15 rfl (lv_at hl 0 rfl) ?_
      refine lv_imul hx hb dX0_goBack_16 ?_
      refine x_SNv (wr := [(oK, .inr (0, [.ref aB, .ref aW, .ref aF, .ref aG, .ref aV, .int mde])), (aV, .inl (E.2.1, 16, .inl ((bckM fW f g i).2)))]) (isC := [3, 1]) (isR := [0, 2]) (As := [.ref b, .ref aW, .int (16 * (nI (10 - i)))]) B (c_X2_xor l E b aW 176 (16 * (10 - i)) ((bckM fW f g i).1) fW (16 * (nI (10 - i))) (na_mul rfl rfl) (by omega) (by decide)) k_X2_xor n_160 s_X2_xor ⟨Nat.le_trans (by decide) hR.1, Nat.le_trans (by decide) hR.2, rfl, rfl⟩ hP hD hS ⟨rfl, rfl, rfl, rfl, by decide⟩ rfl hl.1 rfl (Nat.le_of_ble_eq_true rfl) dX0_goBack_17 hf (fun H locs hP hD hS => ?_)
      have hP : va_P E.1 classes [(oK, .inr (0, [.ref aB, .ref aW, .ref aF, .ref aG, .ref aV, .int mde])), (aV, .inl (E.2.1, 16, .inl ((bckM fW f g i).2))), (b, .inl (E.2.1, 16, .inl (xorM fW (16 * (10 - i)) ((bckM fW f g i).1) 16))), (aW, .inl (E.2.1, 176, .inl fW))] _ := hP
      have hD : va_D A [(oK, .inr (0, [.ref aB, .ref aW, .ref aF, .ref aG, .ref aV, .int mde])), (aV, .inl (E.2.1, 16, .inl ((bckM fW f g i).2))), (b, .inl (E.2.1, 16, .inl (xorM fW (16 * (10 - i)) ((bckM fW f g i).1) 16))), (aW, .inl (E.2.1, 176, .inl fW))] := hD
      refine lv_iload_n hx hb dX0_goBack_20 rfl (lv_at hl 0 rfl) ?_
      refine lv_bipush (v := 10) hx hb dX0_goBack_21 (by decide) ?_
      refine lv_icmp_ge (tgt := 30) hx hb dX0_goBack_23 (by decide) (fun c_23 => ?_) (fun c_23 => ?_)
      · refine lv_aload_n hx hb dX0_goBack_30 rfl (lv_at hl 1 rfl) ?_
        refine lv_aload_n hx hb dX0_goBack_31 rfl (lv_at hl 2 rfl) ?_
        refine x_Vv (wr := [(aW, .inl (E.2.1, 176, .inl fW))]) (isC := [0, 1, 2]) (isR := [3]) (As := [.ref b]) B (c_X0_moveAndReplaceBack l E oK aB aW aF aG aV b (xorM fW (16 * (10 - i)) ((bckM fW f g i).1) 16) ((bckM fW f g i).2) mde (xorM_by hW ((bckM_by hW hF hG i (by omega)).1) 16 (by decide) (by omega))) k_X0_moveAndReplaceBack g_247 s_X0_moveAndReplaceBack ⟨Nat.le_trans (by decide) hR.1, Nat.le_trans (by decide) hR.2, rfl, rfl⟩ rfl 0 rfl hP hD hS ⟨rfl, rfl, rfl, rfl, by decide⟩ rfl hl.1 rfl (Nat.le_of_ble_eq_true rfl) dX0_goBack_32 hf (fun H locs hP hD hS => ?_)
        have hP : va_P E.1 classes [(aW, .inl (E.2.1, 176, .inl fW)), (oK, .inr (0, [.ref aB, .ref aW, .ref aF, .ref aG, .ref aV, .int mde])), (aV, .inl (E.2.1, 16, .inl (unsM (xorM fW (16 * (10 - i)) ((bckM fW f g i).1) 16) ((bckM fW f g i).2) 16))), (b, .inl (E.2.1, 16, .inl (va_cpy (unsM (xorM fW (16 * (10 - i)) ((bckM fW f g i).1) 16) ((bckM fW f g i).2) 16) (xorM fW (16 * (10 - i)) ((bckM fW f g i).1) 16) 0 0 16)))] _ := hP
        have hD : va_D A [(aW, .inl (E.2.1, 176, .inl fW)), (oK, .inr (0, [.ref aB, .ref aW, .ref aF, .ref aG, .ref aV, .int mde])), (aV, .inl (E.2.1, 16, .inl (unsM (xorM fW (16 * (10 - i)) ((bckM fW f g i).1) 16) ((bckM fW f g i).2) 16))), (b, .inl (E.2.1, 16, .inl (va_cpy (unsM (xorM fW (16 * (10 - i)) ((bckM fW f g i).1) 16) ((bckM fW f g i).2) 16) (xorM fW (16 * (10 - i)) ((bckM fW f g i).1) 16) 0 0 16)))] := hD
        refine lv_iinc (v := (nI (10 - (i + 1)))) (lv' := [(2, .int (nI (10 - (i + 1)))), (0, .ref oK), (1, .ref b)]) hx hb dX0_goBack_35 hl (k := 0) rfl (dn_10 hj) (by decide) rfl (fun ls hl => ?_)
        refine lv_goto (tgt := 3) hx hb dX0_goBack_38 (by decide) ?_
        have hk : ¬ 10 - i < 10 := by have := ge_t (b := 10) c_23 (by omega) (by omega); omega
        have eF : bckM fW f g (i + 1) = (va_cpy (unsM (xorM fW (16 * (10 - i)) (bckM fW f g i).1 16) (bckM fW f g i).2 16) (xorM fW (16 * (10 - i)) (bckM fW f g i).1 16) 0 0 16, unsM (xorM fW (16 * (10 - i)) (bckM fW f g i).1 16) (bckM fW f g i).2 16) := by
          show (va_cpy (unsM (if 10 - i < 10 then _ else _) _ 16) (if 10 - i < 10 then _ else _) 0 0 16, unsM (if 10 - i < 10 then _ else _) _ 16) = _
          rw [if_neg hk]
        have hP := hP.sub (ws' := [(oK, .inr (0, [.ref aB, .ref aW, .ref aF, .ref aG, .ref aV, .int mde])), (aW, .inl (E.2.1, 176, .inl fW)), (aV, .inl (E.2.1, 16, .inl (unsM (xorM fW (16 * (10 - i)) ((bckM fW f g i).1) 16) ((bckM fW f g i).2) 16))), (b, .inl (E.2.1, 16, .inl (va_cpy (unsM (xorM fW (16 * (10 - i)) ((bckM fW f g i).1) 16) ((bckM fW f g i).2) 16) (xorM fW (16 * (10 - i)) ((bckM fW f g i).1) 16) 0 0 16)))]) [1, 0, 2, 3] rfl
        have hD := hD.sub (ws' := [(oK, .inr (0, [.ref aB, .ref aW, .ref aF, .ref aG, .ref aV, .int mde])), (aW, .inl (E.2.1, 176, .inl fW)), (aV, .inl (E.2.1, 16, .inl (unsM (xorM fW (16 * (10 - i)) ((bckM fW f g i).1) 16) ((bckM fW f g i).2) 16))), (b, .inl (E.2.1, 16, .inl (va_cpy (unsM (xorM fW (16 * (10 - i)) ((bckM fW f g i).1) 16) ((bckM fW f g i).2) 16) (xorM fW (16 * (10 - i)) ((bckM fW f g i).1) 16) 0 0 16)))]) [1, 0, 2, 3] (by decide) rfl
        have hP : va_P E.1 classes [(oK, .inr (0, [.ref aB, .ref aW, .ref aF, .ref aG, .ref aV, .int mde])), (aW, .inl (E.2.1, 176, .inl fW)), (aV, .inl (E.2.1, 16, .inl ((bckM fW f g (i + 1)).2))), (b, .inl (E.2.1, 16, .inl ((bckM fW f g (i + 1)).1)))] _ := (by rw [eF]; exact hP)
        have hD : va_D A [(oK, .inr (0, [.ref aB, .ref aW, .ref aF, .ref aG, .ref aV, .int mde])), (aW, .inl (E.2.1, 176, .inl fW)), (aV, .inl (E.2.1, 16, .inl ((bckM fW f g (i + 1)).2))), (b, .inl (E.2.1, 16, .inl ((bckM fW f g (i + 1)).1)))] := (by rw [eF]; exact hD)
        exact ih (i + 1) (by omega) (by omega) _ _ _ hP hD hS (lv_sub hl [0, 1, 2] rfl)
      · refine lv_aload_n hx hb dX0_goBack_26 rfl (lv_at hl 2 rfl) ?_
        refine x_Sv (wr := [(oK, .inr (0, [.ref aB, .ref aW, .ref aF, .ref aG, .ref aV, .int mde])), (aV, .inl (E.2.1, 16, .inl ((bckM fW f g i).2))), (aW, .inl (E.2.1, 176, .inl fW))]) (isC := [2]) (isR := [0, 1, 3]) (As := [.ref b]) B (c_X0_unmix l E b (xorM fW (16 * (10 - i)) ((bckM fW f g i).1) 16) (xorM_by hW ((bckM_by hW hF hG i (by omega)).1) 16 (by decide) (by omega))) k_X0_unmix g_244 s_X0_unmix ⟨Nat.le_trans (by decide) hR.1, Nat.le_trans (by decide) hR.2, rfl, rfl⟩ hP hD hS ⟨rfl, rfl, rfl, rfl, by decide⟩ rfl hl.1 rfl (Nat.le_of_ble_eq_true rfl) dX0_goBack_27 hf (fun H locs hP hD hS => ?_)
        have hP : va_P E.1 classes [(oK, .inr (0, [.ref aB, .ref aW, .ref aF, .ref aG, .ref aV, .int mde])), (aV, .inl (E.2.1, 16, .inl ((bckM fW f g i).2))), (aW, .inl (E.2.1, 176, .inl fW)), (b, .inl (E.2.1, 16, .inl (mixW (mixW (mixW (xorM fW (16 * (10 - i)) ((bckM fW f g i).1) 16))))))] _ := hP
        have hD : va_D A [(oK, .inr (0, [.ref aB, .ref aW, .ref aF, .ref aG, .ref aV, .int mde])), (aV, .inl (E.2.1, 16, .inl ((bckM fW f g i).2))), (aW, .inl (E.2.1, 176, .inl fW)), (b, .inl (E.2.1, 16, .inl (mixW (mixW (mixW (xorM fW (16 * (10 - i)) ((bckM fW f g i).1) 16))))))] := hD
        refine lv_aload_n hx hb dX0_goBack_30 rfl (lv_at hl 1 rfl) ?_
        refine lv_aload_n hx hb dX0_goBack_31 rfl (lv_at hl 2 rfl) ?_
        refine x_Vv (wr := [(aW, .inl (E.2.1, 176, .inl fW))]) (isC := [0, 1, 3]) (isR := [2]) (As := [.ref b]) B (c_X0_moveAndReplaceBack l E oK aB aW aF aG aV b (mixW (mixW (mixW (xorM fW (16 * (10 - i)) ((bckM fW f g i).1) 16)))) ((bckM fW f g i).2) mde (mixM_by (mixM_by (mixM_by (xorM_by hW ((bckM_by hW hF hG i (by omega)).1) 16 (by decide) (by omega)) 4 (by decide)) 4 (by decide)) 4 (by decide))) k_X0_moveAndReplaceBack g_247 s_X0_moveAndReplaceBack ⟨Nat.le_trans (by decide) hR.1, Nat.le_trans (by decide) hR.2, rfl, rfl⟩ rfl 0 rfl hP hD hS ⟨rfl, rfl, rfl, rfl, by decide⟩ rfl hl.1 rfl (Nat.le_of_ble_eq_true rfl) dX0_goBack_32 hf (fun H locs hP hD hS => ?_)
        have hP : va_P E.1 classes [(aW, .inl (E.2.1, 176, .inl fW)), (oK, .inr (0, [.ref aB, .ref aW, .ref aF, .ref aG, .ref aV, .int mde])), (aV, .inl (E.2.1, 16, .inl (unsM (mixW (mixW (mixW (xorM fW (16 * (10 - i)) ((bckM fW f g i).1) 16)))) ((bckM fW f g i).2) 16))), (b, .inl (E.2.1, 16, .inl (va_cpy (unsM (mixW (mixW (mixW (xorM fW (16 * (10 - i)) ((bckM fW f g i).1) 16)))) ((bckM fW f g i).2) 16) (mixW (mixW (mixW (xorM fW (16 * (10 - i)) ((bckM fW f g i).1) 16)))) 0 0 16)))] _ := hP
        have hD : va_D A [(aW, .inl (E.2.1, 176, .inl fW)), (oK, .inr (0, [.ref aB, .ref aW, .ref aF, .ref aG, .ref aV, .int mde])), (aV, .inl (E.2.1, 16, .inl (unsM (mixW (mixW (mixW (xorM fW (16 * (10 - i)) ((bckM fW f g i).1) 16)))) ((bckM fW f g i).2) 16))), (b, .inl (E.2.1, 16, .inl (va_cpy (unsM (mixW (mixW (mixW (xorM fW (16 * (10 - i)) ((bckM fW f g i).1) 16)))) ((bckM fW f g i).2) 16) (mixW (mixW (mixW (xorM fW (16 * (10 - i)) ((bckM fW f g i).1) 16)))) 0 0 16)))] := hD
        refine lv_iinc (v := (nI (10 - (i + 1)))) (lv' := [(2, .int (nI (10 - (i + 1)))), (0, .ref oK), (1, .ref b)]) hx hb dX0_goBack_35 hl (k := 0) rfl (dn_10 hj) (by decide) rfl (fun ls hl => ?_)
        refine lv_goto (tgt := 3) hx hb dX0_goBack_38 (by decide) ?_
        have hk : 10 - i < 10 := by have := ge_f (b := 10) c_23 (by omega) (by omega); omega
        have eF : bckM fW f g (i + 1) = (va_cpy (unsM (mixW (mixW (mixW (xorM fW (16 * (10 - i)) (bckM fW f g i).1 16)))) (bckM fW f g i).2 16) (mixW (mixW (mixW (xorM fW (16 * (10 - i)) (bckM fW f g i).1 16)))) 0 0 16, unsM (mixW (mixW (mixW (xorM fW (16 * (10 - i)) (bckM fW f g i).1 16)))) (bckM fW f g i).2 16) := by
          show (va_cpy (unsM (if 10 - i < 10 then _ else _) _ 16) (if 10 - i < 10 then _ else _) 0 0 16, unsM (if 10 - i < 10 then _ else _) _ 16) = _
          rw [if_pos hk]
        have hP := hP.sub (ws' := [(oK, .inr (0, [.ref aB, .ref aW, .ref aF, .ref aG, .ref aV, .int mde])), (aW, .inl (E.2.1, 176, .inl fW)), (aV, .inl (E.2.1, 16, .inl (unsM (mixW (mixW (mixW (xorM fW (16 * (10 - i)) ((bckM fW f g i).1) 16)))) ((bckM fW f g i).2) 16))), (b, .inl (E.2.1, 16, .inl (va_cpy (unsM (mixW (mixW (mixW (xorM fW (16 * (10 - i)) ((bckM fW f g i).1) 16)))) ((bckM fW f g i).2) 16) (mixW (mixW (mixW (xorM fW (16 * (10 - i)) ((bckM fW f g i).1) 16)))) 0 0 16)))]) [1, 0, 2, 3] rfl
        have hD := hD.sub (ws' := [(oK, .inr (0, [.ref aB, .ref aW, .ref aF, .ref aG, .ref aV, .int mde])), (aW, .inl (E.2.1, 176, .inl fW)), (aV, .inl (E.2.1, 16, .inl (unsM (mixW (mixW (mixW (xorM fW (16 * (10 - i)) ((bckM fW f g i).1) 16)))) ((bckM fW f g i).2) 16))), (b, .inl (E.2.1, 16, .inl (va_cpy (unsM (mixW (mixW (mixW (xorM fW (16 * (10 - i)) ((bckM fW f g i).1) 16)))) ((bckM fW f g i).2) 16) (mixW (mixW (mixW (xorM fW (16 * (10 - i)) ((bckM fW f g i).1) 16)))) 0 0 16)))]) [1, 0, 2, 3] (by decide) rfl
        have hP : va_P E.1 classes [(oK, .inr (0, [.ref aB, .ref aW, .ref aF, .ref aG, .ref aV, .int mde])), (aW, .inl (E.2.1, 176, .inl fW)), (aV, .inl (E.2.1, 16, .inl ((bckM fW f g (i + 1)).2))), (b, .inl (E.2.1, 16, .inl ((bckM fW f g (i + 1)).1)))] _ := (by rw [eF]; exact hP)
        have hD : va_D A [(oK, .inr (0, [.ref aB, .ref aW, .ref aF, .ref aG, .ref aV, .int mde])), (aW, .inl (E.2.1, 176, .inl fW)), (aV, .inl (E.2.1, 16, .inl ((bckM fW f g (i + 1)).2))), (b, .inl (E.2.1, 16, .inl ((bckM fW f g (i + 1)).1)))] := (by rw [eF]; exact hD)
        exact ih (i + 1) (by omega) (by omega) _ _ _ hP hD hS (lv_sub hl [0, 1, 2] rfl)
set_option maxHeartbeats 4000000 in
set_option maxRecDepth 100000 in
/-- goBack -/
theorem c_X0_goBack (l : Launch) (E : EE) (oK aB aW aF aG aV b : Nat) (fW f g : Nat → Int32) (mde : Int32) (hW : ∀ i, i < 176 → By (fW i)) (hF : ∀ i, i < 16 → By (f i)) (hG : ∀ i, i < 16 → By (g i)) : Cv l yX0_goBack (.code yX0_goBack cX0_goBack 3 none) ({ frames := 4, cells := 0, slots := 0, locals := 88 }) E [.ref oK, .ref b] [(oK, .inr (0, [.ref aB, .ref aW, .ref aF, .ref aG, .ref aV, .int mde])), (aW, .inl (E.2.1, 176, .inl fW)), (aV, .inl (E.2.1, 16, .inl g)), (b, .inl (E.2.1, 16, .inl f))] [(oK, .inr (0, [.ref aB, .ref aW, .ref aF, .ref aG, .ref aV, .int mde])), (aW, .inl (E.2.1, 176, .inl fW)), (aV, .inl (E.2.1, 16, .inl ((bckM fW f g 10).2))), (b, .inl (E.2.1, 16, .inl (bckW fW f g)))] := by
  refine Cv.of (by decide) (Nat.le_of_ble_eq_true rfl) ?_
  intro p e s m below meth c A ls B hP hD hS hl
  have hl : lv_has ls 3 [(0, .ref oK), (1, .ref b)] := hl
  have B : Bd p s m _ meth c cX0_goBack 3 none RX0 E A := B
  have hx := B.1
  have hb := B.2.1
  have hP : va_P E.1 classes [(oK, .inr (0, [.ref aB, .ref aW, .ref aF, .ref aG, .ref aV, .int mde])), (aW, .inl (E.2.1, 176, .inl fW)), (aV, .inl (E.2.1, 16, .inl g)), (b, .inl (E.2.1, 16, .inl f))] _ := hP
  have hD : va_D A [(oK, .inr (0, [.ref aB, .ref aW, .ref aF, .ref aG, .ref aV, .int mde])), (aW, .inl (E.2.1, 176, .inl fW)), (aV, .inl (E.2.1, 16, .inl g)), (b, .inl (E.2.1, 16, .inl f))] := hD
  refine lv_bipush (v := 10) hx hb dX0_goBack_0 (by decide) ?_
  refine lv_istore_n (lv' := [(2, .int 10), (0, .ref oK), (1, .ref b)]) hx hb dX0_goBack_2 rfl hl (by decide) rfl (fun ls hl => ?_)
  have hP : va_P E.1 classes [(oK, .inr (0, [.ref aB, .ref aW, .ref aF, .ref aG, .ref aV, .int mde])), (aW, .inl (E.2.1, 176, .inl fW)), (aV, .inl (E.2.1, 16, .inl ((bckM fW f g 0).2))), (b, .inl (E.2.1, 16, .inl ((bckM fW f g 0).1)))] _ := hP
  have hD : va_D A [(oK, .inr (0, [.ref aB, .ref aW, .ref aF, .ref aG, .ref aV, .int mde])), (aW, .inl (E.2.1, 176, .inl fW)), (aV, .inl (E.2.1, 16, .inl ((bckM fW f g 0).2))), (b, .inl (E.2.1, 16, .inl ((bckM fW f g 0).1)))] := hD
  refine lp_back B ⟨by decide, by decide⟩ ⟨by decide, by decide⟩ hW hF hG (fun H locs ls hP hD hS hl => ?_) 11 0 (by omega) (by omega) _ _ _ hP hD hS (lv_sub hl [0, 1, 2] rfl)
  refine lv_aload_n hx hb dX0_goBack_41 rfl (lv_at hl 2 rfl) ?_
  refine lv_aload_n hx hb dX0_goBack_42 rfl (lv_at hl 1 rfl) ?_
  refine x_get B hP 0 rfl rfl i_X0 1 (by decide) g_22 rfl dX0_goBack_43 ?_
  refine lv_iconst (v := 0) hx hb dX0_goBack_46 (by decide) ?_
  refine x_SNv (wr := [(oK, .inr (0, [.ref aB, .ref aW, .ref aF, .ref aG, .ref aV, .int mde])), (aV, .inl (E.2.1, 16, .inl ((bckM fW f g 10).2)))]) (isC := [3, 1]) (isR := [0, 2]) (As := [.ref b, .ref aW, .int 0]) B (c_X2_xor l E b aW 176 0 ((bckM fW f g 10).1) fW 0 rfl (by omega) (by decide)) k_X2_xor n_160 s_X2_xor ⟨by decide, by decide, rfl, rfl⟩ hP hD hS ⟨rfl, rfl, rfl, rfl, by decide⟩ rfl hl.1 rfl (Nat.le_of_ble_eq_true rfl) dX0_goBack_47 ⟨by decide, by decide⟩ (fun H locs hP hD hS => ?_)
  have hP : va_P E.1 classes [(oK, .inr (0, [.ref aB, .ref aW, .ref aF, .ref aG, .ref aV, .int mde])), (aV, .inl (E.2.1, 16, .inl ((bckM fW f g 10).2))), (b, .inl (E.2.1, 16, .inl (xorM fW 0 ((bckM fW f g 10).1) 16))), (aW, .inl (E.2.1, 176, .inl fW))] _ := hP
  have hD : va_D A [(oK, .inr (0, [.ref aB, .ref aW, .ref aF, .ref aG, .ref aV, .int mde])), (aV, .inl (E.2.1, 16, .inl ((bckM fW f g 10).2))), (b, .inl (E.2.1, 16, .inl (xorM fW 0 ((bckM fW f g 10).1) 16))), (aW, .inl (E.2.1, 176, .inl fW))] := hD
  have hP := hP.sub (ws' := [(oK, .inr (0, [.ref aB, .ref aW, .ref aF, .ref aG, .ref aV, .int mde])), (aW, .inl (E.2.1, 176, .inl fW)), (aV, .inl (E.2.1, 16, .inl ((bckM fW f g 10).2))), (b, .inl (E.2.1, 16, .inl (xorM fW 0 ((bckM fW f g 10).1) 16)))]) [0, 3, 1, 2] rfl
  have hD := hD.sub (ws' := [(oK, .inr (0, [.ref aB, .ref aW, .ref aF, .ref aG, .ref aV, .int mde])), (aW, .inl (E.2.1, 176, .inl fW)), (aV, .inl (E.2.1, 16, .inl ((bckM fW f g 10).2))), (b, .inl (E.2.1, 16, .inl (xorM fW 0 ((bckM fW f g 10).1) 16)))]) [0, 3, 1, 2] (by decide) rfl
  have hP : va_P E.1 classes [(oK, .inr (0, [.ref aB, .ref aW, .ref aF, .ref aG, .ref aV, .int mde])), (aW, .inl (E.2.1, 176, .inl fW)), (aV, .inl (E.2.1, 16, .inl ((bckM fW f g 10).2))), (b, .inl (E.2.1, 16, .inl (bckW fW f g)))] _ := hP
  have hD : va_D A [(oK, .inr (0, [.ref aB, .ref aW, .ref aF, .ref aG, .ref aV, .int mde])), (aW, .inl (E.2.1, 176, .inl fW)), (aV, .inl (E.2.1, 16, .inl ((bckM fW f g 10).2))), (b, .inl (E.2.1, 16, .inl (bckW fW f g)))] := hD
  exact x_vret B hP hD hS dX0_goBack_50
set_option maxHeartbeats 4000000 in
set_option maxRecDepth 100000 in
theorem lp_plain {p : Program} {l : Launch} {e : Env} {R : Room} {s : State} {m : MethodId} {args : Array Value} {below : List Frame} {meth : Method} {c : Code} {cells slots : Nat} {Q : State → Prop} {E : EE} {A : Nat → Prop} {oK aB aW aF aG aV : Nat} {a : Nat} {f : Nat → Int32} {v mde : Int32} (B : Bd p s m args meth c cX0_makePlainWord 3 none RX0 E A) (hf : cells ≤ R.cells ∧ slots ≤ R.slots) (hv : v = nI a) (h16 : 16 ≤ a) (ha : a + 4 ≤ 176)
    (kk : ∀ (H : Heap) (locs : List Loc) (ls : Array Slot), va_P E.1 classes [(oK, .inr (0, [.ref aB, .ref aW, .ref aF, .ref aG, .ref aV, .int mde])), (aW, .inl (E.2.1, 176, .inl (plainM a f 4)))] H → va_D A [(oK, .inr (0, [.ref aB, .ref aW, .ref aF, .ref aG, .ref aV, .int mde])), (aW, .inl (E.2.1, 176, .inl (plainM a f 4)))] → va_S A s.heap H locs → lv_has ls 3 [(2, .int (nI 4)), (0, .ref oK), (1, .int v)] → W p l e R s m args below meth c H locs cells slots Q (F0 m 43 ls [])) :
    ∀ (fu i : Nat), i ≤ 4 → 4 < i + fu → ∀ (H : Heap) (locs : List Loc) (ls : Array Slot), va_P E.1 classes [(oK, .inr (0, [.ref aB, .ref aW, .ref aF, .ref aG, .ref aV, .int mde])), (aW, .inl (E.2.1, 176, .inl (plainM a f i)))] H → va_D A [(oK, .inr (0, [.ref aB, .ref aW, .ref aF, .ref aG, .ref aV, .int mde])), (aW, .inl (E.2.1, 176, .inl (plainM a f i)))] → va_S A s.heap H locs → lv_has ls 3 [(2, .int (nI i)), (0, .ref oK), (1, .int v)] → W p l e R s m args below meth c H locs cells slots Q (F0 m 2 ls []) := by
  have hx := B.1
  have hb := B.2.1
  intro fu
  induction fu with
  | zero =>
    intro i h1 h2
    exact absurd h2 (by omega)
  | succ fu ih =>
    intro i hi hin H locs ls hP hD hS hl
    refine lv_iload_n hx hb dX0_makePlainWord_2 rfl (lv_at hl 0 rfl) ?_
    refine lv_iconst (v := 4) hx hb dX0_makePlainWord_3 (by decide) ?_
    refine lv_icmp_ge (tgt := 43) hx hb dX0_makePlainWord_4 (by decide) (fun c_4 => ?_) (fun c_4 => ?_)
    · have hj : i = 4 := by have := ge_t (b := 4) c_4 (by omega) (by omega); omega
      subst hj
      exact kk _ _ _ hP hD hS hl
    · have hj : i < 4 := by have := ge_f (b := 4) c_4 (by omega) (by omega); omega
      refine lv_aload_n hx hb dX0_makePlainWord_7 rfl (lv_at hl 1 rfl) ?_
      refine x_get B hP 0 rfl rfl i_X0 1 (by decide) g_22 rfl dX0_makePlainWord_8 ?_
      refine lv_iload_n hx hb dX0_makePlainWord_11 rfl (lv_at hl 2 rfl) ?_
      refine lv_iload_n hx hb dX0_makePlainWord_12 rfl (lv_at hl 0 rfl) ?_
      refine lv_iadd hx hb dX0_makePlainWord_13 ?_
      refine lv_aload_n hx hb dX0_makePlainWord_14 rfl (lv_at hl 1 rfl) ?_
      refine x_get B hP 0 rfl rfl i_X0 1 (by decide) g_22 rfl dX0_makePlainWord_15 ?_
      refine lv_iload_n hx hb dX0_makePlainWord_18 rfl (lv_at hl 2 rfl) ?_
      refine lv_bipush (v := 16) hx hb dX0_makePlainWord_19 (by decide) ?_
      refine lv_isub hx hb dX0_makePlainWord_21 ?_
      refine lv_iload_n hx hb dX0_makePlainWord_22 rfl (lv_at hl 0 rfl) ?_
      refine lv_iadd hx hb dX0_makePlainWord_23 ?_
      refine x_ald B hP 1 rfl ((a - 16) + i) (na_add (na_sub hv rfl (by omega)) rfl) (by omega) (by decide) dX0_makePlainWord_24 ?_
      refine lv_aload_n hx hb dX0_makePlainWord_25 rfl (lv_at hl 1 rfl) ?_
      refine x_get B hP 0 rfl rfl i_X0 1 (by decide) g_22 rfl dX0_makePlainWord_26 ?_
      refine lv_iload_n hx hb dX0_makePlainWord_29 rfl (lv_at hl 2 rfl) ?_
      refine lv_iconst (v := 4) hx hb dX0_makePlainWord_30 (by decide) ?_
      refine lv_isub hx hb dX0_makePlainWord_31 ?_
      refine lv_iload_n hx hb dX0_makePlainWord_32 rfl (lv_at hl 0 rfl) ?_
      refine lv_iadd hx hb dX0_makePlainWord_33 ?_
      refine x_ald B hP 1 rfl ((a - 4) + i) (na_add (na_sub hv rfl (by omega)) rfl) (by omega) (by decide) dX0_makePlainWord_34 ?_
      refine lv_ixor hx hb dX0_makePlainWord_35 ?_
      refine x_ast B hP hD hS 1 rfl (a + i) (na_add hv rfl) (by omega) (by decide) dX0_makePlainWord_36 (fun H locs hP hD hS => ?_)
      have hP : va_P E.1 classes [(oK, .inr (0, [.ref aB, .ref aW, .ref aF, .ref aG, .ref aV, .int mde])), (aW, .inl (E.2.1, 176, .inl (upd (plainM a f i) (a + i) (((plainM a f i) ((a - 16) + i)) ^^^ ((plainM a f i) ((a - 4) + i))))))] _ := hP
      have hD : va_D A [(oK, .inr (0, [.ref aB, .ref aW, .ref aF, .ref aG, .ref aV, .int mde])), (aW, .inl (E.2.1, 176, .inl (upd (plainM a f i) (a + i) (((plainM a f i) ((a - 16) + i)) ^^^ ((plainM a f i) ((a - 4) + i))))))] := hD
      refine lv_iinc (v := (nI (i + 1))) (lv' := [(2, .int (nI (i + 1))), (0, .ref oK), (1, .int v)]) hx hb dX0_makePlainWord_37 hl (k := 0) rfl (ii_1 i) (by decide) rfl (fun ls hl => ?_)
      refine lv_goto (tgt := 2) hx hb dX0_makePlainWord_40 (by decide) ?_
      have hP : va_P E.1 classes [(oK, .inr (0, [.ref aB, .ref aW, .ref aF, .ref aG, .ref aV, .int mde])), (aW, .inl (E.2.1, 176, .inl (plainM a f (i + 1))))] _ := hP
      have hD : va_D A [(oK, .inr (0, [.ref aB, .ref aW, .ref aF, .ref aG, .ref aV, .int mde])), (aW, .inl (E.2.1, 176, .inl (plainM a f (i + 1))))] := hD
      exact ih (i + 1) (by omega) (by omega) _ _ _ hP hD hS (lv_sub hl [0, 1, 2] rfl)
set_option maxHeartbeats 4000000 in
set_option maxRecDepth 100000 in
/-- makePlainWord -/
theorem c_X0_makePlainWord (l : Launch) (E : EE) (oK aB aW aF aG aV : Nat) (a : Nat) (f : Nat → Int32) (v mde : Int32) (hv : v = nI a) (h16 : 16 ≤ a) (ha : a + 4 ≤ 176) : Cv l yX0_makePlainWord (.code yX0_makePlainWord cX0_makePlainWord 3 none) ({ frames := 0, cells := 0, slots := 0, locals := 0 }) E [.ref oK, .int v] [(oK, .inr (0, [.ref aB, .ref aW, .ref aF, .ref aG, .ref aV, .int mde])), (aW, .inl (E.2.1, 176, .inl f))] [(oK, .inr (0, [.ref aB, .ref aW, .ref aF, .ref aG, .ref aV, .int mde])), (aW, .inl (E.2.1, 176, .inl (plainM a f 4)))] := by
  refine Cv.of (by decide) (Nat.le_of_ble_eq_true rfl) ?_
  intro p e s m below meth c A ls B hP hD hS hl
  have hl : lv_has ls 3 [(0, .ref oK), (1, .int v)] := hl
  have B : Bd p s m _ meth c cX0_makePlainWord 3 none RX0 E A := B
  have hx := B.1
  have hb := B.2.1
  have hP : va_P E.1 classes [(oK, .inr (0, [.ref aB, .ref aW, .ref aF, .ref aG, .ref aV, .int mde])), (aW, .inl (E.2.1, 176, .inl f))] _ := hP
  have hD : va_D A [(oK, .inr (0, [.ref aB, .ref aW, .ref aF, .ref aG, .ref aV, .int mde])), (aW, .inl (E.2.1, 176, .inl f))] := hD
  refine lv_iconst (v := 0) hx hb dX0_makePlainWord_0 (by decide) ?_
  refine lv_istore_n (lv' := [(2, .int 0), (0, .ref oK), (1, .int v)]) hx hb dX0_makePlainWord_1 rfl hl (by decide) rfl (fun ls hl => ?_)
  have hP : va_P E.1 classes [(oK, .inr (0, [.ref aB, .ref aW, .ref aF, .ref aG, .ref aV, .int mde])), (aW, .inl (E.2.1, 176, .inl (plainM a f 0)))] _ := hP
  have hD : va_D A [(oK, .inr (0, [.ref aB, .ref aW, .ref aF, .ref aG, .ref aV, .int mde])), (aW, .inl (E.2.1, 176, .inl (plainM a f 0)))] := hD
  refine lp_plain B ⟨by decide, by decide⟩ hv h16 ha (fun H locs ls hP hD hS hl => ?_) 5 0 (by omega) (by omega) _ _ _ hP hD hS (lv_sub hl [0, 1, 2] rfl)
  have hP : va_P E.1 classes [(oK, .inr (0, [.ref aB, .ref aW, .ref aF, .ref aG, .ref aV, .int mde])), (aW, .inl (E.2.1, 176, .inl (plainM a f 4)))] _ := hP
  have hD : va_D A [(oK, .inr (0, [.ref aB, .ref aW, .ref aF, .ref aG, .ref aV, .int mde])), (aW, .inl (E.2.1, 176, .inl (plainM a f 4)))] := hD
  exact x_vret B hP hD hS dX0_makePlainWord_43
set_option maxHeartbeats 4000000 in
set_option maxRecDepth 100000 in
theorem lp_turn {p : Program} {l : Launch} {e : Env} {R : Room} {s : State} {m : MethodId} {args : Array Value} {below : List Frame} {meth : Method} {c : Code} {cells slots : Nat} {Q : State → Prop} {E : EE} {A : Nat → Prop} {oK aB aW aF aG aV : Nat} {a : Nat} {f : Nat → Int32} {v pw mde : Int32} (B : Bd p s m args meth c cX0_makeTurnedWord 4 none RX0 E A) (hf : cells ≤ R.cells ∧ slots ≤ R.slots) (hv : v = nI a) (h16 : 16 ≤ a) (ha : a + 4 ≤ 176) (hF : ∀ i, i < 176 → By (f i))
    (kk : ∀ (H : Heap) (locs : List Loc) (ls : Array Slot), va_P E.1 classes [(oK, .inr (0, [.ref aB, .ref aW, .ref aF, .ref aG, .ref aV, .int mde])), (aW, .inl (E.2.1, 176, .inl (turnM a f 4)))] H → va_D A [(oK, .inr (0, [.ref aB, .ref aW, .ref aF, .ref aG, .ref aV, .int mde])), (aW, .inl (E.2.1, 176, .inl (turnM a f 4)))] → va_S A s.heap H locs → lv_has ls 4 [(3, .int (nI 4)), (0, .ref oK), (1, .int v), (2, .int pw)] → W p l e R s m args below meth c H locs cells slots Q (F0 m 51 ls [])) :
    ∀ (fu i : Nat), i ≤ 4 → 4 < i + fu → ∀ (H : Heap) (locs : List Loc) (ls : Array Slot), va_P E.1 classes [(oK, .inr (0, [.ref aB, .ref aW, .ref aF, .ref aG, .ref aV, .int mde])), (aW, .inl (E.2.1, 176, .inl (turnM a f i)))] H → va_D A [(oK, .inr (0, [.ref aB, .ref aW, .ref aF, .ref aG, .ref aV, .int mde])), (aW, .inl (E.2.1, 176, .inl (turnM a f i)))] → va_S A s.heap H locs → lv_has ls 4 [(3, .int (nI i)), (0, .ref oK), (1, .int v), (2, .int pw)] → W p l e R s m args below meth c H locs cells slots Q (F0 m 2 ls []) := by
  have hx := B.1
  have hb := B.2.1
  intro fu
  induction fu with
  | zero =>
    intro i h1 h2
    exact absurd h2 (by omega)
  | succ fu ih =>
    intro i hi hin H locs ls hP hD hS hl
    refine lv_iload_n hx hb dX0_makeTurnedWord_2 rfl (lv_at hl 0 rfl) ?_
    refine lv_iconst (v := 4) hx hb dX0_makeTurnedWord_3 (by decide) ?_
    refine lv_icmp_ge (tgt := 51) hx hb dX0_makeTurnedWord_4 (by decide) (fun c_4 => ?_) (fun c_4 => ?_)
    · have hj : i = 4 := by have := ge_t (b := 4) c_4 (by omega) (by omega); omega
      subst hj
      exact kk _ _ _ hP hD hS hl
    · have hj : i < 4 := by have := ge_f (b := 4) c_4 (by omega) (by omega); omega
      refine lv_aload_n hx hb dX0_makeTurnedWord_7 rfl (lv_at hl 1 rfl) ?_
      refine x_get B hP 0 rfl rfl i_X0 1 (by decide) g_22 rfl dX0_makeTurnedWord_8 ?_
      refine lv_iload_n hx hb dX0_makeTurnedWord_11 rfl (lv_at hl 2 rfl) ?_
      refine lv_iload_n hx hb dX0_makeTurnedWord_12 rfl (lv_at hl 0 rfl) ?_
      refine lv_iadd hx hb dX0_makeTurnedWord_13 ?_
      refine lv_aload_n hx hb dX0_makeTurnedWord_14 rfl (lv_at hl 1 rfl) ?_
      refine x_get B hP 0 rfl rfl i_X0 1 (by decide) g_22 rfl dX0_makeTurnedWord_15 ?_
      refine lv_iload_n hx hb dX0_makeTurnedWord_18 rfl (lv_at hl 2 rfl) ?_
      refine lv_bipush (v := 16) hx hb dX0_makeTurnedWord_19 (by decide) ?_
      refine lv_isub hx hb dX0_makeTurnedWord_21 ?_
      refine lv_iload_n hx hb dX0_makeTurnedWord_22 rfl (lv_at hl 0 rfl) ?_
      refine lv_iadd hx hb dX0_makeTurnedWord_23 ?_
      refine x_ald B hP 1 rfl ((a - 16) + i) (na_add (na_sub hv rfl (by omega)) rfl) (by omega) (by decide) dX0_makeTurnedWord_24 ?_
      refine x_gsN B hS 0 rfl n_143 dX0_makeTurnedWord_25 ?_
      refine lv_aload_n hx hb dX0_makeTurnedWord_28 rfl (lv_at hl 1 rfl) ?_
      refine x_get B hP 0 rfl rfl i_X0 1 (by decide) g_22 rfl dX0_makeTurnedWord_29 ?_
      refine lv_iload_n hx hb dX0_makeTurnedWord_32 rfl (lv_at hl 2 rfl) ?_
      refine lv_iconst (v := 4) hx hb dX0_makeTurnedWord_33 (by decide) ?_
      refine lv_isub hx hb dX0_makeTurnedWord_34 ?_
      refine lv_iload_n hx hb dX0_makeTurnedWord_35 rfl (lv_at hl 0 rfl) ?_
      refine lv_iconst (v := 1) hx hb dX0_makeTurnedWord_36 (by decide) ?_
      refine lv_iadd hx hb dX0_makeTurnedWord_37 ?_
      refine lv_iconst (v := 4) hx hb dX0_makeTurnedWord_38 (by decide) ?_
      refine lv_irem hx hb dX0_makeTurnedWord_39 (by decide) ?_
      refine lv_iadd hx hb dX0_makeTurnedWord_40 ?_
      refine x_ald B hP 1 rfl ((a - 4) + ((i + 1) % 4)) (na_add (na_sub hv rfl (by omega)) (na_rem (na_add rfl rfl) rfl (by omega) (by decide) (by decide))) (by omega) (by decide) dX0_makeTurnedWord_41 ?_
      refine x_tld B hS 0 rfl (((turnM a f i) ((a - 4) + ((i + 1) % 4))).toNatClampNeg) ((((turnM_by ha (by omega) hF i (by omega)) ((a - 4) + ((i + 1) % 4)) (by omega))).1) ((((turnM_by ha (by omega) hF i (by omega)) ((a - 4) + ((i + 1) % 4)) (by omega))).2) (by decide) dX0_makeTurnedWord_42 ?_
      refine lv_ixor hx hb dX0_makeTurnedWord_43 ?_
      refine x_ast B hP hD hS 1 rfl (a + i) (na_add hv rfl) (by omega) (by decide) dX0_makeTurnedWord_44 (fun H locs hP hD hS => ?_)
      have hP : va_P E.1 classes [(oK, .inr (0, [.ref aB, .ref aW, .ref aF, .ref aG, .ref aV, .int mde])), (aW, .inl (E.2.1, 176, .inl (upd (turnM a f i) (a + i) (((turnM a f i) ((a - 16) + i)) ^^^ (fS (((turnM a f i) ((a - 4) + ((i + 1) % 4))).toNatClampNeg))))))] _ := hP
      have hD : va_D A [(oK, .inr (0, [.ref aB, .ref aW, .ref aF, .ref aG, .ref aV, .int mde])), (aW, .inl (E.2.1, 176, .inl (upd (turnM a f i) (a + i) (((turnM a f i) ((a - 16) + i)) ^^^ (fS (((turnM a f i) ((a - 4) + ((i + 1) % 4))).toNatClampNeg))))))] := hD
      refine lv_iinc (v := (nI (i + 1))) (lv' := [(3, .int (nI (i + 1))), (0, .ref oK), (1, .int v), (2, .int pw)]) hx hb dX0_makeTurnedWord_45 hl (k := 0) rfl (ii_1 i) (by decide) rfl (fun ls hl => ?_)
      refine lv_goto (tgt := 2) hx hb dX0_makeTurnedWord_48 (by decide) ?_
      have hP : va_P E.1 classes [(oK, .inr (0, [.ref aB, .ref aW, .ref aF, .ref aG, .ref aV, .int mde])), (aW, .inl (E.2.1, 176, .inl (turnM a f (i + 1))))] _ := hP
      have hD : va_D A [(oK, .inr (0, [.ref aB, .ref aW, .ref aF, .ref aG, .ref aV, .int mde])), (aW, .inl (E.2.1, 176, .inl (turnM a f (i + 1))))] := hD
      exact ih (i + 1) (by omega) (by omega) _ _ _ hP hD hS (lv_sub hl [0, 1, 2, 3] rfl)
set_option maxHeartbeats 4000000 in
set_option maxRecDepth 100000 in
/-- makeTurnedWord -/
theorem c_X0_makeTurnedWord (l : Launch) (E : EE) (oK aB aW aF aG aV : Nat) (a : Nat) (f : Nat → Int32) (v pw mde : Int32) (hv : v = nI a) (h16 : 16 ≤ a) (ha : a + 4 ≤ 176) (hF : ∀ i, i < 176 → By (f i)) : Cv l yX0_makeTurnedWord (.code yX0_makeTurnedWord cX0_makeTurnedWord 4 none) ({ frames := 0, cells := 0, slots := 0, locals := 0 }) E [.ref oK, .int v, .int pw] [(oK, .inr (0, [.ref aB, .ref aW, .ref aF, .ref aG, .ref aV, .int mde])), (aW, .inl (E.2.1, 176, .inl f))] [(oK, .inr (0, [.ref aB, .ref aW, .ref aF, .ref aG, .ref aV, .int mde])), (aW, .inl (E.2.1, 176, .inl (turnW a pw f)))] := by
  refine Cv.of (by decide) (Nat.le_of_ble_eq_true rfl) ?_
  intro p e s m below meth c A ls B hP hD hS hl
  have hl : lv_has ls 4 [(0, .ref oK), (1, .int v), (2, .int pw)] := hl
  have B : Bd p s m _ meth c cX0_makeTurnedWord 4 none RX0 E A := B
  have hx := B.1
  have hb := B.2.1
  have hP : va_P E.1 classes [(oK, .inr (0, [.ref aB, .ref aW, .ref aF, .ref aG, .ref aV, .int mde])), (aW, .inl (E.2.1, 176, .inl f))] _ := hP
  have hD : va_D A [(oK, .inr (0, [.ref aB, .ref aW, .ref aF, .ref aG, .ref aV, .int mde])), (aW, .inl (E.2.1, 176, .inl f))] := hD
  refine lv_iconst (v := 0) hx hb dX0_makeTurnedWord_0 (by decide) ?_
  refine lv_istore_n (lv' := [(3, .int 0), (0, .ref oK), (1, .int v), (2, .int pw)]) hx hb dX0_makeTurnedWord_1 rfl hl (by decide) rfl (fun ls hl => ?_)
  have hP : va_P E.1 classes [(oK, .inr (0, [.ref aB, .ref aW, .ref aF, .ref aG, .ref aV, .int mde])), (aW, .inl (E.2.1, 176, .inl (turnM a f 0)))] _ := hP
  have hD : va_D A [(oK, .inr (0, [.ref aB, .ref aW, .ref aF, .ref aG, .ref aV, .int mde])), (aW, .inl (E.2.1, 176, .inl (turnM a f 0)))] := hD
  refine lp_turn B ⟨by decide, by decide⟩ hv h16 ha hF (fun H locs ls hP hD hS hl => ?_) 5 0 (by omega) (by omega) _ _ _ hP hD hS (lv_sub hl [0, 1, 2, 3] rfl)
  refine lv_aload_n hx hb dX0_makeTurnedWord_51 rfl (lv_at hl 1 rfl) ?_
  refine x_get B hP 0 rfl rfl i_X0 1 (by decide) g_22 rfl dX0_makeTurnedWord_52 ?_
  refine lv_iload_n hx hb dX0_makeTurnedWord_55 rfl (lv_at hl 2 rfl) ?_
  refine lv_dup2_11 hx hb dX0_makeTurnedWord_56 rfl rfl ?_
  refine x_ald B hP 1 rfl a hv (by omega) (by decide) dX0_makeTurnedWord_57 ?_
  refine lv_iload_n hx hb dX0_makeTurnedWord_58 rfl (lv_at hl 3 rfl) ?_
  refine lv_ixor hx hb dX0_makeTurnedWord_59 ?_
  refine x_ast B hP hD hS 1 rfl a hv (by omega) (by decide) dX0_makeTurnedWord_60 (fun H locs hP hD hS => ?_)
  have hP : va_P E.1 classes [(oK, .inr (0, [.ref aB, .ref aW, .ref aF, .ref aG, .ref aV, .int mde])), (aW, .inl (E.2.1, 176, .inl (upd (turnM a f 4) a (((turnM a f 4) a) ^^^ pw))))] _ := hP
  have hD : va_D A [(oK, .inr (0, [.ref aB, .ref aW, .ref aF, .ref aG, .ref aV, .int mde])), (aW, .inl (E.2.1, 176, .inl (upd (turnM a f 4) a (((turnM a f 4) a) ^^^ pw))))] := hD
  have hP : va_P E.1 classes [(oK, .inr (0, [.ref aB, .ref aW, .ref aF, .ref aG, .ref aV, .int mde])), (aW, .inl (E.2.1, 176, .inl (turnW a pw f)))] _ := hP
  have hD : va_D A [(oK, .inr (0, [.ref aB, .ref aW, .ref aF, .ref aG, .ref aV, .int mde])), (aW, .inl (E.2.1, 176, .inl (turnW a pw f)))] := hD
  exact x_vret B hP hD hS dX0_makeTurnedWord_61
set_option maxHeartbeats 4000000 in
set_option maxRecDepth 100000 in
theorem lp_words {p : Program} {l : Launch} {e : Env} {R : Room} {s : State} {m : MethodId} {args : Array Value} {below : List Frame} {meth : Method} {c : Code} {cells slots : Nat} {Q : State → Prop} {E : EE} {A : Nat → Prop} {oK aB aW aF aG aV : Nat} {fB f : Nat → Int32} {mde : Int32} (B : Bd p s m args meth c cX0_makeWords 3 none RX0 E A) (hf : cells ≤ R.cells ∧ slots ≤ R.slots) (hR : 1 ≤ R.frames ∧ 60 ≤ R.locals) (hF : ∀ i, i < 176 → By (f i))
    (kk : ∀ (H : Heap) (locs : List Loc) (ls : Array Slot), va_P E.1 classes [(oK, .inr (0, [.ref aB, .ref aW, .ref aF, .ref aG, .ref aV, .int mde])), (aB, .inl (E.2.1, 16, .inl fB)), (aW, .inl (E.2.1, 176, .inl ((wordM f 40).1)))] H → va_D A [(oK, .inr (0, [.ref aB, .ref aW, .ref aF, .ref aG, .ref aV, .int mde])), (aB, .inl (E.2.1, 16, .inl fB)), (aW, .inl (E.2.1, 176, .inl ((wordM f 40).1)))] → va_S A s.heap H locs → lv_has ls 3 [(2, .int (nI (16 + 4 * 40))), (1, .int ((wordM f 40).2)), (0, .ref oK)] → W p l e R s m args below meth c H locs cells slots Q (F0 m 59 ls [])) :
    ∀ (fu i : Nat), i ≤ 40 → 40 < i + fu → ∀ (H : Heap) (locs : List Loc) (ls : Array Slot), va_P E.1 classes [(oK, .inr (0, [.ref aB, .ref aW, .ref aF, .ref aG, .ref aV, .int mde])), (aB, .inl (E.2.1, 16, .inl fB)), (aW, .inl (E.2.1, 176, .inl ((wordM f i).1)))] H → va_D A [(oK, .inr (0, [.ref aB, .ref aW, .ref aF, .ref aG, .ref aV, .int mde])), (aB, .inl (E.2.1, 16, .inl fB)), (aW, .inl (E.2.1, 176, .inl ((wordM f i).1)))] → va_S A s.heap H locs → lv_has ls 3 [(2, .int (nI (16 + 4 * i))), (1, .int ((wordM f i).2)), (0, .ref oK)] → W p l e R s m args below meth c H locs cells slots Q (F0 m 20 ls []) := by
  have hx := B.1
  have hb := B.2.1
  intro fu
  induction fu with
  | zero =>
    intro i h1 h2
    exact absurd h2 (by omega)
  | succ fu ih =>
    intro i hi hin H locs ls hP hD hS hl
    refine lv_iload_n hx hb dX0_makeWords_20 rfl (lv_at hl 0 rfl) ?_
    refine lv_sipush (v := 176) hx hb dX0_makeWords_21 (by decide) ?_
    refine lv_icmp_ge (tgt := 59) hx hb dX0_makeWords_24 (by decide) (fun c_24 => ?_) (fun c_24 => ?_)
    · have hj : i = 40 := by have := ge_t (b := 176) c_24 (by omega) (by omega); omega
      subst hj
      exact kk _ _ _ hP hD hS hl
    · have hj : i < 40 := by have := ge_f (b := 176) c_24 (by omega) (by omega); omega
      refine lv_iload_n hx hb dX0_makeWords_27 rfl (lv_at hl 0 rfl) ?_
      refine lv_bipush (v := 16) hx hb dX0_makeWords_28 (by decide) ?_
      refine lv_irem hx hb dX0_makeWords_30 (by decide) ?_
      refine lv_if_ne (tgt := 48) hx hb dX0_makeWords_31 (by decide) (fun c_31 => ?_) (fun c_31 => ?_)
      · refine lv_aload_n hx hb dX0_makeWords_48 rfl (lv_at hl 2 rfl) ?_
        refine lv_iload_n hx hb dX0_makeWords_49 rfl (lv_at hl 0 rfl) ?_
        refine x_Vv (wr := [(aB, .inl (E.2.1, 16, .inl fB))]) (isC := [0, 2]) (isR := [1]) (As := [.int (nI (16 + 4 * i))]) B (c_X0_makePlainWord l E oK aB aW aF aG aV (16 + 4 * i) ((wordM f i).1) (nI (16 + 4 * i)) mde rfl (by omega) (by omega)) k_X0_makePlainWord g_148 s_X0_makePlainWord ⟨Nat.le_trans (by decide) hR.1, Nat.le_trans (by decide) hR.2, rfl, rfl⟩ rfl 0 rfl hP hD hS ⟨rfl, rfl, rfl, rfl, by decide⟩ rfl hl.1 rfl (Nat.le_of_ble_eq_true rfl) dX0_makeWords_50 hf (fun H locs hP hD hS => ?_)
        have hP : va_P E.1 classes [(aB, .inl (E.2.1, 16, .inl fB)), (oK, .inr (0, [.ref aB, .ref aW, .ref aF, .ref aG, .ref aV, .int mde])), (aW, .inl (E.2.1, 176, .inl (plainM (16 + 4 * i) ((wordM f i).1) 4)))] _ := hP
        have hD : va_D A [(aB, .inl (E.2.1, 16, .inl fB)), (oK, .inr (0, [.ref aB, .ref aW, .ref aF, .ref aG, .ref aV, .int mde])), (aW, .inl (E.2.1, 176, .inl (plainM (16 + 4 * i) ((wordM f i).1) 4)))] := hD
        refine lv_iinc (v := (nI ((16 + 4 * i) + 4))) (lv' := [(2, .int (nI ((16 + 4 * i) + 4))), (1, .int ((wordM f i).2)), (0, .ref oK)]) hx hb dX0_makeWords_53 hl (k := 0) rfl (ii_n 4 (16 + 4 * i) rfl) (by decide) rfl (fun ls hl => ?_)
        refine lv_goto (tgt := 20) hx hb dX0_makeWords_56 (by decide) ?_
        have hk : ¬ (16 + 4 * i) % 16 = 0 := fun h => c_31 (by have e := (na_rem (a := 16 + 4 * i) (b := 16) rfl rfl (by omega) (by decide) (by decide)); rw [h] at e; exact e)
        have eF : wordM f (i + 1) = (plainM (16 + 4 * i) (wordM f i).1 4, (wordM f i).2) := if_neg hk
        have hP := hP.sub (ws' := [(oK, .inr (0, [.ref aB, .ref aW, .ref aF, .ref aG, .ref aV, .int mde])), (aB, .inl (E.2.1, 16, .inl fB)), (aW, .inl (E.2.1, 176, .inl (plainM (16 + 4 * i) ((wordM f i).1) 4)))]) [1, 0, 2] rfl
        have hD := hD.sub (ws' := [(oK, .inr (0, [.ref aB, .ref aW, .ref aF, .ref aG, .ref aV, .int mde])), (aB, .inl (E.2.1, 16, .inl fB)), (aW, .inl (E.2.1, 176, .inl (plainM (16 + 4 * i) ((wordM f i).1) 4)))]) [1, 0, 2] (by decide) rfl
        have hP : va_P E.1 classes [(oK, .inr (0, [.ref aB, .ref aW, .ref aF, .ref aG, .ref aV, .int mde])), (aB, .inl (E.2.1, 16, .inl fB)), (aW, .inl (E.2.1, 176, .inl ((wordM f (i + 1)).1)))] _ := (by rw [eF]; exact hP)
        have hD : va_D A [(oK, .inr (0, [.ref aB, .ref aW, .ref aF, .ref aG, .ref aV, .int mde])), (aB, .inl (E.2.1, 16, .inl fB)), (aW, .inl (E.2.1, 176, .inl ((wordM f (i + 1)).1)))] := (by rw [eF]; exact hD)
        exact ih (i + 1) (by omega) (by omega) _ _ _ hP hD hS (by rw [eF]; dsimp only; exact lv_sub hl [0, 1, 2] rfl)
      · refine lv_aload_n hx hb dX0_makeWords_34 rfl (lv_at hl 2 rfl) ?_
        refine lv_iload_n hx hb dX0_makeWords_35 rfl (lv_at hl 0 rfl) ?_
        refine lv_iload_n hx hb dX0_makeWords_36 rfl (lv_at hl 1 rfl) ?_
        refine x_Vv (wr := [(aB, .inl (E.2.1, 16, .inl fB))]) (isC := [0, 2]) (isR := [1]) (As := [.int (nI (16 + 4 * i)), .int ((wordM f i).2)]) B (c_X0_makeTurnedWord l E oK aB aW aF aG aV (16 + 4 * i) ((wordM f i).1) (nI (16 + 4 * i)) ((wordM f i).2) mde rfl (by omega) (by omega) ((wordM_by hF i (by omega)).1)) k_X0_makeTurnedWord g_139 s_X0_makeTurnedWord ⟨Nat.le_trans (by decide) hR.1, Nat.le_trans (by decide) hR.2, rfl, rfl⟩ rfl 0 rfl hP hD hS ⟨rfl, rfl, rfl, rfl, by decide⟩ rfl hl.1 rfl (Nat.le_of_ble_eq_true rfl) dX0_makeWords_37 hf (fun H locs hP hD hS => ?_)
        have hP : va_P E.1 classes [(aB, .inl (E.2.1, 16, .inl fB)), (oK, .inr (0, [.ref aB, .ref aW, .ref aF, .ref aG, .ref aV, .int mde])), (aW, .inl (E.2.1, 176, .inl (turnW (16 + 4 * i) ((wordM f i).2) ((wordM f i).1))))] _ := hP
        have hD : va_D A [(aB, .inl (E.2.1, 16, .inl fB)), (oK, .inr (0, [.ref aB, .ref aW, .ref aF, .ref aG, .ref aV, .int mde])), (aW, .inl (E.2.1, 176, .inl (turnW (16 + 4 * i) ((wordM f i).2) ((wordM f i).1))))] := hD
        refine lv_iload_n hx hb dX0_makeWords_40 rfl (lv_at hl 1 rfl) ?_
        refine x_Si (wr := [(aB, .inl (E.2.1, 16, .inl fB)), (oK, .inr (0, [.ref aB, .ref aW, .ref aF, .ref aG, .ref aV, .int mde])), (aW, .inl (E.2.1, 176, .inl (turnW (16 + 4 * i) ((wordM f i).2) ((wordM f i).1))))]) (isC := []) (isR := [0, 1, 2]) (As := [.int ((wordM f i).2)]) B (c_X0_twice l E ((wordM f i).2)) k_X0_twice g_145 s_X0_twice ⟨Nat.le_trans (by decide) hR.1, Nat.le_trans (by decide) hR.2, rfl, rfl⟩ hP hD hS ⟨rfl, rfl, rfl, rfl, by decide⟩ rfl hl.1 rfl (Nat.le_of_ble_eq_true rfl) dX0_makeWords_41 hf (fun H locs hP hD hS => ?_)
        have hP : va_P E.1 classes [(aB, .inl (E.2.1, 16, .inl fB)), (oK, .inr (0, [.ref aB, .ref aW, .ref aF, .ref aG, .ref aV, .int mde])), (aW, .inl (E.2.1, 176, .inl (turnW (16 + 4 * i) ((wordM f i).2) ((wordM f i).1))))] _ := hP
        have hD : va_D A [(aB, .inl (E.2.1, 16, .inl fB)), (oK, .inr (0, [.ref aB, .ref aW, .ref aF, .ref aG, .ref aV, .int mde])), (aW, .inl (E.2.1, 176, .inl (turnW (16 + 4 * i) ((wordM f i).2) ((wordM f i).1))))] := hD
        refine lv_istore_n (lv' := [(1, .int (twM ((wordM f i).2))), (2, .int (nI (16 + 4 * i))), (0, .ref oK)]) hx hb dX0_makeWords_44 rfl hl (by decide) rfl (fun ls hl => ?_)
        refine lv_goto (tgt := 53) hx hb dX0_makeWords_45 (by decide) ?_
        refine lv_iinc (v := (nI ((16 + 4 * i) + 4))) (lv' := [(2, .int (nI ((16 + 4 * i) + 4))), (1, .int (twM ((wordM f i).2))), (0, .ref oK)]) hx hb dX0_makeWords_53 hl (k := 1) rfl (ii_n 4 (16 + 4 * i) rfl) (by decide) rfl (fun ls hl => ?_)
        refine lv_goto (tgt := 20) hx hb dX0_makeWords_56 (by decide) ?_
        have hk : (16 + 4 * i) % 16 = 0 := by have e := (na_rem (a := 16 + 4 * i) (b := 16) rfl rfl (by omega) (by decide) (by decide)); exact (nI_eq (b := 0) (by omega) (by decide)).mp (e.symm.trans c_31)
        have eF : wordM f (i + 1) = (turnW (16 + 4 * i) (wordM f i).2 (wordM f i).1, twM (wordM f i).2) := if_pos hk
        have hP := hP.sub (ws' := [(oK, .inr (0, [.ref aB, .ref aW, .ref aF, .ref aG, .ref aV, .int mde])), (aB, .inl (E.2.1, 16, .inl fB)), (aW, .inl (E.2.1, 176, .inl (turnW (16 + 4 * i) ((wordM f i).2) ((wordM f i).1))))]) [1, 0, 2] rfl
        have hD := hD.sub (ws' := [(oK, .inr (0, [.ref aB, .ref aW, .ref aF, .ref aG, .ref aV, .int mde])), (aB, .inl (E.2.1, 16, .inl fB)), (aW, .inl (E.2.1, 176, .inl (turnW (16 + 4 * i) ((wordM f i).2) ((wordM f i).1))))]) [1, 0, 2] (by decide) rfl
        have hP : va_P E.1 classes [(oK, .inr (0, [.ref aB, .ref aW, .ref aF, .ref aG, .ref aV, .int mde])), (aB, .inl (E.2.1, 16, .inl fB)), (aW, .inl (E.2.1, 176, .inl ((wordM f (i + 1)).1)))] _ := (by rw [eF]; exact hP)
        have hD : va_D A [(oK, .inr (0, [.ref aB, .ref aW, .ref aF, .ref aG, .ref aV, .int mde])), (aB, .inl (E.2.1, 16, .inl fB)), (aW, .inl (E.2.1, 176, .inl ((wordM f (i + 1)).1)))] := (by rw [eF]; exact hD)
        exact ih (i + 1) (by omega) (by omega) _ _ _ hP hD hS (by rw [eF]; dsimp only; exact lv_sub hl [0, 1, 2] rfl)
set_option maxHeartbeats 4000000 in
set_option maxRecDepth 100000 in
/-- makeWords -/
theorem c_X0_makeWords (l : Launch) (E : EE) (oK aB aW aF aG aV : Nat) (fB fW : Nat → Int32) (mde : Int32) (hB : ∀ i, i < 16 → By (fB i)) (hW : ∀ i, i < 176 → By (fW i)) : Cv l yX0_makeWords (.code yX0_makeWords cX0_makeWords 3 none) ({ frames := 1, cells := 0, slots := 0, locals := 60 }) E [.ref oK] [(oK, .inr (0, [.ref aB, .ref aW, .ref aF, .ref aG, .ref aV, .int mde])), (aB, .inl (E.2.1, 16, .inl fB)), (aW, .inl (E.2.1, 176, .inl fW))] [(oK, .inr (0, [.ref aB, .ref aW, .ref aF, .ref aG, .ref aV, .int mde])), (aB, .inl (E.2.1, 16, .inl fB)), (aW, .inl (E.2.1, 176, .inl ((wordM (va_cpy fB fW 0 0 16) 40).1)))] := by
  refine Cv.of (by decide) (Nat.le_of_ble_eq_true rfl) ?_
  intro p e s m below meth c A ls B hP hD hS hl
  have hl : lv_has ls 3 [(0, .ref oK)] := hl
  have B : Bd p s m _ meth c cX0_makeWords 3 none RX0 E A := B
  have hx := B.1
  have hb := B.2.1
  have hP : va_P E.1 classes [(oK, .inr (0, [.ref aB, .ref aW, .ref aF, .ref aG, .ref aV, .int mde])), (aB, .inl (E.2.1, 16, .inl fB)), (aW, .inl (E.2.1, 176, .inl fW))] _ := hP
  have hD : va_D A [(oK, .inr (0, [.ref aB, .ref aW, .ref aF, .ref aG, .ref aV, .int mde])), (aB, .inl (E.2.1, 16, .inl fB)), (aW, .inl (E.2.1, 176, .inl fW))] := hD
  refine lv_aload_n hx hb dX0_makeWords_0 rfl (lv_at hl 0 rfl) ?_
  refine x_get B hP 0 rfl rfl i_X0 0 (by decide) g_21 rfl dX0_makeWords_1 ?_
  refine lv_iconst (v := 0) hx hb dX0_makeWords_4 (by decide) ?_
  refine lv_aload_n hx hb dX0_makeWords_5 rfl (lv_at hl 0 rfl) ?_
  refine x_get B hP 0 rfl rfl i_X0 1 (by decide) g_22 rfl dX0_makeWords_6 ?_
  refine lv_iconst (v := 0) hx hb dX0_makeWords_9 (by decide) ?_
  refine lv_bipush (v := 16) hx hb dX0_makeWords_10 (by decide) ?_
  refine x_copy B hP hD hS g_136 w_copy hl.1 1 2 rfl rfl 16 rfl (by decide) (by decide) (by decide) (by decide) (Nat.le_of_ble_eq_true rfl) dX0_makeWords_12 (fun H locs hP hD hS => ?_)
  have hP : va_P E.1 classes [(oK, .inr (0, [.ref aB, .ref aW, .ref aF, .ref aG, .ref aV, .int mde])), (aB, .inl (E.2.1, 16, .inl fB)), (aW, .inl (E.2.1, 176, .inl (va_cpy fB fW 0 0 16)))] _ := hP
  have hD : va_D A [(oK, .inr (0, [.ref aB, .ref aW, .ref aF, .ref aG, .ref aV, .int mde])), (aB, .inl (E.2.1, 16, .inl fB)), (aW, .inl (E.2.1, 176, .inl (va_cpy fB fW 0 0 16)))] := hD
  refine lv_iconst (v := 1) hx hb dX0_makeWords_15 (by decide) ?_
  refine lv_istore_n (lv' := [(1, .int 1), (0, .ref oK)]) hx hb dX0_makeWords_16 rfl hl (by decide) rfl (fun ls hl => ?_)
  refine lv_bipush (v := 16) hx hb dX0_makeWords_17 (by decide) ?_
  refine lv_istore_n (lv' := [(2, .int 16), (1, .int 1), (0, .ref oK)]) hx hb dX0_makeWords_19 rfl hl (by decide) rfl (fun ls hl => ?_)
  have hP : va_P E.1 classes [(oK, .inr (0, [.ref aB, .ref aW, .ref aF, .ref aG, .ref aV, .int mde])), (aB, .inl (E.2.1, 16, .inl fB)), (aW, .inl (E.2.1, 176, .inl ((wordM (va_cpy fB fW 0 0 16) 0).1)))] _ := hP
  have hD : va_D A [(oK, .inr (0, [.ref aB, .ref aW, .ref aF, .ref aG, .ref aV, .int mde])), (aB, .inl (E.2.1, 16, .inl fB)), (aW, .inl (E.2.1, 176, .inl ((wordM (va_cpy fB fW 0 0 16) 0).1)))] := hD
  refine lp_words B ⟨by decide, by decide⟩ ⟨by decide, by decide⟩ (By.cpy (N := 16) (by decide) hB hW) (fun H locs ls hP hD hS hl => ?_) 41 0 (by omega) (by omega) _ _ _ hP hD hS (lv_sub hl [0, 1, 2] rfl)
  have hP : va_P E.1 classes [(oK, .inr (0, [.ref aB, .ref aW, .ref aF, .ref aG, .ref aV, .int mde])), (aB, .inl (E.2.1, 16, .inl fB)), (aW, .inl (E.2.1, 176, .inl ((wordM (va_cpy fB fW 0 0 16) 40).1)))] _ := hP
  have hD : va_D A [(oK, .inr (0, [.ref aB, .ref aW, .ref aF, .ref aG, .ref aV, .int mde])), (aB, .inl (E.2.1, 16, .inl fB)), (aW, .inl (E.2.1, 176, .inl ((wordM (va_cpy fB fW 0 0 16) 40).1)))] := hD
  exact x_vret B hP hD hS dX0_makeWords_59
set_option maxHeartbeats 4000000 in
set_option maxRecDepth 100000 in
theorem lp_dbl {p : Program} {l : Launch} {e : Env} {R : Room} {s : State} {m : MethodId} {args : Array Value} {below : List Frame} {meth : Method} {c : Code} {cells slots : Nat} {Q : State → Prop} {E : EE} {A : Nat → Prop} {a b : Nat} {f g : Nat → Int32} {z : Int32} (B : Bd p s m args meth c cX0_putDoubled 4 none RX0 E A) (hf : cells ≤ R.cells ∧ slots ≤ R.slots) 
    (kk : ∀ (H : Heap) (locs : List Loc) (ls : Array Slot), va_P E.1 classes [(a, .inl (E.2.1, 16, .inl f)), (b, .inl (E.2.1, 16, .inl (dblM f g 15)))] H → va_D A [(a, .inl (E.2.1, 16, .inl f)), (b, .inl (E.2.1, 16, .inl (dblM f g 15)))] → va_S A s.heap H locs → lv_has ls 4 [(3, .int (nI 15)), (2, .int z), (0, .ref a), (1, .ref b)] → W p l e R s m args below meth c H locs cells slots Q (F0 m 52 ls [])) :
    ∀ (fu i : Nat), i ≤ 15 → 15 < i + fu → ∀ (H : Heap) (locs : List Loc) (ls : Array Slot), va_P E.1 classes [(a, .inl (E.2.1, 16, .inl f)), (b, .inl (E.2.1, 16, .inl (dblM f g i)))] H → va_D A [(a, .inl (E.2.1, 16, .inl f)), (b, .inl (E.2.1, 16, .inl (dblM f g i)))] → va_S A s.heap H locs → lv_has ls 4 [(3, .int (nI i)), (2, .int z), (0, .ref a), (1, .ref b)] → W p l e R s m args below meth c H locs cells slots Q (F0 m 19 ls []) := by
  have hx := B.1
  have hb := B.2.1
  intro fu
  induction fu with
  | zero =>
    intro i h1 h2
    exact absurd h2 (by omega)
  | succ fu ih =>
    intro i hi hin H locs ls hP hD hS hl
    refine lv_iload_n hx hb dX0_putDoubled_19 rfl (lv_at hl 0 rfl) ?_
    refine lv_bipush (v := 15) hx hb dX0_putDoubled_20 (by decide) ?_
    refine lv_icmp_ge (tgt := 52) hx hb dX0_putDoubled_22 (by decide) (fun c_22 => ?_) (fun c_22 => ?_)
    · have hj : i = 15 := by have := ge_t (b := 15) c_22 (by omega) (by omega); omega
      subst hj
      exact kk _ _ _ hP hD hS hl
    · have hj : i < 15 := by have := ge_f (b := 15) c_22 (by omega) (by omega); omega
      refine lv_aload_n hx hb dX0_putDoubled_25 rfl (lv_at hl 3 rfl) ?_
      refine lv_iload_n hx hb dX0_putDoubled_26 rfl (lv_at hl 0 rfl) ?_
      refine lv_aload_n hx hb dX0_putDoubled_27 rfl (lv_at hl 2 rfl) ?_
      refine lv_iload_n hx hb dX0_putDoubled_28 rfl (lv_at hl 0 rfl) ?_
      refine x_ald B hP 0 rfl i rfl (by omega) (by decide) dX0_putDoubled_29 ?_
      refine lv_iconst (v := 1) hx hb dX0_putDoubled_30 (by decide) ?_
      refine lv_ishl hx hb dX0_putDoubled_31 ?_
      refine lv_sipush (v := 255) hx hb dX0_putDoubled_32 (by decide) ?_
      refine lv_iand hx hb dX0_putDoubled_35 ?_
      refine lv_aload_n hx hb dX0_putDoubled_36 rfl (lv_at hl 2 rfl) ?_
      refine lv_iload_n hx hb dX0_putDoubled_37 rfl (lv_at hl 0 rfl) ?_
      refine lv_iconst (v := 1) hx hb dX0_putDoubled_38 (by decide) ?_
      refine lv_iadd hx hb dX0_putDoubled_39 ?_
      refine x_ald B hP 0 rfl (i + 1) (na_add rfl rfl) (by omega) (by decide) dX0_putDoubled_40 ?_
      refine lv_bipush (v := 7) hx hb dX0_putDoubled_41 (by decide) ?_
      refine lv_ishr hx hb dX0_putDoubled_43 ?_
      refine lv_ior hx hb dX0_putDoubled_44 ?_
      refine x_ast B hP hD hS 1 rfl i rfl (by omega) (by decide) dX0_putDoubled_45 (fun H locs hP hD hS => ?_)
      have hP : va_P E.1 classes [(a, .inl (E.2.1, 16, .inl f)), (b, .inl (E.2.1, 16, .inl (upd (dblM f g i) i ((((f i) <<< ((1 : Int32) &&& 31)) &&& 255) ||| ((f (i + 1)) >>> ((7 : Int32) &&& 31))))))] _ := hP
      have hD : va_D A [(a, .inl (E.2.1, 16, .inl f)), (b, .inl (E.2.1, 16, .inl (upd (dblM f g i) i ((((f i) <<< ((1 : Int32) &&& 31)) &&& 255) ||| ((f (i + 1)) >>> ((7 : Int32) &&& 31))))))] := hD
      refine lv_iinc (v := (nI (i + 1))) (lv' := [(3, .int (nI (i + 1))), (2, .int z), (0, .ref a), (1, .ref b)]) hx hb dX0_putDoubled_46 hl (k := 0) rfl (ii_1 i) (by decide) rfl (fun ls hl => ?_)
      refine lv_goto (tgt := 19) hx hb dX0_putDoubled_49 (by decide) ?_
      have hP : va_P E.1 classes [(a, .inl (E.2.1, 16, .inl f)), (b, .inl (E.2.1, 16, .inl (dblM f g (i + 1))))] _ := hP
      have hD : va_D A [(a, .inl (E.2.1, 16, .inl f)), (b, .inl (E.2.1, 16, .inl (dblM f g (i + 1))))] := hD
      exact ih (i + 1) (by omega) (by omega) _ _ _ hP hD hS (lv_sub hl [0, 1, 2, 3] rfl)
set_option maxHeartbeats 4000000 in
set_option maxRecDepth 100000 in
/-- putDoubled, into another row -/
theorem c_X0_putDoubled (l : Launch) (E : EE) (a b : Nat) (f g : Nat → Int32) : Cv l yX0_putDoubled (.code yX0_putDoubled cX0_putDoubled 4 none) ({ frames := 0, cells := 0, slots := 0, locals := 0 }) E [.ref a, .ref b] [(a, .inl (E.2.1, 16, .inl f)), (b, .inl (E.2.1, 16, .inl g))] [(a, .inl (E.2.1, 16, .inl f)), (b, .inl (E.2.1, 16, .inl (dblW f g)))] := by
  refine Cv.of (by decide) (Nat.le_of_ble_eq_true rfl) ?_
  intro p e s m below meth c A ls B hP hD hS hl
  have hl : lv_has ls 4 [(0, .ref a), (1, .ref b)] := hl
  have B : Bd p s m _ meth c cX0_putDoubled 4 none RX0 E A := B
  have hx := B.1
  have hb := B.2.1
  have hP : va_P E.1 classes [(a, .inl (E.2.1, 16, .inl f)), (b, .inl (E.2.1, 16, .inl g))] _ := hP
  have hD : va_D A [(a, .inl (E.2.1, 16, .inl f)), (b, .inl (E.2.1, 16, .inl g))] := hD
  refine lv_aload_n hx hb dX0_putDoubled_0 rfl (lv_at hl 0 rfl) ?_
  refine lv_iconst (v := 0) hx hb dX0_putDoubled_1 (by decide) ?_
  refine x_ald B hP 0 rfl 0 rfl (by omega) (by decide) dX0_putDoubled_2 ?_
  refine lv_sipush (v := 128) hx hb dX0_putDoubled_3 (by decide) ?_
  refine lv_icmp_lt (tgt := 15) hx hb dX0_putDoubled_6 (by decide) (fun c_6 => ?_) (fun c_6 => ?_)
  · refine lv_iconst (v := 0) hx hb dX0_putDoubled_15 (by decide) ?_
    refine lv_istore_n (lv' := [(2, .int 0), (0, .ref a), (1, .ref b)]) hx hb dX0_putDoubled_16 rfl hl (by decide) rfl (fun ls hl => ?_)
    refine lv_iconst (v := 0) hx hb dX0_putDoubled_17 (by decide) ?_
    refine lv_istore_n (lv' := [(3, .int 0), (2, .int 0), (0, .ref a), (1, .ref b)]) hx hb dX0_putDoubled_18 rfl hl (by decide) rfl (fun ls hl => ?_)
    have hP : va_P E.1 classes [(a, .inl (E.2.1, 16, .inl f)), (b, .inl (E.2.1, 16, .inl (dblM f g 0)))] _ := hP
    have hD : va_D A [(a, .inl (E.2.1, 16, .inl f)), (b, .inl (E.2.1, 16, .inl (dblM f g 0)))] := hD
    refine lp_dbl (z := 0) B ⟨by decide, by decide⟩ (fun H locs ls hP hD hS hl => ?_) 16 0 (by omega) (by omega) _ _ _ hP hD hS (lv_sub hl [0, 1, 2, 3] rfl)
    have eZ : foldM f = 0 := if_pos c_6
    refine lv_aload_n hx hb dX0_putDoubled_52 rfl (lv_at hl 3 rfl) ?_
    refine lv_bipush (v := 15) hx hb dX0_putDoubled_53 (by decide) ?_
    refine lv_aload_n hx hb dX0_putDoubled_55 rfl (lv_at hl 2 rfl) ?_
    refine lv_bipush (v := 15) hx hb dX0_putDoubled_56 (by decide) ?_
    refine x_ald B hP 0 rfl 15 rfl (by omega) (by decide) dX0_putDoubled_58 ?_
    refine lv_iconst (v := 1) hx hb dX0_putDoubled_59 (by decide) ?_
    refine lv_ishl hx hb dX0_putDoubled_60 ?_
    refine lv_sipush (v := 255) hx hb dX0_putDoubled_61 (by decide) ?_
    refine lv_iand hx hb dX0_putDoubled_64 ?_
    refine lv_iload_n hx hb dX0_putDoubled_65 rfl (lv_at hl 1 rfl) ?_
    refine lv_ixor hx hb dX0_putDoubled_66 ?_
    refine x_ast B hP hD hS 1 rfl 15 rfl (by omega) (by decide) dX0_putDoubled_67 (fun H locs hP hD hS => ?_)
    have hP : va_P E.1 classes [(a, .inl (E.2.1, 16, .inl f)), (b, .inl (E.2.1, 16, .inl (upd (dblM f g 15) 15 ((((f 15) <<< ((1 : Int32) &&& 31)) &&& 255) ^^^ 0))))] _ := hP
    have hD : va_D A [(a, .inl (E.2.1, 16, .inl f)), (b, .inl (E.2.1, 16, .inl (upd (dblM f g 15) 15 ((((f 15) <<< ((1 : Int32) &&& 31)) &&& 255) ^^^ 0))))] := hD
    have hP : va_P E.1 classes [(a, .inl (E.2.1, 16, .inl f)), (b, .inl (E.2.1, 16, .inl (dblW f g)))] _ := (by unfold dblW; rw [eZ]; exact hP)
    have hD : va_D A [(a, .inl (E.2.1, 16, .inl f)), (b, .inl (E.2.1, 16, .inl (dblW f g)))] := (by unfold dblW; rw [eZ]; exact hD)
    exact x_vret B hP hD hS dX0_putDoubled_68
  · refine lv_sipush (v := 135) hx hb dX0_putDoubled_9 (by decide) ?_
    refine lv_goto (tgt := 16) hx hb dX0_putDoubled_12 (by decide) ?_
    refine lv_istore_n (lv' := [(2, .int 135), (0, .ref a), (1, .ref b)]) hx hb dX0_putDoubled_16 rfl hl (by decide) rfl (fun ls hl => ?_)
    refine lv_iconst (v := 0) hx hb dX0_putDoubled_17 (by decide) ?_
    refine lv_istore_n (lv' := [(3, .int 0), (2, .int 135), (0, .ref a), (1, .ref b)]) hx hb dX0_putDoubled_18 rfl hl (by decide) rfl (fun ls hl => ?_)
    have hP : va_P E.1 classes [(a, .inl (E.2.1, 16, .inl f)), (b, .inl (E.2.1, 16, .inl (dblM f g 0)))] _ := hP
    have hD : va_D A [(a, .inl (E.2.1, 16, .inl f)), (b, .inl (E.2.1, 16, .inl (dblM f g 0)))] := hD
    refine lp_dbl (z := 135) B ⟨by decide, by decide⟩ (fun H locs ls hP hD hS hl => ?_) 16 0 (by omega) (by omega) _ _ _ hP hD hS (lv_sub hl [0, 1, 2, 3] rfl)
    have eZ : foldM f = 135 := if_neg c_6
    refine lv_aload_n hx hb dX0_putDoubled_52 rfl (lv_at hl 3 rfl) ?_
    refine lv_bipush (v := 15) hx hb dX0_putDoubled_53 (by decide) ?_
    refine lv_aload_n hx hb dX0_putDoubled_55 rfl (lv_at hl 2 rfl) ?_
    refine lv_bipush (v := 15) hx hb dX0_putDoubled_56 (by decide) ?_
    refine x_ald B hP 0 rfl 15 rfl (by omega) (by decide) dX0_putDoubled_58 ?_
    refine lv_iconst (v := 1) hx hb dX0_putDoubled_59 (by decide) ?_
    refine lv_ishl hx hb dX0_putDoubled_60 ?_
    refine lv_sipush (v := 255) hx hb dX0_putDoubled_61 (by decide) ?_
    refine lv_iand hx hb dX0_putDoubled_64 ?_
    refine lv_iload_n hx hb dX0_putDoubled_65 rfl (lv_at hl 1 rfl) ?_
    refine lv_ixor hx hb dX0_putDoubled_66 ?_
    refine x_ast B hP hD hS 1 rfl 15 rfl (by omega) (by decide) dX0_putDoubled_67 (fun H locs hP hD hS => ?_)
    have hP : va_P E.1 classes [(a, .inl (E.2.1, 16, .inl f)), (b, .inl (E.2.1, 16, .inl (upd (dblM f g 15) 15 ((((f 15) <<< ((1 : Int32) &&& 31)) &&& 255) ^^^ 135))))] _ := hP
    have hD : va_D A [(a, .inl (E.2.1, 16, .inl f)), (b, .inl (E.2.1, 16, .inl (upd (dblM f g 15) 15 ((((f 15) <<< ((1 : Int32) &&& 31)) &&& 255) ^^^ 135))))] := hD
    have hP : va_P E.1 classes [(a, .inl (E.2.1, 16, .inl f)), (b, .inl (E.2.1, 16, .inl (dblW f g)))] _ := (by unfold dblW; rw [eZ]; exact hP)
    have hD : va_D A [(a, .inl (E.2.1, 16, .inl f)), (b, .inl (E.2.1, 16, .inl (dblW f g)))] := (by unfold dblW; rw [eZ]; exact hD)
    exact x_vret B hP hD hS dX0_putDoubled_68
set_option maxHeartbeats 4000000 in
set_option maxRecDepth 100000 in
theorem lp_dblA {p : Program} {l : Launch} {e : Env} {R : Room} {s : State} {m : MethodId} {args : Array Value} {below : List Frame} {meth : Method} {c : Code} {cells slots : Nat} {Q : State → Prop} {E : EE} {A : Nat → Prop} {a : Nat} {f : Nat → Int32} {z : Int32} (B : Bd p s m args meth c cX0_putDoubled 4 none RX0 E A) (hf : cells ≤ R.cells ∧ slots ≤ R.slots) 
    (kk : ∀ (H : Heap) (locs : List Loc) (ls : Array Slot), va_P E.1 classes [(a, .inl (E.2.1, 16, .inl (dblS f 15)))] H → va_D A [(a, .inl (E.2.1, 16, .inl (dblS f 15)))] → va_S A s.heap H locs → lv_has ls 4 [(3, .int (nI 15)), (2, .int z), (0, .ref a), (1, .ref a)] → W p l e R s m args below meth c H locs cells slots Q (F0 m 52 ls [])) :
    ∀ (fu i : Nat), i ≤ 15 → 15 < i + fu → ∀ (H : Heap) (locs : List Loc) (ls : Array Slot), va_P E.1 classes [(a, .inl (E.2.1, 16, .inl (dblS f i)))] H → va_D A [(a, .inl (E.2.1, 16, .inl (dblS f i)))] → va_S A s.heap H locs → lv_has ls 4 [(3, .int (nI i)), (2, .int z), (0, .ref a), (1, .ref a)] → W p l e R s m args below meth c H locs cells slots Q (F0 m 19 ls []) := by
  have hx := B.1
  have hb := B.2.1
  intro fu
  induction fu with
  | zero =>
    intro i h1 h2
    exact absurd h2 (by omega)
  | succ fu ih =>
    intro i hi hin H locs ls hP hD hS hl
    refine lv_iload_n hx hb dX0_putDoubled_19 rfl (lv_at hl 0 rfl) ?_
    refine lv_bipush (v := 15) hx hb dX0_putDoubled_20 (by decide) ?_
    refine lv_icmp_ge (tgt := 52) hx hb dX0_putDoubled_22 (by decide) (fun c_22 => ?_) (fun c_22 => ?_)
    · have hj : i = 15 := by have := ge_t (b := 15) c_22 (by omega) (by omega); omega
      subst hj
      exact kk _ _ _ hP hD hS hl
    · have hj : i < 15 := by have := ge_f (b := 15) c_22 (by omega) (by omega); omega
      refine lv_aload_n hx hb dX0_putDoubled_25 rfl (lv_at hl 3 rfl) ?_
      refine lv_iload_n hx hb dX0_putDoubled_26 rfl (lv_at hl 0 rfl) ?_
      refine lv_aload_n hx hb dX0_putDoubled_27 rfl (lv_at hl 2 rfl) ?_
      refine lv_iload_n hx hb dX0_putDoubled_28 rfl (lv_at hl 0 rfl) ?_
      refine x_ald B hP 0 rfl i rfl (by omega) (by decide) dX0_putDoubled_29 ?_
      refine lv_iconst (v := 1) hx hb dX0_putDoubled_30 (by decide) ?_
      refine lv_ishl hx hb dX0_putDoubled_31 ?_
      refine lv_sipush (v := 255) hx hb dX0_putDoubled_32 (by decide) ?_
      refine lv_iand hx hb dX0_putDoubled_35 ?_
      refine lv_aload_n hx hb dX0_putDoubled_36 rfl (lv_at hl 2 rfl) ?_
      refine lv_iload_n hx hb dX0_putDoubled_37 rfl (lv_at hl 0 rfl) ?_
      refine lv_iconst (v := 1) hx hb dX0_putDoubled_38 (by decide) ?_
      refine lv_iadd hx hb dX0_putDoubled_39 ?_
      refine x_ald B hP 0 rfl (i + 1) (na_add rfl rfl) (by omega) (by decide) dX0_putDoubled_40 ?_
      refine lv_bipush (v := 7) hx hb dX0_putDoubled_41 (by decide) ?_
      refine lv_ishr hx hb dX0_putDoubled_43 ?_
      refine lv_ior hx hb dX0_putDoubled_44 ?_
      refine x_ast B hP hD hS 0 rfl i rfl (by omega) (by decide) dX0_putDoubled_45 (fun H locs hP hD hS => ?_)
      have hP : va_P E.1 classes [(a, .inl (E.2.1, 16, .inl (upd (dblS f i) i (((((dblS f i) i) <<< ((1 : Int32) &&& 31)) &&& 255) ||| (((dblS f i) (i + 1)) >>> ((7 : Int32) &&& 31))))))] _ := hP
      have hD : va_D A [(a, .inl (E.2.1, 16, .inl (upd (dblS f i) i (((((dblS f i) i) <<< ((1 : Int32) &&& 31)) &&& 255) ||| (((dblS f i) (i + 1)) >>> ((7 : Int32) &&& 31))))))] := hD
      refine lv_iinc (v := (nI (i + 1))) (lv' := [(3, .int (nI (i + 1))), (2, .int z), (0, .ref a), (1, .ref a)]) hx hb dX0_putDoubled_46 hl (k := 0) rfl (ii_1 i) (by decide) rfl (fun ls hl => ?_)
      refine lv_goto (tgt := 19) hx hb dX0_putDoubled_49 (by decide) ?_
      have hP : va_P E.1 classes [(a, .inl (E.2.1, 16, .inl (dblS f (i + 1))))] _ := hP
      have hD : va_D A [(a, .inl (E.2.1, 16, .inl (dblS f (i + 1))))] := hD
      exact ih (i + 1) (by omega) (by omega) _ _ _ hP hD hS (lv_sub hl [0, 1, 2, 3] rfl)
set_option maxHeartbeats 4000000 in
set_option maxRecDepth 100000 in
/-- putDoubled, into itself -/
theorem c_X0_putDoubled_A (l : Launch) (E : EE) (a : Nat) (f : Nat → Int32) : Cv l yX0_putDoubled (.code yX0_putDoubled cX0_putDoubled 4 none) ({ frames := 0, cells := 0, slots := 0, locals := 0 }) E [.ref a, .ref a] [(a, .inl (E.2.1, 16, .inl f))] [(a, .inl (E.2.1, 16, .inl (dblA f)))] := by
  refine Cv.of (by decide) (Nat.le_of_ble_eq_true rfl) ?_
  intro p e s m below meth c A ls B hP hD hS hl
  have hl : lv_has ls 4 [(0, .ref a), (1, .ref a)] := hl
  have B : Bd p s m _ meth c cX0_putDoubled 4 none RX0 E A := B
  have hx := B.1
  have hb := B.2.1
  have hP : va_P E.1 classes [(a, .inl (E.2.1, 16, .inl f))] _ := hP
  have hD : va_D A [(a, .inl (E.2.1, 16, .inl f))] := hD
  refine lv_aload_n hx hb dX0_putDoubled_0 rfl (lv_at hl 0 rfl) ?_
  refine lv_iconst (v := 0) hx hb dX0_putDoubled_1 (by decide) ?_
  refine x_ald B hP 0 rfl 0 rfl (by omega) (by decide) dX0_putDoubled_2 ?_
  refine lv_sipush (v := 128) hx hb dX0_putDoubled_3 (by decide) ?_
  refine lv_icmp_lt (tgt := 15) hx hb dX0_putDoubled_6 (by decide) (fun c_6 => ?_) (fun c_6 => ?_)
  · refine lv_iconst (v := 0) hx hb dX0_putDoubled_15 (by decide) ?_
    refine lv_istore_n (lv' := [(2, .int 0), (0, .ref a), (1, .ref a)]) hx hb dX0_putDoubled_16 rfl hl (by decide) rfl (fun ls hl => ?_)
    refine lv_iconst (v := 0) hx hb dX0_putDoubled_17 (by decide) ?_
    refine lv_istore_n (lv' := [(3, .int 0), (2, .int 0), (0, .ref a), (1, .ref a)]) hx hb dX0_putDoubled_18 rfl hl (by decide) rfl (fun ls hl => ?_)
    have hP : va_P E.1 classes [(a, .inl (E.2.1, 16, .inl (dblS f 0)))] _ := hP
    have hD : va_D A [(a, .inl (E.2.1, 16, .inl (dblS f 0)))] := hD
    refine lp_dblA (z := 0) B ⟨by decide, by decide⟩ (fun H locs ls hP hD hS hl => ?_) 16 0 (by omega) (by omega) _ _ _ hP hD hS (lv_sub hl [0, 1, 2, 3] rfl)
    have eZ : foldM f = 0 := if_pos c_6
    refine lv_aload_n hx hb dX0_putDoubled_52 rfl (lv_at hl 3 rfl) ?_
    refine lv_bipush (v := 15) hx hb dX0_putDoubled_53 (by decide) ?_
    refine lv_aload_n hx hb dX0_putDoubled_55 rfl (lv_at hl 2 rfl) ?_
    refine lv_bipush (v := 15) hx hb dX0_putDoubled_56 (by decide) ?_
    refine x_ald B hP 0 rfl 15 rfl (by omega) (by decide) dX0_putDoubled_58 ?_
    refine lv_iconst (v := 1) hx hb dX0_putDoubled_59 (by decide) ?_
    refine lv_ishl hx hb dX0_putDoubled_60 ?_
    refine lv_sipush (v := 255) hx hb dX0_putDoubled_61 (by decide) ?_
    refine lv_iand hx hb dX0_putDoubled_64 ?_
    refine lv_iload_n hx hb dX0_putDoubled_65 rfl (lv_at hl 1 rfl) ?_
    refine lv_ixor hx hb dX0_putDoubled_66 ?_
    refine x_ast B hP hD hS 0 rfl 15 rfl (by omega) (by decide) dX0_putDoubled_67 (fun H locs hP hD hS => ?_)
    have hP : va_P E.1 classes [(a, .inl (E.2.1, 16, .inl (upd (dblS f 15) 15 (((((dblS f 15) 15) <<< ((1 : Int32) &&& 31)) &&& 255) ^^^ 0))))] _ := hP
    have hD : va_D A [(a, .inl (E.2.1, 16, .inl (upd (dblS f 15) 15 (((((dblS f 15) 15) <<< ((1 : Int32) &&& 31)) &&& 255) ^^^ 0))))] := hD
    have hP : va_P E.1 classes [(a, .inl (E.2.1, 16, .inl (dblA f)))] _ := (by unfold dblA; rw [eZ]; exact hP)
    have hD : va_D A [(a, .inl (E.2.1, 16, .inl (dblA f)))] := (by unfold dblA; rw [eZ]; exact hD)
    exact x_vret B hP hD hS dX0_putDoubled_68
  · refine lv_sipush (v := 135) hx hb dX0_putDoubled_9 (by decide) ?_
    refine lv_goto (tgt := 16) hx hb dX0_putDoubled_12 (by decide) ?_
    refine lv_istore_n (lv' := [(2, .int 135), (0, .ref a), (1, .ref a)]) hx hb dX0_putDoubled_16 rfl hl (by decide) rfl (fun ls hl => ?_)
    refine lv_iconst (v := 0) hx hb dX0_putDoubled_17 (by decide) ?_
    refine lv_istore_n (lv' := [(3, .int 0), (2, .int 135), (0, .ref a), (1, .ref a)]) hx hb dX0_putDoubled_18 rfl hl (by decide) rfl (fun ls hl => ?_)
    have hP : va_P E.1 classes [(a, .inl (E.2.1, 16, .inl (dblS f 0)))] _ := hP
    have hD : va_D A [(a, .inl (E.2.1, 16, .inl (dblS f 0)))] := hD
    refine lp_dblA (z := 135) B ⟨by decide, by decide⟩ (fun H locs ls hP hD hS hl => ?_) 16 0 (by omega) (by omega) _ _ _ hP hD hS (lv_sub hl [0, 1, 2, 3] rfl)
    have eZ : foldM f = 135 := if_neg c_6
    refine lv_aload_n hx hb dX0_putDoubled_52 rfl (lv_at hl 3 rfl) ?_
    refine lv_bipush (v := 15) hx hb dX0_putDoubled_53 (by decide) ?_
    refine lv_aload_n hx hb dX0_putDoubled_55 rfl (lv_at hl 2 rfl) ?_
    refine lv_bipush (v := 15) hx hb dX0_putDoubled_56 (by decide) ?_
    refine x_ald B hP 0 rfl 15 rfl (by omega) (by decide) dX0_putDoubled_58 ?_
    refine lv_iconst (v := 1) hx hb dX0_putDoubled_59 (by decide) ?_
    refine lv_ishl hx hb dX0_putDoubled_60 ?_
    refine lv_sipush (v := 255) hx hb dX0_putDoubled_61 (by decide) ?_
    refine lv_iand hx hb dX0_putDoubled_64 ?_
    refine lv_iload_n hx hb dX0_putDoubled_65 rfl (lv_at hl 1 rfl) ?_
    refine lv_ixor hx hb dX0_putDoubled_66 ?_
    refine x_ast B hP hD hS 0 rfl 15 rfl (by omega) (by decide) dX0_putDoubled_67 (fun H locs hP hD hS => ?_)
    have hP : va_P E.1 classes [(a, .inl (E.2.1, 16, .inl (upd (dblS f 15) 15 (((((dblS f 15) 15) <<< ((1 : Int32) &&& 31)) &&& 255) ^^^ 135))))] _ := hP
    have hD : va_D A [(a, .inl (E.2.1, 16, .inl (upd (dblS f 15) 15 (((((dblS f 15) 15) <<< ((1 : Int32) &&& 31)) &&& 255) ^^^ 135))))] := hD
    have hP : va_P E.1 classes [(a, .inl (E.2.1, 16, .inl (dblA f)))] _ := (by unfold dblA; rw [eZ]; exact hP)
    have hD : va_D A [(a, .inl (E.2.1, 16, .inl (dblA f)))] := (by unfold dblA; rw [eZ]; exact hD)
    exact x_vret B hP hD hS dX0_putDoubled_68
theorem fillM_by {x : Int32} {f : Nat → Int32} {n : Nat} (hx : By x) (hf : ∀ i, i < n → By (f i)) : ∀ k, ∀ i, i < n → By (fillM x f k i)
  | 0 => hf
  | k + 1 => By.upd (fillM_by hx hf k) hx
theorem by_0 : By 0 := By.of (j := 0) (by decide)
/-- the first half key's row, the second's, the moved row, after makeHalves -/
def hv1 (fW fF fV : Nat → Int32) : (Nat → Int32) × (Nat → Int32) := forM fW (fillM 0 fF 16) fV 10
set_option maxHeartbeats 4000000 in
set_option maxRecDepth 100000 in
/-- makeHalves -/
theorem c_X0_makeHalves (l : Launch) (E : EE) (oK aB aW aF aG aV : Nat) (fW fF fG fV : Nat → Int32) (mde : Int32) (hW : ∀ i, i < 176 → By (fW i)) (hF : ∀ i, i < 16 → By (fF i)) (hG : ∀ i, i < 16 → By (fG i)) (hV : ∀ i, i < 16 → By (fV i)) : Cv l yX0_makeHalves (.code yX0_makeHalves cX0_makeHalves 1 none) ({ frames := 4, cells := 0, slots := 0, locals := 104 }) E [.ref oK] [(oK, .inr (0, [.ref aB, .ref aW, .ref aF, .ref aG, .ref aV, .int mde])), (aW, .inl (E.2.1, 176, .inl fW)), (aF, .inl (E.2.1, 16, .inl fF)), (aG, .inl (E.2.1, 16, .inl fG)), (aV, .inl (E.2.1, 16, .inl fV))] [(oK, .inr (0, [.ref aB, .ref aW, .ref aF, .ref aG, .ref aV, .int mde])), (aW, .inl (E.2.1, 176, .inl fW)), (aF, .inl (E.2.1, 16, .inl (dblA (hv1 fW fF fV).1))), (aG, .inl (E.2.1, 16, .inl (dblW (dblA (hv1 fW fF fV).1) fG))), (aV, .inl (E.2.1, 16, .inl ((hv1 fW fF fV).2)))] := by
  refine Cv.of (by decide) (Nat.le_of_ble_eq_true rfl) ?_
  intro p e s m below meth c A ls B hP hD hS hl
  have hl : lv_has ls 1 [(0, .ref oK)] := hl
  have B : Bd p s m _ meth c cX0_makeHalves 1 none RX0 E A := B
  have hx := B.1
  have hb := B.2.1
  have hP : va_P E.1 classes [(oK, .inr (0, [.ref aB, .ref aW, .ref aF, .ref aG, .ref aV, .int mde])), (aW, .inl (E.2.1, 176, .inl fW)), (aF, .inl (E.2.1, 16, .inl fF)), (aG, .inl (E.2.1, 16, .inl fG)), (aV, .inl (E.2.1, 16, .inl fV))] _ := hP
  have hD : va_D A [(oK, .inr (0, [.ref aB, .ref aW, .ref aF, .ref aG, .ref aV, .int mde])), (aW, .inl (E.2.1, 176, .inl fW)), (aF, .inl (E.2.1, 16, .inl fF)), (aG, .inl (E.2.1, 16, .inl fG)), (aV, .inl (E.2.1, 16, .inl fV))] := hD
  refine lv_aload_n hx hb dX0_makeHalves_0 rfl (lv_at hl 0 rfl) ?_
  refine x_get B hP 0 rfl rfl i_X0 2 (by decide) g_23 rfl dX0_makeHalves_1 ?_
  refine lv_iconst (v := 0) hx hb dX0_makeHalves_4 (by decide) ?_
  refine x_Sv (wr := [(oK, .inr (0, [.ref aB, .ref aW, .ref aF, .ref aG, .ref aV, .int mde])), (aW, .inl (E.2.1, 176, .inl fW)), (aG, .inl (E.2.1, 16, .inl fG)), (aV, .inl (E.2.1, 16, .inl fV))]) (isC := [2]) (isR := [0, 1, 3, 4]) (As := [.ref aF, .int 0]) B (c_J7_fill_53178 l E aF 16 fF 0 (by decide)) k_J7_fill_53178 g_103 s_J7_fill_53178 ⟨by decide, by decide, rfl, rfl⟩ hP hD hS ⟨rfl, rfl, rfl, rfl, by decide⟩ rfl hl.1 rfl (Nat.le_of_ble_eq_true rfl) dX0_makeHalves_5 ⟨by decide, by decide⟩ (fun H locs hP hD hS => ?_)
  have hP : va_P E.1 classes [(oK, .inr (0, [.ref aB, .ref aW, .ref aF, .ref aG, .ref aV, .int mde])), (aW, .inl (E.2.1, 176, .inl fW)), (aG, .inl (E.2.1, 16, .inl fG)), (aV, .inl (E.2.1, 16, .inl fV)), (aF, .inl (E.2.1, 16, .inl (fillM 0 fF 16)))] _ := hP
  have hD : va_D A [(oK, .inr (0, [.ref aB, .ref aW, .ref aF, .ref aG, .ref aV, .int mde])), (aW, .inl (E.2.1, 176, .inl fW)), (aG, .inl (E.2.1, 16, .inl fG)), (aV, .inl (E.2.1, 16, .inl fV)), (aF, .inl (E.2.1, 16, .inl (fillM 0 fF 16)))] := hD
  refine lv_aload_n hx hb dX0_makeHalves_8 rfl (lv_at hl 0 rfl) ?_
  refine lv_aload_n hx hb dX0_makeHalves_9 rfl (lv_at hl 0 rfl) ?_
  refine x_get B hP 0 rfl rfl i_X0 2 (by decide) g_23 rfl dX0_makeHalves_10 ?_
  refine x_Vv (wr := [(aG, .inl (E.2.1, 16, .inl fG))]) (isC := [0, 1, 3, 4]) (isR := [2]) (As := [.ref aF]) B (c_X0_goForth l E oK aB aW aF aG aV aF fW (fillM 0 fF 16) fV mde hW (fillM_by by_0 hF 16) hV) k_X0_goForth g_156 s_X0_goForth ⟨by decide, by decide, rfl, rfl⟩ rfl 0 rfl hP hD hS ⟨rfl, rfl, rfl, rfl, by decide⟩ rfl hl.1 rfl (Nat.le_of_ble_eq_true rfl) dX0_makeHalves_13 ⟨by decide, by decide⟩ (fun H locs hP hD hS => ?_)
  have hP : va_P E.1 classes [(aG, .inl (E.2.1, 16, .inl fG)), (oK, .inr (0, [.ref aB, .ref aW, .ref aF, .ref aG, .ref aV, .int mde])), (aW, .inl (E.2.1, 176, .inl fW)), (aV, .inl (E.2.1, 16, .inl ((forM fW (fillM 0 fF 16) fV 10).2))), (aF, .inl (E.2.1, 16, .inl ((forM fW (fillM 0 fF 16) fV 10).1)))] _ := hP
  have hD : va_D A [(aG, .inl (E.2.1, 16, .inl fG)), (oK, .inr (0, [.ref aB, .ref aW, .ref aF, .ref aG, .ref aV, .int mde])), (aW, .inl (E.2.1, 176, .inl fW)), (aV, .inl (E.2.1, 16, .inl ((forM fW (fillM 0 fF 16) fV 10).2))), (aF, .inl (E.2.1, 16, .inl ((forM fW (fillM 0 fF 16) fV 10).1)))] := hD
  refine lv_aload_n hx hb dX0_makeHalves_16 rfl (lv_at hl 0 rfl) ?_
  refine x_get B hP 1 rfl rfl i_X0 2 (by decide) g_23 rfl dX0_makeHalves_17 ?_
  refine lv_aload_n hx hb dX0_makeHalves_20 rfl (lv_at hl 0 rfl) ?_
  refine x_get B hP 1 rfl rfl i_X0 2 (by decide) g_23 rfl dX0_makeHalves_21 ?_
  refine x_Sv (wr := [(aG, .inl (E.2.1, 16, .inl fG)), (oK, .inr (0, [.ref aB, .ref aW, .ref aF, .ref aG, .ref aV, .int mde])), (aW, .inl (E.2.1, 176, .inl fW)), (aV, .inl (E.2.1, 16, .inl ((forM fW (fillM 0 fF 16) fV 10).2)))]) (isC := [4]) (isR := [0, 1, 2, 3]) (As := [.ref aF, .ref aF]) B (c_X0_putDoubled_A l E aF ((forM fW (fillM 0 fF 16) fV 10).1)) k_X0_putDoubled g_176 s_X0_putDoubled ⟨by decide, by decide, rfl, rfl⟩ hP hD hS ⟨rfl, rfl, rfl, rfl, by decide⟩ rfl hl.1 rfl (Nat.le_of_ble_eq_true rfl) dX0_makeHalves_24 ⟨by decide, by decide⟩ (fun H locs hP hD hS => ?_)
  have hP : va_P E.1 classes [(aG, .inl (E.2.1, 16, .inl fG)), (oK, .inr (0, [.ref aB, .ref aW, .ref aF, .ref aG, .ref aV, .int mde])), (aW, .inl (E.2.1, 176, .inl fW)), (aV, .inl (E.2.1, 16, .inl ((forM fW (fillM 0 fF 16) fV 10).2))), (aF, .inl (E.2.1, 16, .inl (dblA ((forM fW (fillM 0 fF 16) fV 10).1))))] _ := hP
  have hD : va_D A [(aG, .inl (E.2.1, 16, .inl fG)), (oK, .inr (0, [.ref aB, .ref aW, .ref aF, .ref aG, .ref aV, .int mde])), (aW, .inl (E.2.1, 176, .inl fW)), (aV, .inl (E.2.1, 16, .inl ((forM fW (fillM 0 fF 16) fV 10).2))), (aF, .inl (E.2.1, 16, .inl (dblA ((forM fW (fillM 0 fF 16) fV 10).1))))] := hD
  refine lv_aload_n hx hb dX0_makeHalves_27 rfl (lv_at hl 0 rfl) ?_
  refine x_get B hP 1 rfl rfl i_X0 2 (by decide) g_23 rfl dX0_makeHalves_28 ?_
  refine lv_aload_n hx hb dX0_makeHalves_31 rfl (lv_at hl 0 rfl) ?_
  refine x_get B hP 1 rfl rfl i_X0 3 (by decide) g_26 rfl dX0_makeHalves_32 ?_
  refine x_Sv (wr := [(oK, .inr (0, [.ref aB, .ref aW, .ref aF, .ref aG, .ref aV, .int mde])), (aW, .inl (E.2.1, 176, .inl fW)), (aV, .inl (E.2.1, 16, .inl ((forM fW (fillM 0 fF 16) fV 10).2)))]) (isC := [4, 0]) (isR := [1, 2, 3]) (As := [.ref aF, .ref aG]) B (c_X0_putDoubled l E aF aG (dblA ((forM fW (fillM 0 fF 16) fV 10).1)) fG) k_X0_putDoubled g_176 s_X0_putDoubled ⟨by decide, by decide, rfl, rfl⟩ hP hD hS ⟨rfl, rfl, rfl, rfl, by decide⟩ rfl hl.1 rfl (Nat.le_of_ble_eq_true rfl) dX0_makeHalves_35 ⟨by decide, by decide⟩ (fun H locs hP hD hS => ?_)
  have hP : va_P E.1 classes [(oK, .inr (0, [.ref aB, .ref aW, .ref aF, .ref aG, .ref aV, .int mde])), (aW, .inl (E.2.1, 176, .inl fW)), (aV, .inl (E.2.1, 16, .inl ((forM fW (fillM 0 fF 16) fV 10).2))), (aF, .inl (E.2.1, 16, .inl (dblA ((forM fW (fillM 0 fF 16) fV 10).1)))), (aG, .inl (E.2.1, 16, .inl (dblW (dblA ((forM fW (fillM 0 fF 16) fV 10).1)) fG)))] _ := hP
  have hD : va_D A [(oK, .inr (0, [.ref aB, .ref aW, .ref aF, .ref aG, .ref aV, .int mde])), (aW, .inl (E.2.1, 176, .inl fW)), (aV, .inl (E.2.1, 16, .inl ((forM fW (fillM 0 fF 16) fV 10).2))), (aF, .inl (E.2.1, 16, .inl (dblA ((forM fW (fillM 0 fF 16) fV 10).1)))), (aG, .inl (E.2.1, 16, .inl (dblW (dblA ((forM fW (fillM 0 fF 16) fV 10).1)) fG)))] := hD
  have hP := hP.sub (ws' := [(oK, .inr (0, [.ref aB, .ref aW, .ref aF, .ref aG, .ref aV, .int mde])), (aW, .inl (E.2.1, 176, .inl fW)), (aF, .inl (E.2.1, 16, .inl (dblA ((forM fW (fillM 0 fF 16) fV 10).1)))), (aG, .inl (E.2.1, 16, .inl (dblW (dblA ((forM fW (fillM 0 fF 16) fV 10).1)) fG))), (aV, .inl (E.2.1, 16, .inl ((forM fW (fillM 0 fF 16) fV 10).2)))]) [0, 1, 3, 4, 2] rfl
  have hD := hD.sub (ws' := [(oK, .inr (0, [.ref aB, .ref aW, .ref aF, .ref aG, .ref aV, .int mde])), (aW, .inl (E.2.1, 176, .inl fW)), (aF, .inl (E.2.1, 16, .inl (dblA ((forM fW (fillM 0 fF 16) fV 10).1)))), (aG, .inl (E.2.1, 16, .inl (dblW (dblA ((forM fW (fillM 0 fF 16) fV 10).1)) fG))), (aV, .inl (E.2.1, 16, .inl ((forM fW (fillM 0 fF 16) fV 10).2)))]) [0, 1, 3, 4, 2] (by decide) rfl
  have hP : va_P E.1 classes [(oK, .inr (0, [.ref aB, .ref aW, .ref aF, .ref aG, .ref aV, .int mde])), (aW, .inl (E.2.1, 176, .inl fW)), (aF, .inl (E.2.1, 16, .inl (dblA (hv1 fW fF fV).1))), (aG, .inl (E.2.1, 16, .inl (dblW (dblA (hv1 fW fF fV).1) fG))), (aV, .inl (E.2.1, 16, .inl ((hv1 fW fF fV).2)))] _ := hP
  have hD : va_D A [(oK, .inr (0, [.ref aB, .ref aW, .ref aF, .ref aG, .ref aV, .int mde])), (aW, .inl (E.2.1, 176, .inl fW)), (aF, .inl (E.2.1, 16, .inl (dblA (hv1 fW fF fV).1))), (aG, .inl (E.2.1, 16, .inl (dblW (dblA (hv1 fW fF fV).1) fG))), (aV, .inl (E.2.1, 16, .inl ((hv1 fW fF fV).2)))] := hD
  exact x_vret B hP hD hS dX0_makeHalves_38
set_option maxHeartbeats 4000000 in
set_option maxRecDepth 100000 in
/-- make -/
theorem c_X0_make (l : Launch) (E : EE) (oK aB aW aF aG aV : Nat) (fB fW fF fG fV : Nat → Int32) (mde : Int32) (hB : ∀ i, i < 16 → By (fB i)) (hW : ∀ i, i < 176 → By (fW i)) (hF : ∀ i, i < 16 → By (fF i)) (hG : ∀ i, i < 16 → By (fG i)) (hV : ∀ i, i < 16 → By (fV i)) : Cv l yX0_make (.code yX0_make cX0_make 1 none) ({ frames := 5, cells := 0, slots := 0, locals := 124 }) E [.ref oK] [(oK, .inr (0, [.ref aB, .ref aW, .ref aF, .ref aG, .ref aV, .int mde])), (aB, .inl (E.2.1, 16, .inl fB)), (aW, .inl (E.2.1, 176, .inl fW)), (aF, .inl (E.2.1, 16, .inl fF)), (aG, .inl (E.2.1, 16, .inl fG)), (aV, .inl (E.2.1, 16, .inl fV))] [(oK, .inr (0, [.ref aB, .ref aW, .ref aF, .ref aG, .ref aV, .int 1])), (aB, .inl (E.2.1, 16, .inl fB)), (aW, .inl (E.2.1, 176, .inl ((wordM (va_cpy fB fW 0 0 16) 40).1))), (aF, .inl (E.2.1, 16, .inl (dblA (hv1 (wordM (va_cpy fB fW 0 0 16) 40).1 fF fV).1))), (aG, .inl (E.2.1, 16, .inl (dblW (dblA (hv1 (wordM (va_cpy fB fW 0 0 16) 40).1 fF fV).1) fG))), (aV, .inl (E.2.1, 16, .inl ((hv1 (wordM (va_cpy fB fW 0 0 16) 40).1 fF fV).2)))] := by
  refine Cv.of (by decide) (Nat.le_of_ble_eq_true rfl) ?_
  intro p e s m below meth c A ls B hP hD hS hl
  have hl : lv_has ls 1 [(0, .ref oK)] := hl
  have B : Bd p s m _ meth c cX0_make 1 none RX0 E A := B
  have hx := B.1
  have hb := B.2.1
  have hP : va_P E.1 classes [(oK, .inr (0, [.ref aB, .ref aW, .ref aF, .ref aG, .ref aV, .int mde])), (aB, .inl (E.2.1, 16, .inl fB)), (aW, .inl (E.2.1, 176, .inl fW)), (aF, .inl (E.2.1, 16, .inl fF)), (aG, .inl (E.2.1, 16, .inl fG)), (aV, .inl (E.2.1, 16, .inl fV))] _ := hP
  have hD : va_D A [(oK, .inr (0, [.ref aB, .ref aW, .ref aF, .ref aG, .ref aV, .int mde])), (aB, .inl (E.2.1, 16, .inl fB)), (aW, .inl (E.2.1, 176, .inl fW)), (aF, .inl (E.2.1, 16, .inl fF)), (aG, .inl (E.2.1, 16, .inl fG)), (aV, .inl (E.2.1, 16, .inl fV))] := hD
  refine lv_aload_n hx hb dX0_make_0 rfl (lv_at hl 0 rfl) ?_
  refine x_Vv (wr := [(aF, .inl (E.2.1, 16, .inl fF)), (aG, .inl (E.2.1, 16, .inl fG)), (aV, .inl (E.2.1, 16, .inl fV))]) (isC := [0, 1, 2]) (isR := [3, 4, 5]) (As := []) B (c_X0_makeWords l E oK aB aW aF aG aV fB fW mde hB hW) k_X0_makeWords g_132 s_X0_makeWords ⟨by decide, by decide, rfl, rfl⟩ rfl 0 rfl hP hD hS ⟨rfl, rfl, rfl, rfl, by decide⟩ rfl hl.1 rfl (Nat.le_of_ble_eq_true rfl) dX0_make_1 ⟨by decide, by decide⟩ (fun H locs hP hD hS => ?_)
  have hP : va_P E.1 classes [(aF, .inl (E.2.1, 16, .inl fF)), (aG, .inl (E.2.1, 16, .inl fG)), (aV, .inl (E.2.1, 16, .inl fV)), (oK, .inr (0, [.ref aB, .ref aW, .ref aF, .ref aG, .ref aV, .int mde])), (aB, .inl (E.2.1, 16, .inl fB)), (aW, .inl (E.2.1, 176, .inl ((wordM (va_cpy fB fW 0 0 16) 40).1)))] _ := hP
  have hD : va_D A [(aF, .inl (E.2.1, 16, .inl fF)), (aG, .inl (E.2.1, 16, .inl fG)), (aV, .inl (E.2.1, 16, .inl fV)), (oK, .inr (0, [.ref aB, .ref aW, .ref aF, .ref aG, .ref aV, .int mde])), (aB, .inl (E.2.1, 16, .inl fB)), (aW, .inl (E.2.1, 176, .inl ((wordM (va_cpy fB fW 0 0 16) 40).1)))] := hD
  refine lv_aload_n hx hb dX0_make_4 rfl (lv_at hl 0 rfl) ?_
  refine x_Vv (wr := [(aB, .inl (E.2.1, 16, .inl fB))]) (isC := [3, 5, 0, 1, 2]) (isR := [4]) (As := []) B (c_X0_makeHalves l E oK aB aW aF aG aV ((wordM (va_cpy fB fW 0 0 16) 40).1) fF fG fV mde ((wordM_by (By.cpy (N := 16) (by decide) hB hW) 40 (by decide)).1) hF hG hV) k_X0_makeHalves g_152 s_X0_makeHalves ⟨by decide, by decide, rfl, rfl⟩ rfl 3 rfl hP hD hS ⟨rfl, rfl, rfl, rfl, by decide⟩ rfl hl.1 rfl (Nat.le_of_ble_eq_true rfl) dX0_make_5 ⟨by decide, by decide⟩ (fun H locs hP hD hS => ?_)
  have hP : va_P E.1 classes [(aB, .inl (E.2.1, 16, .inl fB)), (oK, .inr (0, [.ref aB, .ref aW, .ref aF, .ref aG, .ref aV, .int mde])), (aW, .inl (E.2.1, 176, .inl ((wordM (va_cpy fB fW 0 0 16) 40).1))), (aF, .inl (E.2.1, 16, .inl (dblA (hv1 ((wordM (va_cpy fB fW 0 0 16) 40).1) fF fV).1))), (aG, .inl (E.2.1, 16, .inl (dblW (dblA (hv1 ((wordM (va_cpy fB fW 0 0 16) 40).1) fF fV).1) fG))), (aV, .inl (E.2.1, 16, .inl ((hv1 ((wordM (va_cpy fB fW 0 0 16) 40).1) fF fV).2)))] _ := hP
  have hD : va_D A [(aB, .inl (E.2.1, 16, .inl fB)), (oK, .inr (0, [.ref aB, .ref aW, .ref aF, .ref aG, .ref aV, .int mde])), (aW, .inl (E.2.1, 176, .inl ((wordM (va_cpy fB fW 0 0 16) 40).1))), (aF, .inl (E.2.1, 16, .inl (dblA (hv1 ((wordM (va_cpy fB fW 0 0 16) 40).1) fF fV).1))), (aG, .inl (E.2.1, 16, .inl (dblW (dblA (hv1 ((wordM (va_cpy fB fW 0 0 16) 40).1) fF fV).1) fG))), (aV, .inl (E.2.1, 16, .inl ((hv1 ((wordM (va_cpy fB fW 0 0 16) 40).1) fF fV).2)))] := hD
  refine lv_aload_n hx hb dX0_make_8 rfl (lv_at hl 0 rfl) ?_
  refine lv_iconst (v := 1) hx hb dX0_make_9 (by decide) ?_
  refine x_put B hP hD hS 1 rfl rfl i_X0 tyX0 tyX0_ok nmX0 5 (by decide) g_30 rfl rfl rfl (Nat.le_of_ble_eq_true rfl) dX0_make_10 (fun H locs hP hD hS => ?_)
  have hP : va_P E.1 classes [(aB, .inl (E.2.1, 16, .inl fB)), (oK, .inr (0, [.ref aB, .ref aW, .ref aF, .ref aG, .ref aV, .int 1])), (aW, .inl (E.2.1, 176, .inl ((wordM (va_cpy fB fW 0 0 16) 40).1))), (aF, .inl (E.2.1, 16, .inl (dblA (hv1 ((wordM (va_cpy fB fW 0 0 16) 40).1) fF fV).1))), (aG, .inl (E.2.1, 16, .inl (dblW (dblA (hv1 ((wordM (va_cpy fB fW 0 0 16) 40).1) fF fV).1) fG))), (aV, .inl (E.2.1, 16, .inl ((hv1 ((wordM (va_cpy fB fW 0 0 16) 40).1) fF fV).2)))] _ := hP
  have hD : va_D A [(aB, .inl (E.2.1, 16, .inl fB)), (oK, .inr (0, [.ref aB, .ref aW, .ref aF, .ref aG, .ref aV, .int 1])), (aW, .inl (E.2.1, 176, .inl ((wordM (va_cpy fB fW 0 0 16) 40).1))), (aF, .inl (E.2.1, 16, .inl (dblA (hv1 ((wordM (va_cpy fB fW 0 0 16) 40).1) fF fV).1))), (aG, .inl (E.2.1, 16, .inl (dblW (dblA (hv1 ((wordM (va_cpy fB fW 0 0 16) 40).1) fF fV).1) fG))), (aV, .inl (E.2.1, 16, .inl ((hv1 ((wordM (va_cpy fB fW 0 0 16) 40).1) fF fV).2)))] := hD
  have hP := hP.sub (ws' := [(oK, .inr (0, [.ref aB, .ref aW, .ref aF, .ref aG, .ref aV, .int 1])), (aB, .inl (E.2.1, 16, .inl fB)), (aW, .inl (E.2.1, 176, .inl ((wordM (va_cpy fB fW 0 0 16) 40).1))), (aF, .inl (E.2.1, 16, .inl (dblA (hv1 ((wordM (va_cpy fB fW 0 0 16) 40).1) fF fV).1))), (aG, .inl (E.2.1, 16, .inl (dblW (dblA (hv1 ((wordM (va_cpy fB fW 0 0 16) 40).1) fF fV).1) fG))), (aV, .inl (E.2.1, 16, .inl ((hv1 ((wordM (va_cpy fB fW 0 0 16) 40).1) fF fV).2)))]) [1, 0, 2, 3, 4, 5] rfl
  have hD := hD.sub (ws' := [(oK, .inr (0, [.ref aB, .ref aW, .ref aF, .ref aG, .ref aV, .int 1])), (aB, .inl (E.2.1, 16, .inl fB)), (aW, .inl (E.2.1, 176, .inl ((wordM (va_cpy fB fW 0 0 16) 40).1))), (aF, .inl (E.2.1, 16, .inl (dblA (hv1 ((wordM (va_cpy fB fW 0 0 16) 40).1) fF fV).1))), (aG, .inl (E.2.1, 16, .inl (dblW (dblA (hv1 ((wordM (va_cpy fB fW 0 0 16) 40).1) fF fV).1) fG))), (aV, .inl (E.2.1, 16, .inl ((hv1 ((wordM (va_cpy fB fW 0 0 16) 40).1) fF fV).2)))]) [1, 0, 2, 3, 4, 5] (by decide) rfl
  have hP : va_P E.1 classes [(oK, .inr (0, [.ref aB, .ref aW, .ref aF, .ref aG, .ref aV, .int 1])), (aB, .inl (E.2.1, 16, .inl fB)), (aW, .inl (E.2.1, 176, .inl ((wordM (va_cpy fB fW 0 0 16) 40).1))), (aF, .inl (E.2.1, 16, .inl (dblA (hv1 (wordM (va_cpy fB fW 0 0 16) 40).1 fF fV).1))), (aG, .inl (E.2.1, 16, .inl (dblW (dblA (hv1 (wordM (va_cpy fB fW 0 0 16) 40).1 fF fV).1) fG))), (aV, .inl (E.2.1, 16, .inl ((hv1 (wordM (va_cpy fB fW 0 0 16) 40).1 fF fV).2)))] _ := hP
  have hD : va_D A [(oK, .inr (0, [.ref aB, .ref aW, .ref aF, .ref aG, .ref aV, .int 1])), (aB, .inl (E.2.1, 16, .inl fB)), (aW, .inl (E.2.1, 176, .inl ((wordM (va_cpy fB fW 0 0 16) 40).1))), (aF, .inl (E.2.1, 16, .inl (dblA (hv1 (wordM (va_cpy fB fW 0 0 16) 40).1 fF fV).1))), (aG, .inl (E.2.1, 16, .inl (dblW (dblA (hv1 (wordM (va_cpy fB fW 0 0 16) 40).1 fF fV).1) fG))), (aV, .inl (E.2.1, 16, .inl ((hv1 (wordM (va_cpy fB fW 0 0 16) 40).1 fF fV).2)))] := hD
  exact x_vret B hP hD hS dX0_make_13
set_option maxHeartbeats 4000000 in
set_option maxRecDepth 100000 in
/-- put -/
theorem c_X0_put (l : Launch) (E : EE) (oK aB aW aF aG aV : Nat) (fB : Nat → Int32) (mde : Int32) (k : Nat) (v x : Int32) (hv : v = nI k) (hk : k < 16) : Cv l yX0_put (.code yX0_put cX0_put 3 none) ({ frames := 0, cells := 0, slots := 0, locals := 0 }) E [.ref oK, .int v, .int x] [(oK, .inr (0, [.ref aB, .ref aW, .ref aF, .ref aG, .ref aV, .int mde])), (aB, .inl (E.2.1, 16, .inl fB))] [(oK, .inr (0, [.ref aB, .ref aW, .ref aF, .ref aG, .ref aV, .int 0])), (aB, .inl (E.2.1, 16, .inl (upd fB k x)))] := by
  refine Cv.of (by decide) (Nat.le_of_ble_eq_true rfl) ?_
  intro p e s m below meth c A ls B hP hD hS hl
  have hl : lv_has ls 3 [(0, .ref oK), (1, .int v), (2, .int x)] := hl
  have B : Bd p s m _ meth c cX0_put 3 none RX0 E A := B
  have hx := B.1
  have hb := B.2.1
  have hP : va_P E.1 classes [(oK, .inr (0, [.ref aB, .ref aW, .ref aF, .ref aG, .ref aV, .int mde])), (aB, .inl (E.2.1, 16, .inl fB))] _ := hP
  have hD : va_D A [(oK, .inr (0, [.ref aB, .ref aW, .ref aF, .ref aG, .ref aV, .int mde])), (aB, .inl (E.2.1, 16, .inl fB))] := hD
  refine lv_aload_n hx hb dX0_put_0 rfl (lv_at hl 0 rfl) ?_
  refine x_get B hP 0 rfl rfl i_X0 0 (by decide) g_21 rfl dX0_put_1 ?_
  refine lv_iload_n hx hb dX0_put_4 rfl (lv_at hl 1 rfl) ?_
  refine lv_iload_n hx hb dX0_put_5 rfl (lv_at hl 2 rfl) ?_
  refine x_ast B hP hD hS 1 rfl k hv (by omega) (by decide) dX0_put_6 (fun H locs hP hD hS => ?_)
  have hP : va_P E.1 classes [(oK, .inr (0, [.ref aB, .ref aW, .ref aF, .ref aG, .ref aV, .int mde])), (aB, .inl (E.2.1, 16, .inl (upd fB k x)))] _ := hP
  have hD : va_D A [(oK, .inr (0, [.ref aB, .ref aW, .ref aF, .ref aG, .ref aV, .int mde])), (aB, .inl (E.2.1, 16, .inl (upd fB k x)))] := hD
  refine lv_aload_n hx hb dX0_put_7 rfl (lv_at hl 0 rfl) ?_
  refine lv_iconst (v := 0) hx hb dX0_put_8 (by decide) ?_
  refine x_put B hP hD hS 0 rfl rfl i_X0 tyX0 tyX0_ok nmX0 5 (by decide) g_30 rfl rfl rfl (Nat.le_of_ble_eq_true rfl) dX0_put_9 (fun H locs hP hD hS => ?_)
  have hP : va_P E.1 classes [(oK, .inr (0, [.ref aB, .ref aW, .ref aF, .ref aG, .ref aV, .int 0])), (aB, .inl (E.2.1, 16, .inl (upd fB k x)))] _ := hP
  have hD : va_D A [(oK, .inr (0, [.ref aB, .ref aW, .ref aF, .ref aG, .ref aV, .int 0])), (aB, .inl (E.2.1, 16, .inl (upd fB k x)))] := hD
  have hP : va_P E.1 classes [(oK, .inr (0, [.ref aB, .ref aW, .ref aF, .ref aG, .ref aV, .int 0])), (aB, .inl (E.2.1, 16, .inl (upd fB k x)))] _ := hP
  have hD : va_D A [(oK, .inr (0, [.ref aB, .ref aW, .ref aF, .ref aG, .ref aV, .int 0])), (aB, .inl (E.2.1, 16, .inl (upd fB k x)))] := hD
  exact x_vret B hP hD hS dX0_put_12
set_option maxHeartbeats 4000000 in
set_option maxRecDepth 100000 in
/-- begin -/
theorem c_X1_begin (l : Launch) (E : EE) (oM aS : Nat) (fE : Nat → Int32) (fil opn end_ cmp_ dif : Int32) : Cv l yX1_begin (.code yX1_begin cX1_begin 1 none) ({ frames := 1, cells := 0, slots := 0, locals := 23 }) E [.ref oM] [(oM, .inr (1, [.ref aS, .int fil, .int opn, .int end_, .int cmp_, .int dif])), (aS, .inl (E.2.1, 16, .inl fE))] [(oM, .inr (1, [.ref aS, .int 0, .int 1, .int 0, .int cmp_, .int dif])), (aS, .inl (E.2.1, 16, .inl (fillM 0 fE 16)))] := by
  refine Cv.of (by decide) (Nat.le_of_ble_eq_true rfl) ?_
  intro p e s m below meth c A ls B hP hD hS hl
  have hl : lv_has ls 1 [(0, .ref oM)] := hl
  have B : Bd p s m _ meth c cX1_begin 1 none RX1 E A := B
  have hx := B.1
  have hb := B.2.1
  have hP : va_P E.1 classes [(oM, .inr (1, [.ref aS, .int fil, .int opn, .int end_, .int cmp_, .int dif])), (aS, .inl (E.2.1, 16, .inl fE))] _ := hP
  have hD : va_D A [(oM, .inr (1, [.ref aS, .int fil, .int opn, .int end_, .int cmp_, .int dif])), (aS, .inl (E.2.1, 16, .inl fE))] := hD
  refine lv_aload_n hx hb dX1_begin_0 rfl (lv_at hl 0 rfl) ?_
  refine x_get B hP 0 rfl rfl i_X1 0 (by decide) g_52 rfl dX1_begin_1 ?_
  refine lv_iconst (v := 0) hx hb dX1_begin_4 (by decide) ?_
  refine x_Sv (wr := [(oM, .inr (1, [.ref aS, .int fil, .int opn, .int end_, .int cmp_, .int dif]))]) (isC := [1]) (isR := [0]) (As := [.ref aS, .int 0]) B (c_J7_fill_53178 l E aS 16 fE 0 (by decide)) k_J7_fill_53178 g_187 s_J7_fill_53178 ⟨by decide, by decide, rfl, rfl⟩ hP hD hS ⟨rfl, rfl, rfl, rfl, by decide⟩ rfl hl.1 rfl (Nat.le_of_ble_eq_true rfl) dX1_begin_5 ⟨by decide, by decide⟩ (fun H locs hP hD hS => ?_)
  have hP : va_P E.1 classes [(oM, .inr (1, [.ref aS, .int fil, .int opn, .int end_, .int cmp_, .int dif])), (aS, .inl (E.2.1, 16, .inl (fillM 0 fE 16)))] _ := hP
  have hD : va_D A [(oM, .inr (1, [.ref aS, .int fil, .int opn, .int end_, .int cmp_, .int dif])), (aS, .inl (E.2.1, 16, .inl (fillM 0 fE 16)))] := hD
  refine lv_aload_n hx hb dX1_begin_8 rfl (lv_at hl 0 rfl) ?_
  refine lv_iconst (v := 0) hx hb dX1_begin_9 (by decide) ?_
  refine x_put B hP hD hS 0 rfl rfl i_X1 tyX1 tyX1_ok nmX1 1 (by decide) g_54 rfl rfl rfl (Nat.le_of_ble_eq_true rfl) dX1_begin_10 (fun H locs hP hD hS => ?_)
  have hP : va_P E.1 classes [(oM, .inr (1, [.ref aS, .int 0, .int opn, .int end_, .int cmp_, .int dif])), (aS, .inl (E.2.1, 16, .inl (fillM 0 fE 16)))] _ := hP
  have hD : va_D A [(oM, .inr (1, [.ref aS, .int 0, .int opn, .int end_, .int cmp_, .int dif])), (aS, .inl (E.2.1, 16, .inl (fillM 0 fE 16)))] := hD
  refine lv_aload_n hx hb dX1_begin_13 rfl (lv_at hl 0 rfl) ?_
  refine lv_iconst (v := 1) hx hb dX1_begin_14 (by decide) ?_
  refine x_put B hP hD hS 0 rfl rfl i_X1 tyX1 tyX1_ok nmX1 2 (by decide) g_55 rfl rfl rfl (Nat.le_of_ble_eq_true rfl) dX1_begin_15 (fun H locs hP hD hS => ?_)
  have hP : va_P E.1 classes [(oM, .inr (1, [.ref aS, .int 0, .int 1, .int end_, .int cmp_, .int dif])), (aS, .inl (E.2.1, 16, .inl (fillM 0 fE 16)))] _ := hP
  have hD : va_D A [(oM, .inr (1, [.ref aS, .int 0, .int 1, .int end_, .int cmp_, .int dif])), (aS, .inl (E.2.1, 16, .inl (fillM 0 fE 16)))] := hD
  refine lv_aload_n hx hb dX1_begin_18 rfl (lv_at hl 0 rfl) ?_
  refine lv_iconst (v := 0) hx hb dX1_begin_19 (by decide) ?_
  refine x_put B hP hD hS 0 rfl rfl i_X1 tyX1 tyX1_ok nmX1 3 (by decide) g_57 rfl rfl rfl (Nat.le_of_ble_eq_true rfl) dX1_begin_20 (fun H locs hP hD hS => ?_)
  have hP : va_P E.1 classes [(oM, .inr (1, [.ref aS, .int 0, .int 1, .int 0, .int cmp_, .int dif])), (aS, .inl (E.2.1, 16, .inl (fillM 0 fE 16)))] _ := hP
  have hD : va_D A [(oM, .inr (1, [.ref aS, .int 0, .int 1, .int 0, .int cmp_, .int dif])), (aS, .inl (E.2.1, 16, .inl (fillM 0 fE 16)))] := hD
  have hP : va_P E.1 classes [(oM, .inr (1, [.ref aS, .int 0, .int 1, .int 0, .int cmp_, .int dif])), (aS, .inl (E.2.1, 16, .inl (fillM 0 fE 16)))] _ := hP
  have hD : va_D A [(oM, .inr (1, [.ref aS, .int 0, .int 1, .int 0, .int cmp_, .int dif])), (aS, .inl (E.2.1, 16, .inl (fillM 0 fE 16)))] := hD
  exact x_vret B hP hD hS dX1_begin_23
/-- a byte more: (the sum, the moved row, how many) -/
def tkM (w : Nat → Int32) (t : (Nat → Int32) × (Nat → Int32) × Nat) (b : Int32) : (Nat → Int32) × (Nat → Int32) × Nat :=
  if t.2.2 = 16 then (upd (forM w t.1 t.2.1 10).1 0 ((forM w t.1 t.2.1 10).1 0 ^^^ b), (forM w t.1 t.2.1 10).2, 1) else (upd t.1 t.2.2 (t.1 t.2.2 ^^^ b), t.2.1, t.2.2 + 1)
def tkOk (t : (Nat → Int32) × (Nat → Int32) × Nat) : Prop := (∀ i, i < 16 → By (t.1 i)) ∧ (∀ i, i < 16 → By (t.2.1 i)) ∧ t.2.2 ≤ 16
theorem tkM_ok {w : Nat → Int32} {t : (Nat → Int32) × (Nat → Int32) × Nat} {b : Int32} (hw : ∀ i, i < 176 → By (w i)) (hb : By b) (h : tkOk t) : tkOk (tkM w t b) := by
  obtain ⟨h1, h2, h3⟩ := h
  unfold tkM
  split
  · have hf := forM_by hw h1 h2 10 (by decide)
    exact ⟨By.upd hf.1 ((hf.1 0 (by decide)).xor hb), hf.2, by show 1 ≤ 16; decide⟩
  · exact ⟨By.upd h1 ((h1 _ (by omega)).xor hb), h2, by show t.2.2 + 1 ≤ 16; omega⟩
set_option maxHeartbeats 4000000 in
set_option maxRecDepth 100000 in
/-- take -/
theorem c_X1_take (l : Launch) (E : EE) (oM aS oK aB aW aF aG aV : Nat) (fE fW fV : Nat → Int32) (k : Nat) (x opn end_ cmp_ dif mde : Int32) (hW : ∀ i, i < 176 → By (fW i)) (hb : By x) (ht : tkOk (fE, fV, k)) : Cv l yX1_take (.code yX1_take cX1_take 3 none) ({ frames := 4, cells := 0, slots := 0, locals := 104 }) E [.ref oM, .int x, .ref oK] [(oM, .inr (1, [.ref aS, .int (nI k), .int opn, .int end_, .int cmp_, .int dif])), (aS, .inl (E.2.1, 16, .inl fE)), (oK, .inr (0, [.ref aB, .ref aW, .ref aF, .ref aG, .ref aV, .int mde])), (aW, .inl (E.2.1, 176, .inl fW)), (aV, .inl (E.2.1, 16, .inl fV))] [(oM, .inr (1, [.ref aS, .int (nI (tkM fW (fE, fV, k) x).2.2), .int opn, .int end_, .int cmp_, .int dif])), (aS, .inl (E.2.1, 16, .inl ((tkM fW (fE, fV, k) x).1))), (oK, .inr (0, [.ref aB, .ref aW, .ref aF, .ref aG, .ref aV, .int mde])), (aW, .inl (E.2.1, 176, .inl fW)), (aV, .inl (E.2.1, 16, .inl ((tkM fW (fE, fV, k) x).2.1)))] := by
  refine Cv.of (by decide) (Nat.le_of_ble_eq_true rfl) ?_
  intro p e s m below meth c A ls B hP hD hS hl
  have hl : lv_has ls 3 [(0, .ref oM), (1, .int x), (2, .ref oK)] := hl
  have B : Bd p s m _ meth c cX1_take 3 none RX1 E A := B
  have hx := B.1
  have hb := B.2.1
  have hP : va_P E.1 classes [(oM, .inr (1, [.ref aS, .int (nI k), .int opn, .int end_, .int cmp_, .int dif])), (aS, .inl (E.2.1, 16, .inl fE)), (oK, .inr (0, [.ref aB, .ref aW, .ref aF, .ref aG, .ref aV, .int mde])), (aW, .inl (E.2.1, 176, .inl fW)), (aV, .inl (E.2.1, 16, .inl fV))] _ := hP
  have hD : va_D A [(oM, .inr (1, [.ref aS, .int (nI k), .int opn, .int end_, .int cmp_, .int dif])), (aS, .inl (E.2.1, 16, .inl fE)), (oK, .inr (0, [.ref aB, .ref aW, .ref aF, .ref aG, .ref aV, .int mde])), (aW, .inl (E.2.1, 176, .inl fW)), (aV, .inl (E.2.1, 16, .inl fV))] := hD
  refine lv_aload_n hx hb dX1_take_0 rfl (lv_at hl 0 rfl) ?_
  refine x_get B hP 0 rfl rfl i_X1 1 (by decide) g_54 rfl dX1_take_1 ?_
  refine lv_bipush (v := 16) hx hb dX1_take_4 (by decide) ?_
  refine lv_icmp_ne (tgt := 22) hx hb dX1_take_6 (by decide) (fun c_6 => ?_) (fun c_6 => ?_)
  · have hk : ¬ k = 16 := fun h => c_6 (by rw [h]; rfl)
    have hk2 : k < 16 := by have := ht.2.2; show k < 16; have h3 : k ≤ 16 := this; omega
    have eF : tkM fW (fE, fV, k) x = (upd fE k (fE k ^^^ x), fV, k + 1) := if_neg hk
    refine lv_aload_n hx hb dX1_take_22 rfl (lv_at hl 0 rfl) ?_
    refine x_get B hP 0 rfl rfl i_X1 0 (by decide) g_52 rfl dX1_take_23 ?_
    refine lv_aload_n hx hb dX1_take_26 rfl (lv_at hl 0 rfl) ?_
    refine x_get B hP 0 rfl rfl i_X1 1 (by decide) g_54 rfl dX1_take_27 ?_
    refine lv_dup2_11 hx hb dX1_take_30 rfl rfl ?_
    refine x_ald B hP 1 rfl k rfl (by omega) (by decide) dX1_take_31 ?_
    refine lv_iload_n hx hb dX1_take_32 rfl (lv_at hl 1 rfl) ?_
    refine lv_ixor hx hb dX1_take_33 ?_
    refine x_ast B hP hD hS 1 rfl k rfl (by omega) (by decide) dX1_take_34 (fun H locs hP hD hS => ?_)
    have hP : va_P E.1 classes [(oM, .inr (1, [.ref aS, .int (nI k), .int opn, .int end_, .int cmp_, .int dif])), (aS, .inl (E.2.1, 16, .inl (upd fE k ((fE k) ^^^ x)))), (oK, .inr (0, [.ref aB, .ref aW, .ref aF, .ref aG, .ref aV, .int mde])), (aW, .inl (E.2.1, 176, .inl fW)), (aV, .inl (E.2.1, 16, .inl fV))] _ := hP
    have hD : va_D A [(oM, .inr (1, [.ref aS, .int (nI k), .int opn, .int end_, .int cmp_, .int dif])), (aS, .inl (E.2.1, 16, .inl (upd fE k ((fE k) ^^^ x)))), (oK, .inr (0, [.ref aB, .ref aW, .ref aF, .ref aG, .ref aV, .int mde])), (aW, .inl (E.2.1, 176, .inl fW)), (aV, .inl (E.2.1, 16, .inl fV))] := hD
    refine lv_aload_n hx hb dX1_take_35 rfl (lv_at hl 0 rfl) ?_
    refine lv_dup hx hb dX1_take_36 rfl ?_
    refine x_get B hP 0 rfl rfl i_X1 1 (by decide) g_54 rfl dX1_take_37 ?_
    refine lv_iconst (v := 1) hx hb dX1_take_40 (by decide) ?_
    refine lv_iadd hx hb dX1_take_41 ?_
    refine W.eq (g2 := F0 m 42 ls [.int (nI (k + 1)), .ref oM]) (by rw [show ((nI k) + 1) = nI (k + 1) from (na_add rfl rfl)]) ?_
    refine x_put B hP hD hS 0 rfl rfl i_X1 tyX1 tyX1_ok nmX1 1 (by decide) g_54 rfl rfl rfl (Nat.le_of_ble_eq_true rfl) dX1_take_42 (fun H locs hP hD hS => ?_)
    have hP : va_P E.1 classes [(oM, .inr (1, [.ref aS, .int (nI (k + 1)), .int opn, .int end_, .int cmp_, .int dif])), (aS, .inl (E.2.1, 16, .inl (upd fE k ((fE k) ^^^ x)))), (oK, .inr (0, [.ref aB, .ref aW, .ref aF, .ref aG, .ref aV, .int mde])), (aW, .inl (E.2.1, 176, .inl fW)), (aV, .inl (E.2.1, 16, .inl fV))] _ := hP
    have hD : va_D A [(oM, .inr (1, [.ref aS, .int (nI (k + 1)), .int opn, .int end_, .int cmp_, .int dif])), (aS, .inl (E.2.1, 16, .inl (upd fE k ((fE k) ^^^ x)))), (oK, .inr (0, [.ref aB, .ref aW, .ref aF, .ref aG, .ref aV, .int mde])), (aW, .inl (E.2.1, 176, .inl fW)), (aV, .inl (E.2.1, 16, .inl fV))] := hD
    have hP : va_P E.1 classes [(oM, .inr (1, [.ref aS, .int (nI (tkM fW (fE, fV, k) x).2.2), .int opn, .int end_, .int cmp_, .int dif])), (aS, .inl (E.2.1, 16, .inl ((tkM fW (fE, fV, k) x).1))), (oK, .inr (0, [.ref aB, .ref aW, .ref aF, .ref aG, .ref aV, .int mde])), (aW, .inl (E.2.1, 176, .inl fW)), (aV, .inl (E.2.1, 16, .inl ((tkM fW (fE, fV, k) x).2.1)))] _ := (by rw [eF]; exact hP)
    have hD : va_D A [(oM, .inr (1, [.ref aS, .int (nI (tkM fW (fE, fV, k) x).2.2), .int opn, .int end_, .int cmp_, .int dif])), (aS, .inl (E.2.1, 16, .inl ((tkM fW (fE, fV, k) x).1))), (oK, .inr (0, [.ref aB, .ref aW, .ref aF, .ref aG, .ref aV, .int mde])), (aW, .inl (E.2.1, 176, .inl fW)), (aV, .inl (E.2.1, 16, .inl ((tkM fW (fE, fV, k) x).2.1)))] := (by rw [eF]; exact hD)
    exact x_vret B hP hD hS dX1_take_45
  · have hk : k = 16 := (nI_eq (b := 16) (by have h3 : k ≤ 16 := ht.2.2; omega) (by decide)).mp c_6
    have eF : tkM fW (fE, fV, k) x = (upd (forM fW fE fV 10).1 0 ((forM fW fE fV 10).1 0 ^^^ x), (forM fW fE fV 10).2, 1) := if_pos hk
    refine lv_aload_n hx hb dX1_take_9 rfl (lv_at hl 2 rfl) ?_
    refine lv_aload_n hx hb dX1_take_10 rfl (lv_at hl 0 rfl) ?_
    refine x_get B hP 0 rfl rfl i_X1 0 (by decide) g_52 rfl dX1_take_11 ?_
    refine x_Vv (wr := [(oM, .inr (1, [.ref aS, .int (nI k), .int opn, .int end_, .int cmp_, .int dif]))]) (isC := [2, 3, 4, 1]) (isR := [0]) (As := [.ref aS]) B (c_X0_goForth l E oK aB aW aF aG aV aS fW fE fV mde hW ht.1 ht.2.1) k_X0_goForth g_196 s_X0_goForth ⟨by decide, by decide, rfl, rfl⟩ rfl 2 rfl hP hD hS ⟨rfl, rfl, rfl, rfl, by decide⟩ rfl hl.1 rfl (Nat.le_of_ble_eq_true rfl) dX1_take_14 ⟨by decide, by decide⟩ (fun H locs hP hD hS => ?_)
    have hP : va_P E.1 classes [(oM, .inr (1, [.ref aS, .int (nI k), .int opn, .int end_, .int cmp_, .int dif])), (oK, .inr (0, [.ref aB, .ref aW, .ref aF, .ref aG, .ref aV, .int mde])), (aW, .inl (E.2.1, 176, .inl fW)), (aV, .inl (E.2.1, 16, .inl ((forM fW fE fV 10).2))), (aS, .inl (E.2.1, 16, .inl ((forM fW fE fV 10).1)))] _ := hP
    have hD : va_D A [(oM, .inr (1, [.ref aS, .int (nI k), .int opn, .int end_, .int cmp_, .int dif])), (oK, .inr (0, [.ref aB, .ref aW, .ref aF, .ref aG, .ref aV, .int mde])), (aW, .inl (E.2.1, 176, .inl fW)), (aV, .inl (E.2.1, 16, .inl ((forM fW fE fV 10).2))), (aS, .inl (E.2.1, 16, .inl ((forM fW fE fV 10).1)))] := hD
    refine lv_aload_n hx hb dX1_take_17 rfl (lv_at hl 0 rfl) ?_
    refine lv_iconst (v := 0) hx hb dX1_take_18 (by decide) ?_
    refine x_put B hP hD hS 0 rfl rfl i_X1 tyX1 tyX1_ok nmX1 1 (by decide) g_54 rfl rfl rfl (Nat.le_of_ble_eq_true rfl) dX1_take_19 (fun H locs hP hD hS => ?_)
    have hP : va_P E.1 classes [(oM, .inr (1, [.ref aS, .int 0, .int opn, .int end_, .int cmp_, .int dif])), (oK, .inr (0, [.ref aB, .ref aW, .ref aF, .ref aG, .ref aV, .int mde])), (aW, .inl (E.2.1, 176, .inl fW)), (aV, .inl (E.2.1, 16, .inl ((forM fW fE fV 10).2))), (aS, .inl (E.2.1, 16, .inl ((forM fW fE fV 10).1)))] _ := hP
    have hD : va_D A [(oM, .inr (1, [.ref aS, .int 0, .int opn, .int end_, .int cmp_, .int dif])), (oK, .inr (0, [.ref aB, .ref aW, .ref aF, .ref aG, .ref aV, .int mde])), (aW, .inl (E.2.1, 176, .inl fW)), (aV, .inl (E.2.1, 16, .inl ((forM fW fE fV 10).2))), (aS, .inl (E.2.1, 16, .inl ((forM fW fE fV 10).1)))] := hD
    refine lv_aload_n hx hb dX1_take_22 rfl (lv_at hl 0 rfl) ?_
    refine x_get B hP 0 rfl rfl i_X1 0 (by decide) g_52 rfl dX1_take_23 ?_
    refine lv_aload_n hx hb dX1_take_26 rfl (lv_at hl 0 rfl) ?_
    refine x_get B hP 0 rfl rfl i_X1 1 (by decide) g_54 rfl dX1_take_27 ?_
    refine lv_dup2_11 hx hb dX1_take_30 rfl rfl ?_
    refine x_ald B hP 4 rfl 0 rfl (by omega) (by decide) dX1_take_31 ?_
    refine lv_iload_n hx hb dX1_take_32 rfl (lv_at hl 1 rfl) ?_
    refine lv_ixor hx hb dX1_take_33 ?_
    refine x_ast B hP hD hS 4 rfl 0 rfl (by omega) (by decide) dX1_take_34 (fun H locs hP hD hS => ?_)
    have hP : va_P E.1 classes [(oM, .inr (1, [.ref aS, .int 0, .int opn, .int end_, .int cmp_, .int dif])), (oK, .inr (0, [.ref aB, .ref aW, .ref aF, .ref aG, .ref aV, .int mde])), (aW, .inl (E.2.1, 176, .inl fW)), (aV, .inl (E.2.1, 16, .inl ((forM fW fE fV 10).2))), (aS, .inl (E.2.1, 16, .inl (upd ((forM fW fE fV 10).1) 0 ((((forM fW fE fV 10).1) 0) ^^^ x))))] _ := hP
    have hD : va_D A [(oM, .inr (1, [.ref aS, .int 0, .int opn, .int end_, .int cmp_, .int dif])), (oK, .inr (0, [.ref aB, .ref aW, .ref aF, .ref aG, .ref aV, .int mde])), (aW, .inl (E.2.1, 176, .inl fW)), (aV, .inl (E.2.1, 16, .inl ((forM fW fE fV 10).2))), (aS, .inl (E.2.1, 16, .inl (upd ((forM fW fE fV 10).1) 0 ((((forM fW fE fV 10).1) 0) ^^^ x))))] := hD
    refine lv_aload_n hx hb dX1_take_35 rfl (lv_at hl 0 rfl) ?_
    refine lv_dup hx hb dX1_take_36 rfl ?_
    refine x_get B hP 0 rfl rfl i_X1 1 (by decide) g_54 rfl dX1_take_37 ?_
    refine lv_iconst (v := 1) hx hb dX1_take_40 (by decide) ?_
    refine lv_iadd hx hb dX1_take_41 ?_
    refine W.eq (g2 := F0 m 42 ls [.int (nI (0 + 1)), .ref oM]) (by rw [show (0 + 1) = nI (0 + 1) from (na_add rfl rfl)]) ?_
    refine x_put B hP hD hS 0 rfl rfl i_X1 tyX1 tyX1_ok nmX1 1 (by decide) g_54 rfl rfl rfl (Nat.le_of_ble_eq_true rfl) dX1_take_42 (fun H locs hP hD hS => ?_)
    have hP : va_P E.1 classes [(oM, .inr (1, [.ref aS, .int (nI (0 + 1)), .int opn, .int end_, .int cmp_, .int dif])), (oK, .inr (0, [.ref aB, .ref aW, .ref aF, .ref aG, .ref aV, .int mde])), (aW, .inl (E.2.1, 176, .inl fW)), (aV, .inl (E.2.1, 16, .inl ((forM fW fE fV 10).2))), (aS, .inl (E.2.1, 16, .inl (upd ((forM fW fE fV 10).1) 0 ((((forM fW fE fV 10).1) 0) ^^^ x))))] _ := hP
    have hD : va_D A [(oM, .inr (1, [.ref aS, .int (nI (0 + 1)), .int opn, .int end_, .int cmp_, .int dif])), (oK, .inr (0, [.ref aB, .ref aW, .ref aF, .ref aG, .ref aV, .int mde])), (aW, .inl (E.2.1, 176, .inl fW)), (aV, .inl (E.2.1, 16, .inl ((forM fW fE fV 10).2))), (aS, .inl (E.2.1, 16, .inl (upd ((forM fW fE fV 10).1) 0 ((((forM fW fE fV 10).1) 0) ^^^ x))))] := hD
    have hP := hP.sub (ws' := [(oM, .inr (1, [.ref aS, .int (nI (0 + 1)), .int opn, .int end_, .int cmp_, .int dif])), (aS, .inl (E.2.1, 16, .inl (upd ((forM fW fE fV 10).1) 0 ((((forM fW fE fV 10).1) 0) ^^^ x)))), (oK, .inr (0, [.ref aB, .ref aW, .ref aF, .ref aG, .ref aV, .int mde])), (aW, .inl (E.2.1, 176, .inl fW)), (aV, .inl (E.2.1, 16, .inl ((forM fW fE fV 10).2)))]) [0, 4, 1, 2, 3] rfl
    have hD := hD.sub (ws' := [(oM, .inr (1, [.ref aS, .int (nI (0 + 1)), .int opn, .int end_, .int cmp_, .int dif])), (aS, .inl (E.2.1, 16, .inl (upd ((forM fW fE fV 10).1) 0 ((((forM fW fE fV 10).1) 0) ^^^ x)))), (oK, .inr (0, [.ref aB, .ref aW, .ref aF, .ref aG, .ref aV, .int mde])), (aW, .inl (E.2.1, 176, .inl fW)), (aV, .inl (E.2.1, 16, .inl ((forM fW fE fV 10).2)))]) [0, 4, 1, 2, 3] (by decide) rfl
    have hP : va_P E.1 classes [(oM, .inr (1, [.ref aS, .int (nI (tkM fW (fE, fV, k) x).2.2), .int opn, .int end_, .int cmp_, .int dif])), (aS, .inl (E.2.1, 16, .inl ((tkM fW (fE, fV, k) x).1))), (oK, .inr (0, [.ref aB, .ref aW, .ref aF, .ref aG, .ref aV, .int mde])), (aW, .inl (E.2.1, 176, .inl fW)), (aV, .inl (E.2.1, 16, .inl ((tkM fW (fE, fV, k) x).2.1)))] _ := (by rw [eF]; exact hP)
    have hD : va_D A [(oM, .inr (1, [.ref aS, .int (nI (tkM fW (fE, fV, k) x).2.2), .int opn, .int end_, .int cmp_, .int dif])), (aS, .inl (E.2.1, 16, .inl ((tkM fW (fE, fV, k) x).1))), (oK, .inr (0, [.ref aB, .ref aW, .ref aF, .ref aG, .ref aV, .int mde])), (aW, .inl (E.2.1, 176, .inl fW)), (aV, .inl (E.2.1, 16, .inl ((tkM fW (fE, fV, k) x).2.1)))] := (by rw [eF]; exact hD)
    exact x_vret B hP hD hS dX1_take_45
/-- the end: (the code, the moved row) -/
def enM (w h1 h2 : Nat → Int32) (t : (Nat → Int32) × (Nat → Int32) × Nat) : (Nat → Int32) × (Nat → Int32) :=
  if t.2.2 = 16 then forM w (xorM h1 0 t.1 16) t.2.1 10 else forM w (xorM h2 0 (upd t.1 t.2.2 (t.1 t.2.2 ^^^ 128)) 16) t.2.1 10
theorem by_128 : By 128 := By.of (j := 128) (by decide)
theorem enM_by {w h1 h2 : Nat → Int32} {t : (Nat → Int32) × (Nat → Int32) × Nat} (hw : ∀ i, i < 176 → By (w i)) (g1 : ∀ i, i < 16 → By (h1 i)) (g2 : ∀ i, i < 16 → By (h2 i)) (h : tkOk t) : (∀ i, i < 16 → By ((enM w h1 h2 t).1 i)) ∧ ∀ i, i < 16 → By ((enM w h1 h2 t).2 i) := by
  obtain ⟨a1, a2, a3⟩ := h
  unfold enM
  split
  · exact forM_by hw (xorM_by g1 a1 16 (by decide) (by decide)) a2 10 (by decide)
  · exact forM_by hw (xorM_by g2 (By.upd a1 ((a1 _ (by omega)).xor by_128)) 16 (by decide) (by decide)) a2 10 (by decide)
set_option maxHeartbeats 4000000 in
set_option maxRecDepth 100000 in
/-- end -/
theorem c_X1_end (l : Launch) (E : EE) (oM aS oK aB aW aF aG aV : Nat) (fE fW fF fG fV : Nat → Int32) (k : Nat) (opn end_ cmp_ dif mde : Int32) (hW : ∀ i, i < 176 → By (fW i)) (hF : ∀ i, i < 16 → By (fF i)) (hG : ∀ i, i < 16 → By (fG i)) (ht : tkOk (fE, fV, k)) : Cv l yX1_end (.code yX1_end cX1_end 2 none) ({ frames := 4, cells := 0, slots := 0, locals := 104 }) E [.ref oM, .ref oK] [(oM, .inr (1, [.ref aS, .int (nI k), .int opn, .int end_, .int cmp_, .int dif])), (aS, .inl (E.2.1, 16, .inl fE)), (oK, .inr (0, [.ref aB, .ref aW, .ref aF, .ref aG, .ref aV, .int mde])), (aW, .inl (E.2.1, 176, .inl fW)), (aF, .inl (E.2.1, 16, .inl fF)), (aG, .inl (E.2.1, 16, .inl fG)), (aV, .inl (E.2.1, 16, .inl fV))] [(oM, .inr (1, [.ref aS, .int (nI k), .int 0, .int 1, .int 0, .int 0])), (aS, .inl (E.2.1, 16, .inl ((enM fW fF fG (fE, fV, k)).1))), (oK, .inr (0, [.ref aB, .ref aW, .ref aF, .ref aG, .ref aV, .int mde])), (aW, .inl (E.2.1, 176, .inl fW)), (aF, .inl (E.2.1, 16, .inl fF)), (aG, .inl (E.2.1, 16, .inl fG)), (aV, .inl (E.2.1, 16, .inl ((enM fW fF fG (fE, fV, k)).2)))] := by
  refine Cv.of (by decide) (Nat.le_of_ble_eq_true rfl) ?_
  intro p e s m below meth c A ls B hP hD hS hl
  have hl : lv_has ls 2 [(0, .ref oM), (1, .ref oK)] := hl
  have B : Bd p s m _ meth c cX1_end 2 none RX1 E A := B
  have hx := B.1
  have hb := B.2.1
  have hP : va_P E.1 classes [(oM, .inr (1, [.ref aS, .int (nI k), .int opn, .int end_, .int cmp_, .int dif])), (aS, .inl (E.2.1, 16, .inl fE)), (oK, .inr (0, [.ref aB, .ref aW, .ref aF, .ref aG, .ref aV, .int mde])), (aW, .inl (E.2.1, 176, .inl fW)), (aF, .inl (E.2.1, 16, .inl fF)), (aG, .inl (E.2.1, 16, .inl fG)), (aV, .inl (E.2.1, 16, .inl fV))] _ := hP
  have hD : va_D A [(oM, .inr (1, [.ref aS, .int (nI k), .int opn, .int end_, .int cmp_, .int dif])), (aS, .inl (E.2.1, 16, .inl fE)), (oK, .inr (0, [.ref aB, .ref aW, .ref aF, .ref aG, .ref aV, .int mde])), (aW, .inl (E.2.1, 176, .inl fW)), (aF, .inl (E.2.1, 16, .inl fF)), (aG, .inl (E.2.1, 16, .inl fG)), (aV, .inl (E.2.1, 16, .inl fV))] := hD
  refine lv_aload_n hx hb dX1_end_0 rfl (lv_at hl 0 rfl) ?_
  refine x_get B hP 0 rfl rfl i_X1 1 (by decide) g_54 rfl dX1_end_1 ?_
  refine lv_bipush (v := 16) hx hb dX1_end_4 (by decide) ?_
  refine lv_icmp_ne (tgt := 24) hx hb dX1_end_6 (by decide) (fun c_6 => ?_) (fun c_6 => ?_)
  · have hk : ¬ k = 16 := fun h => c_6 (by rw [h]; rfl)
    have hk2 : k < 16 := by have h3 : k ≤ 16 := ht.2.2; omega
    have eF : enM fW fF fG (fE, fV, k) = forM fW (xorM fG 0 (upd fE k (fE k ^^^ 128)) 16) fV 10 := if_neg hk
    refine lv_aload_n hx hb dX1_end_24 rfl (lv_at hl 0 rfl) ?_
    refine x_get B hP 0 rfl rfl i_X1 0 (by decide) g_52 rfl dX1_end_25 ?_
    refine lv_aload_n hx hb dX1_end_28 rfl (lv_at hl 0 rfl) ?_
    refine x_get B hP 0 rfl rfl i_X1 1 (by decide) g_54 rfl dX1_end_29 ?_
    refine lv_dup2_11 hx hb dX1_end_32 rfl rfl ?_
    refine x_ald B hP 1 rfl k rfl (by omega) (by decide) dX1_end_33 ?_
    refine lv_sipush (v := 128) hx hb dX1_end_34 (by decide) ?_
    refine lv_ixor hx hb dX1_end_37 ?_
    refine x_ast B hP hD hS 1 rfl k rfl (by omega) (by decide) dX1_end_38 (fun H locs hP hD hS => ?_)
    have hP : va_P E.1 classes [(oM, .inr (1, [.ref aS, .int (nI k), .int opn, .int end_, .int cmp_, .int dif])), (aS, .inl (E.2.1, 16, .inl (upd fE k ((fE k) ^^^ 128)))), (oK, .inr (0, [.ref aB, .ref aW, .ref aF, .ref aG, .ref aV, .int mde])), (aW, .inl (E.2.1, 176, .inl fW)), (aF, .inl (E.2.1, 16, .inl fF)), (aG, .inl (E.2.1, 16, .inl fG)), (aV, .inl (E.2.1, 16, .inl fV))] _ := hP
    have hD : va_D A [(oM, .inr (1, [.ref aS, .int (nI k), .int opn, .int end_, .int cmp_, .int dif])), (aS, .inl (E.2.1, 16, .inl (upd fE k ((fE k) ^^^ 128)))), (oK, .inr (0, [.ref aB, .ref aW, .ref aF, .ref aG, .ref aV, .int mde])), (aW, .inl (E.2.1, 176, .inl fW)), (aF, .inl (E.2.1, 16, .inl fF)), (aG, .inl (E.2.1, 16, .inl fG)), (aV, .inl (E.2.1, 16, .inl fV))] := hD
    refine lv_aload_n hx hb dX1_end_39 rfl (lv_at hl 0 rfl) ?_
    refine x_get B hP 0 rfl rfl i_X1 0 (by decide) g_52 rfl dX1_end_40 ?_
    refine lv_aload_n hx hb dX1_end_43 rfl (lv_at hl 1 rfl) ?_
    refine x_getN B hP 2 rfl rfl i_X0 3 (by decide) n_27 rfl dX1_end_44 ?_
    refine lv_iconst (v := 0) hx hb dX1_end_47 (by decide) ?_
    refine x_SNv (wr := [(oM, .inr (1, [.ref aS, .int (nI k), .int opn, .int end_, .int cmp_, .int dif])), (oK, .inr (0, [.ref aB, .ref aW, .ref aF, .ref aG, .ref aV, .int mde])), (aW, .inl (E.2.1, 176, .inl fW)), (aF, .inl (E.2.1, 16, .inl fF)), (aV, .inl (E.2.1, 16, .inl fV))]) (isC := [1, 5]) (isR := [0, 2, 3, 4, 6]) (As := [.ref aS, .ref aG, .int 0]) B (c_X2_xor l E aS aG 16 0 (upd fE k ((fE k) ^^^ 128)) fG 0 rfl (by omega) (by decide)) k_X2_xor n_209 s_X2_xor ⟨by decide, by decide, rfl, rfl⟩ hP hD hS ⟨rfl, rfl, rfl, rfl, by decide⟩ rfl hl.1 rfl (Nat.le_of_ble_eq_true rfl) dX1_end_48 ⟨by decide, by decide⟩ (fun H locs hP hD hS => ?_)
    have hP : va_P E.1 classes [(oM, .inr (1, [.ref aS, .int (nI k), .int opn, .int end_, .int cmp_, .int dif])), (oK, .inr (0, [.ref aB, .ref aW, .ref aF, .ref aG, .ref aV, .int mde])), (aW, .inl (E.2.1, 176, .inl fW)), (aF, .inl (E.2.1, 16, .inl fF)), (aV, .inl (E.2.1, 16, .inl fV)), (aS, .inl (E.2.1, 16, .inl (xorM fG 0 (upd fE k ((fE k) ^^^ 128)) 16))), (aG, .inl (E.2.1, 16, .inl fG))] _ := hP
    have hD : va_D A [(oM, .inr (1, [.ref aS, .int (nI k), .int opn, .int end_, .int cmp_, .int dif])), (oK, .inr (0, [.ref aB, .ref aW, .ref aF, .ref aG, .ref aV, .int mde])), (aW, .inl (E.2.1, 176, .inl fW)), (aF, .inl (E.2.1, 16, .inl fF)), (aV, .inl (E.2.1, 16, .inl fV)), (aS, .inl (E.2.1, 16, .inl (xorM fG 0 (upd fE k ((fE k) ^^^ 128)) 16))), (aG, .inl (E.2.1, 16, .inl fG))] := hD
    refine lv_aload_n hx hb dX1_end_51 rfl (lv_at hl 1 rfl) ?_
    refine lv_aload_n hx hb dX1_end_52 rfl (lv_at hl 0 rfl) ?_
    refine x_get B hP 0 rfl rfl i_X1 0 (by decide) g_52 rfl dX1_end_53 ?_
    refine x_Vv (wr := [(oM, .inr (1, [.ref aS, .int (nI k), .int opn, .int end_, .int cmp_, .int dif])), (aF, .inl (E.2.1, 16, .inl fF)), (aG, .inl (E.2.1, 16, .inl fG))]) (isC := [1, 2, 4, 5]) (isR := [0, 3, 6]) (As := [.ref aS]) B (c_X0_goForth l E oK aB aW aF aG aV aS fW (xorM fG 0 (upd fE k ((fE k) ^^^ 128)) 16) fV mde hW (xorM_by hG (By.upd ht.1 (By.xor (ht.1 k (by omega)) by_128)) 16 (by decide) (by omega)) ht.2.1) k_X0_goForth g_196 s_X0_goForth ⟨by decide, by decide, rfl, rfl⟩ rfl 1 rfl hP hD hS ⟨rfl, rfl, rfl, rfl, by decide⟩ rfl hl.1 rfl (Nat.le_of_ble_eq_true rfl) dX1_end_56 ⟨by decide, by decide⟩ (fun H locs hP hD hS => ?_)
    have hP : va_P E.1 classes [(oM, .inr (1, [.ref aS, .int (nI k), .int opn, .int end_, .int cmp_, .int dif])), (aF, .inl (E.2.1, 16, .inl fF)), (aG, .inl (E.2.1, 16, .inl fG)), (oK, .inr (0, [.ref aB, .ref aW, .ref aF, .ref aG, .ref aV, .int mde])), (aW, .inl (E.2.1, 176, .inl fW)), (aV, .inl (E.2.1, 16, .inl ((forM fW (xorM fG 0 (upd fE k ((fE k) ^^^ 128)) 16) fV 10).2))), (aS, .inl (E.2.1, 16, .inl ((forM fW (xorM fG 0 (upd fE k ((fE k) ^^^ 128)) 16) fV 10).1)))] _ := hP
    have hD : va_D A [(oM, .inr (1, [.ref aS, .int (nI k), .int opn, .int end_, .int cmp_, .int dif])), (aF, .inl (E.2.1, 16, .inl fF)), (aG, .inl (E.2.1, 16, .inl fG)), (oK, .inr (0, [.ref aB, .ref aW, .ref aF, .ref aG, .ref aV, .int mde])), (aW, .inl (E.2.1, 176, .inl fW)), (aV, .inl (E.2.1, 16, .inl ((forM fW (xorM fG 0 (upd fE k ((fE k) ^^^ 128)) 16) fV 10).2))), (aS, .inl (E.2.1, 16, .inl ((forM fW (xorM fG 0 (upd fE k ((fE k) ^^^ 128)) 16) fV 10).1)))] := hD
    refine lv_aload_n hx hb dX1_end_59 rfl (lv_at hl 0 rfl) ?_
    refine lv_iconst (v := 0) hx hb dX1_end_60 (by decide) ?_
    refine x_put B hP hD hS 0 rfl rfl i_X1 tyX1 tyX1_ok nmX1 2 (by decide) g_55 rfl rfl rfl (Nat.le_of_ble_eq_true rfl) dX1_end_61 (fun H locs hP hD hS => ?_)
    have hP : va_P E.1 classes [(oM, .inr (1, [.ref aS, .int (nI k), .int 0, .int end_, .int cmp_, .int dif])), (aF, .inl (E.2.1, 16, .inl fF)), (aG, .inl (E.2.1, 16, .inl fG)), (oK, .inr (0, [.ref aB, .ref aW, .ref aF, .ref aG, .ref aV, .int mde])), (aW, .inl (E.2.1, 176, .inl fW)), (aV, .inl (E.2.1, 16, .inl ((forM fW (xorM fG 0 (upd fE k ((fE k) ^^^ 128)) 16) fV 10).2))), (aS, .inl (E.2.1, 16, .inl ((forM fW (xorM fG 0 (upd fE k ((fE k) ^^^ 128)) 16) fV 10).1)))] _ := hP
    have hD : va_D A [(oM, .inr (1, [.ref aS, .int (nI k), .int 0, .int end_, .int cmp_, .int dif])), (aF, .inl (E.2.1, 16, .inl fF)), (aG, .inl (E.2.1, 16, .inl fG)), (oK, .inr (0, [.ref aB, .ref aW, .ref aF, .ref aG, .ref aV, .int mde])), (aW, .inl (E.2.1, 176, .inl fW)), (aV, .inl (E.2.1, 16, .inl ((forM fW (xorM fG 0 (upd fE k ((fE k) ^^^ 128)) 16) fV 10).2))), (aS, .inl (E.2.1, 16, .inl ((forM fW (xorM fG 0 (upd fE k ((fE k) ^^^ 128)) 16) fV 10).1)))] := hD
    refine lv_aload_n hx hb dX1_end_64 rfl (lv_at hl 0 rfl) ?_
    refine lv_iconst (v := 1) hx hb dX1_end_65 (by decide) ?_
    refine x_put B hP hD hS 0 rfl rfl i_X1 tyX1 tyX1_ok nmX1 3 (by decide) g_57 rfl rfl rfl (Nat.le_of_ble_eq_true rfl) dX1_end_66 (fun H locs hP hD hS => ?_)
    have hP : va_P E.1 classes [(oM, .inr (1, [.ref aS, .int (nI k), .int 0, .int 1, .int cmp_, .int dif])), (aF, .inl (E.2.1, 16, .inl fF)), (aG, .inl (E.2.1, 16, .inl fG)), (oK, .inr (0, [.ref aB, .ref aW, .ref aF, .ref aG, .ref aV, .int mde])), (aW, .inl (E.2.1, 176, .inl fW)), (aV, .inl (E.2.1, 16, .inl ((forM fW (xorM fG 0 (upd fE k ((fE k) ^^^ 128)) 16) fV 10).2))), (aS, .inl (E.2.1, 16, .inl ((forM fW (xorM fG 0 (upd fE k ((fE k) ^^^ 128)) 16) fV 10).1)))] _ := hP
    have hD : va_D A [(oM, .inr (1, [.ref aS, .int (nI k), .int 0, .int 1, .int cmp_, .int dif])), (aF, .inl (E.2.1, 16, .inl fF)), (aG, .inl (E.2.1, 16, .inl fG)), (oK, .inr (0, [.ref aB, .ref aW, .ref aF, .ref aG, .ref aV, .int mde])), (aW, .inl (E.2.1, 176, .inl fW)), (aV, .inl (E.2.1, 16, .inl ((forM fW (xorM fG 0 (upd fE k ((fE k) ^^^ 128)) 16) fV 10).2))), (aS, .inl (E.2.1, 16, .inl ((forM fW (xorM fG 0 (upd fE k ((fE k) ^^^ 128)) 16) fV 10).1)))] := hD
    refine lv_aload_n hx hb dX1_end_69 rfl (lv_at hl 0 rfl) ?_
    refine lv_iconst (v := 0) hx hb dX1_end_70 (by decide) ?_
    refine x_put B hP hD hS 0 rfl rfl i_X1 tyX1 tyX1_ok nmX1 4 (by decide) g_59 rfl rfl rfl (Nat.le_of_ble_eq_true rfl) dX1_end_71 (fun H locs hP hD hS => ?_)
    have hP : va_P E.1 classes [(oM, .inr (1, [.ref aS, .int (nI k), .int 0, .int 1, .int 0, .int dif])), (aF, .inl (E.2.1, 16, .inl fF)), (aG, .inl (E.2.1, 16, .inl fG)), (oK, .inr (0, [.ref aB, .ref aW, .ref aF, .ref aG, .ref aV, .int mde])), (aW, .inl (E.2.1, 176, .inl fW)), (aV, .inl (E.2.1, 16, .inl ((forM fW (xorM fG 0 (upd fE k ((fE k) ^^^ 128)) 16) fV 10).2))), (aS, .inl (E.2.1, 16, .inl ((forM fW (xorM fG 0 (upd fE k ((fE k) ^^^ 128)) 16) fV 10).1)))] _ := hP
    have hD : va_D A [(oM, .inr (1, [.ref aS, .int (nI k), .int 0, .int 1, .int 0, .int dif])), (aF, .inl (E.2.1, 16, .inl fF)), (aG, .inl (E.2.1, 16, .inl fG)), (oK, .inr (0, [.ref aB, .ref aW, .ref aF, .ref aG, .ref aV, .int mde])), (aW, .inl (E.2.1, 176, .inl fW)), (aV, .inl (E.2.1, 16, .inl ((forM fW (xorM fG 0 (upd fE k ((fE k) ^^^ 128)) 16) fV 10).2))), (aS, .inl (E.2.1, 16, .inl ((forM fW (xorM fG 0 (upd fE k ((fE k) ^^^ 128)) 16) fV 10).1)))] := hD
    refine lv_aload_n hx hb dX1_end_74 rfl (lv_at hl 0 rfl) ?_
    refine lv_iconst (v := 0) hx hb dX1_end_75 (by decide) ?_
    refine x_put B hP hD hS 0 rfl rfl i_X1 tyX1 tyX1_ok nmX1 5 (by decide) g_61 rfl rfl rfl (Nat.le_of_ble_eq_true rfl) dX1_end_76 (fun H locs hP hD hS => ?_)
    have hP : va_P E.1 classes [(oM, .inr (1, [.ref aS, .int (nI k), .int 0, .int 1, .int 0, .int 0])), (aF, .inl (E.2.1, 16, .inl fF)), (aG, .inl (E.2.1, 16, .inl fG)), (oK, .inr (0, [.ref aB, .ref aW, .ref aF, .ref aG, .ref aV, .int mde])), (aW, .inl (E.2.1, 176, .inl fW)), (aV, .inl (E.2.1, 16, .inl ((forM fW (xorM fG 0 (upd fE k ((fE k) ^^^ 128)) 16) fV 10).2))), (aS, .inl (E.2.1, 16, .inl ((forM fW (xorM fG 0 (upd fE k ((fE k) ^^^ 128)) 16) fV 10).1)))] _ := hP
    have hD : va_D A [(oM, .inr (1, [.ref aS, .int (nI k), .int 0, .int 1, .int 0, .int 0])), (aF, .inl (E.2.1, 16, .inl fF)), (aG, .inl (E.2.1, 16, .inl fG)), (oK, .inr (0, [.ref aB, .ref aW, .ref aF, .ref aG, .ref aV, .int mde])), (aW, .inl (E.2.1, 176, .inl fW)), (aV, .inl (E.2.1, 16, .inl ((forM fW (xorM fG 0 (upd fE k ((fE k) ^^^ 128)) 16) fV 10).2))), (aS, .inl (E.2.1, 16, .inl ((forM fW (xorM fG 0 (upd fE k ((fE k) ^^^ 128)) 16) fV 10).1)))] := hD
    have hP := hP.sub (ws' := [(oM, .inr (1, [.ref aS, .int (nI k), .int 0, .int 1, .int 0, .int 0])), (aS, .inl (E.2.1, 16, .inl ((forM fW (xorM fG 0 (upd fE k ((fE k) ^^^ 128)) 16) fV 10).1))), (oK, .inr (0, [.ref aB, .ref aW, .ref aF, .ref aG, .ref aV, .int mde])), (aW, .inl (E.2.1, 176, .inl fW)), (aF, .inl (E.2.1, 16, .inl fF)), (aG, .inl (E.2.1, 16, .inl fG)), (aV, .inl (E.2.1, 16, .inl ((forM fW (xorM fG 0 (upd fE k ((fE k) ^^^ 128)) 16) fV 10).2)))]) [0, 6, 3, 4, 1, 2, 5] rfl
    have hD := hD.sub (ws' := [(oM, .inr (1, [.ref aS, .int (nI k), .int 0, .int 1, .int 0, .int 0])), (aS, .inl (E.2.1, 16, .inl ((forM fW (xorM fG 0 (upd fE k ((fE k) ^^^ 128)) 16) fV 10).1))), (oK, .inr (0, [.ref aB, .ref aW, .ref aF, .ref aG, .ref aV, .int mde])), (aW, .inl (E.2.1, 176, .inl fW)), (aF, .inl (E.2.1, 16, .inl fF)), (aG, .inl (E.2.1, 16, .inl fG)), (aV, .inl (E.2.1, 16, .inl ((forM fW (xorM fG 0 (upd fE k ((fE k) ^^^ 128)) 16) fV 10).2)))]) [0, 6, 3, 4, 1, 2, 5] (by decide) rfl
    have hP : va_P E.1 classes [(oM, .inr (1, [.ref aS, .int (nI k), .int 0, .int 1, .int 0, .int 0])), (aS, .inl (E.2.1, 16, .inl ((enM fW fF fG (fE, fV, k)).1))), (oK, .inr (0, [.ref aB, .ref aW, .ref aF, .ref aG, .ref aV, .int mde])), (aW, .inl (E.2.1, 176, .inl fW)), (aF, .inl (E.2.1, 16, .inl fF)), (aG, .inl (E.2.1, 16, .inl fG)), (aV, .inl (E.2.1, 16, .inl ((enM fW fF fG (fE, fV, k)).2)))] _ := (by rw [eF]; exact hP)
    have hD : va_D A [(oM, .inr (1, [.ref aS, .int (nI k), .int 0, .int 1, .int 0, .int 0])), (aS, .inl (E.2.1, 16, .inl ((enM fW fF fG (fE, fV, k)).1))), (oK, .inr (0, [.ref aB, .ref aW, .ref aF, .ref aG, .ref aV, .int mde])), (aW, .inl (E.2.1, 176, .inl fW)), (aF, .inl (E.2.1, 16, .inl fF)), (aG, .inl (E.2.1, 16, .inl fG)), (aV, .inl (E.2.1, 16, .inl ((enM fW fF fG (fE, fV, k)).2)))] := (by rw [eF]; exact hD)
    exact x_vret B hP hD hS dX1_end_79
  · have hk : k = 16 := (nI_eq (b := 16) (by have h3 : k ≤ 16 := ht.2.2; omega) (by decide)).mp c_6
    have eF : enM fW fF fG (fE, fV, k) = forM fW (xorM fF 0 fE 16) fV 10 := if_pos hk
    refine lv_aload_n hx hb dX1_end_9 rfl (lv_at hl 0 rfl) ?_
    refine x_get B hP 0 rfl rfl i_X1 0 (by decide) g_52 rfl dX1_end_10 ?_
    refine lv_aload_n hx hb dX1_end_13 rfl (lv_at hl 1 rfl) ?_
    refine x_getN B hP 2 rfl rfl i_X0 2 (by decide) n_24 rfl dX1_end_14 ?_
    refine lv_iconst (v := 0) hx hb dX1_end_17 (by decide) ?_
    refine x_SNv (wr := [(oM, .inr (1, [.ref aS, .int (nI k), .int opn, .int end_, .int cmp_, .int dif])), (oK, .inr (0, [.ref aB, .ref aW, .ref aF, .ref aG, .ref aV, .int mde])), (aW, .inl (E.2.1, 176, .inl fW)), (aG, .inl (E.2.1, 16, .inl fG)), (aV, .inl (E.2.1, 16, .inl fV))]) (isC := [1, 4]) (isR := [0, 2, 3, 5, 6]) (As := [.ref aS, .ref aF, .int 0]) B (c_X2_xor l E aS aF 16 0 fE fF 0 rfl (by omega) (by decide)) k_X2_xor n_209 s_X2_xor ⟨by decide, by decide, rfl, rfl⟩ hP hD hS ⟨rfl, rfl, rfl, rfl, by decide⟩ rfl hl.1 rfl (Nat.le_of_ble_eq_true rfl) dX1_end_18 ⟨by decide, by decide⟩ (fun H locs hP hD hS => ?_)
    have hP : va_P E.1 classes [(oM, .inr (1, [.ref aS, .int (nI k), .int opn, .int end_, .int cmp_, .int dif])), (oK, .inr (0, [.ref aB, .ref aW, .ref aF, .ref aG, .ref aV, .int mde])), (aW, .inl (E.2.1, 176, .inl fW)), (aG, .inl (E.2.1, 16, .inl fG)), (aV, .inl (E.2.1, 16, .inl fV)), (aS, .inl (E.2.1, 16, .inl (xorM fF 0 fE 16))), (aF, .inl (E.2.1, 16, .inl fF))] _ := hP
    have hD : va_D A [(oM, .inr (1, [.ref aS, .int (nI k), .int opn, .int end_, .int cmp_, .int dif])), (oK, .inr (0, [.ref aB, .ref aW, .ref aF, .ref aG, .ref aV, .int mde])), (aW, .inl (E.2.1, 176, .inl fW)), (aG, .inl (E.2.1, 16, .inl fG)), (aV, .inl (E.2.1, 16, .inl fV)), (aS, .inl (E.2.1, 16, .inl (xorM fF 0 fE 16))), (aF, .inl (E.2.1, 16, .inl fF))] := hD
    refine lv_goto (tgt := 51) hx hb dX1_end_21 (by decide) ?_
    refine lv_aload_n hx hb dX1_end_51 rfl (lv_at hl 1 rfl) ?_
    refine lv_aload_n hx hb dX1_end_52 rfl (lv_at hl 0 rfl) ?_
    refine x_get B hP 0 rfl rfl i_X1 0 (by decide) g_52 rfl dX1_end_53 ?_
    refine x_Vv (wr := [(oM, .inr (1, [.ref aS, .int (nI k), .int opn, .int end_, .int cmp_, .int dif])), (aG, .inl (E.2.1, 16, .inl fG)), (aF, .inl (E.2.1, 16, .inl fF))]) (isC := [1, 2, 4, 5]) (isR := [0, 3, 6]) (As := [.ref aS]) B (c_X0_goForth l E oK aB aW aF aG aV aS fW (xorM fF 0 fE 16) fV mde hW (xorM_by hF ht.1 16 (by decide) (by omega)) ht.2.1) k_X0_goForth g_196 s_X0_goForth ⟨by decide, by decide, rfl, rfl⟩ rfl 1 rfl hP hD hS ⟨rfl, rfl, rfl, rfl, by decide⟩ rfl hl.1 rfl (Nat.le_of_ble_eq_true rfl) dX1_end_56 ⟨by decide, by decide⟩ (fun H locs hP hD hS => ?_)
    have hP : va_P E.1 classes [(oM, .inr (1, [.ref aS, .int (nI k), .int opn, .int end_, .int cmp_, .int dif])), (aG, .inl (E.2.1, 16, .inl fG)), (aF, .inl (E.2.1, 16, .inl fF)), (oK, .inr (0, [.ref aB, .ref aW, .ref aF, .ref aG, .ref aV, .int mde])), (aW, .inl (E.2.1, 176, .inl fW)), (aV, .inl (E.2.1, 16, .inl ((forM fW (xorM fF 0 fE 16) fV 10).2))), (aS, .inl (E.2.1, 16, .inl ((forM fW (xorM fF 0 fE 16) fV 10).1)))] _ := hP
    have hD : va_D A [(oM, .inr (1, [.ref aS, .int (nI k), .int opn, .int end_, .int cmp_, .int dif])), (aG, .inl (E.2.1, 16, .inl fG)), (aF, .inl (E.2.1, 16, .inl fF)), (oK, .inr (0, [.ref aB, .ref aW, .ref aF, .ref aG, .ref aV, .int mde])), (aW, .inl (E.2.1, 176, .inl fW)), (aV, .inl (E.2.1, 16, .inl ((forM fW (xorM fF 0 fE 16) fV 10).2))), (aS, .inl (E.2.1, 16, .inl ((forM fW (xorM fF 0 fE 16) fV 10).1)))] := hD
    refine lv_aload_n hx hb dX1_end_59 rfl (lv_at hl 0 rfl) ?_
    refine lv_iconst (v := 0) hx hb dX1_end_60 (by decide) ?_
    refine x_put B hP hD hS 0 rfl rfl i_X1 tyX1 tyX1_ok nmX1 2 (by decide) g_55 rfl rfl rfl (Nat.le_of_ble_eq_true rfl) dX1_end_61 (fun H locs hP hD hS => ?_)
    have hP : va_P E.1 classes [(oM, .inr (1, [.ref aS, .int (nI k), .int 0, .int end_, .int cmp_, .int dif])), (aG, .inl (E.2.1, 16, .inl fG)), (aF, .inl (E.2.1, 16, .inl fF)), (oK, .inr (0, [.ref aB, .ref aW, .ref aF, .ref aG, .ref aV, .int mde])), (aW, .inl (E.2.1, 176, .inl fW)), (aV, .inl (E.2.1, 16, .inl ((forM fW (xorM fF 0 fE 16) fV 10).2))), (aS, .inl (E.2.1, 16, .inl ((forM fW (xorM fF 0 fE 16) fV 10).1)))] _ := hP
    have hD : va_D A [(oM, .inr (1, [.ref aS, .int (nI k), .int 0, .int end_, .int cmp_, .int dif])), (aG, .inl (E.2.1, 16, .inl fG)), (aF, .inl (E.2.1, 16, .inl fF)), (oK, .inr (0, [.ref aB, .ref aW, .ref aF, .ref aG, .ref aV, .int mde])), (aW, .inl (E.2.1, 176, .inl fW)), (aV, .inl (E.2.1, 16, .inl ((forM fW (xorM fF 0 fE 16) fV 10).2))), (aS, .inl (E.2.1, 16, .inl ((forM fW (xorM fF 0 fE 16) fV 10).1)))] := hD
    refine lv_aload_n hx hb dX1_end_64 rfl (lv_at hl 0 rfl) ?_
    refine lv_iconst (v := 1) hx hb dX1_end_65 (by decide) ?_
    refine x_put B hP hD hS 0 rfl rfl i_X1 tyX1 tyX1_ok nmX1 3 (by decide) g_57 rfl rfl rfl (Nat.le_of_ble_eq_true rfl) dX1_end_66 (fun H locs hP hD hS => ?_)
    have hP : va_P E.1 classes [(oM, .inr (1, [.ref aS, .int (nI k), .int 0, .int 1, .int cmp_, .int dif])), (aG, .inl (E.2.1, 16, .inl fG)), (aF, .inl (E.2.1, 16, .inl fF)), (oK, .inr (0, [.ref aB, .ref aW, .ref aF, .ref aG, .ref aV, .int mde])), (aW, .inl (E.2.1, 176, .inl fW)), (aV, .inl (E.2.1, 16, .inl ((forM fW (xorM fF 0 fE 16) fV 10).2))), (aS, .inl (E.2.1, 16, .inl ((forM fW (xorM fF 0 fE 16) fV 10).1)))] _ := hP
    have hD : va_D A [(oM, .inr (1, [.ref aS, .int (nI k), .int 0, .int 1, .int cmp_, .int dif])), (aG, .inl (E.2.1, 16, .inl fG)), (aF, .inl (E.2.1, 16, .inl fF)), (oK, .inr (0, [.ref aB, .ref aW, .ref aF, .ref aG, .ref aV, .int mde])), (aW, .inl (E.2.1, 176, .inl fW)), (aV, .inl (E.2.1, 16, .inl ((forM fW (xorM fF 0 fE 16) fV 10).2))), (aS, .inl (E.2.1, 16, .inl ((forM fW (xorM fF 0 fE 16) fV 10).1)))] := hD
    refine lv_aload_n hx hb dX1_end_69 rfl (lv_at hl 0 rfl) ?_
    refine lv_iconst (v := 0) hx hb dX1_end_70 (by decide) ?_
    refine x_put B hP hD hS 0 rfl rfl i_X1 tyX1 tyX1_ok nmX1 4 (by decide) g_59 rfl rfl rfl (Nat.le_of_ble_eq_true rfl) dX1_end_71 (fun H locs hP hD hS => ?_)
    have hP : va_P E.1 classes [(oM, .inr (1, [.ref aS, .int (nI k), .int 0, .int 1, .int 0, .int dif])), (aG, .inl (E.2.1, 16, .inl fG)), (aF, .inl (E.2.1, 16, .inl fF)), (oK, .inr (0, [.ref aB, .ref aW, .ref aF, .ref aG, .ref aV, .int mde])), (aW, .inl (E.2.1, 176, .inl fW)), (aV, .inl (E.2.1, 16, .inl ((forM fW (xorM fF 0 fE 16) fV 10).2))), (aS, .inl (E.2.1, 16, .inl ((forM fW (xorM fF 0 fE 16) fV 10).1)))] _ := hP
    have hD : va_D A [(oM, .inr (1, [.ref aS, .int (nI k), .int 0, .int 1, .int 0, .int dif])), (aG, .inl (E.2.1, 16, .inl fG)), (aF, .inl (E.2.1, 16, .inl fF)), (oK, .inr (0, [.ref aB, .ref aW, .ref aF, .ref aG, .ref aV, .int mde])), (aW, .inl (E.2.1, 176, .inl fW)), (aV, .inl (E.2.1, 16, .inl ((forM fW (xorM fF 0 fE 16) fV 10).2))), (aS, .inl (E.2.1, 16, .inl ((forM fW (xorM fF 0 fE 16) fV 10).1)))] := hD
    refine lv_aload_n hx hb dX1_end_74 rfl (lv_at hl 0 rfl) ?_
    refine lv_iconst (v := 0) hx hb dX1_end_75 (by decide) ?_
    refine x_put B hP hD hS 0 rfl rfl i_X1 tyX1 tyX1_ok nmX1 5 (by decide) g_61 rfl rfl rfl (Nat.le_of_ble_eq_true rfl) dX1_end_76 (fun H locs hP hD hS => ?_)
    have hP : va_P E.1 classes [(oM, .inr (1, [.ref aS, .int (nI k), .int 0, .int 1, .int 0, .int 0])), (aG, .inl (E.2.1, 16, .inl fG)), (aF, .inl (E.2.1, 16, .inl fF)), (oK, .inr (0, [.ref aB, .ref aW, .ref aF, .ref aG, .ref aV, .int mde])), (aW, .inl (E.2.1, 176, .inl fW)), (aV, .inl (E.2.1, 16, .inl ((forM fW (xorM fF 0 fE 16) fV 10).2))), (aS, .inl (E.2.1, 16, .inl ((forM fW (xorM fF 0 fE 16) fV 10).1)))] _ := hP
    have hD : va_D A [(oM, .inr (1, [.ref aS, .int (nI k), .int 0, .int 1, .int 0, .int 0])), (aG, .inl (E.2.1, 16, .inl fG)), (aF, .inl (E.2.1, 16, .inl fF)), (oK, .inr (0, [.ref aB, .ref aW, .ref aF, .ref aG, .ref aV, .int mde])), (aW, .inl (E.2.1, 176, .inl fW)), (aV, .inl (E.2.1, 16, .inl ((forM fW (xorM fF 0 fE 16) fV 10).2))), (aS, .inl (E.2.1, 16, .inl ((forM fW (xorM fF 0 fE 16) fV 10).1)))] := hD
    have hP := hP.sub (ws' := [(oM, .inr (1, [.ref aS, .int (nI k), .int 0, .int 1, .int 0, .int 0])), (aS, .inl (E.2.1, 16, .inl ((forM fW (xorM fF 0 fE 16) fV 10).1))), (oK, .inr (0, [.ref aB, .ref aW, .ref aF, .ref aG, .ref aV, .int mde])), (aW, .inl (E.2.1, 176, .inl fW)), (aF, .inl (E.2.1, 16, .inl fF)), (aG, .inl (E.2.1, 16, .inl fG)), (aV, .inl (E.2.1, 16, .inl ((forM fW (xorM fF 0 fE 16) fV 10).2)))]) [0, 6, 3, 4, 2, 1, 5] rfl
    have hD := hD.sub (ws' := [(oM, .inr (1, [.ref aS, .int (nI k), .int 0, .int 1, .int 0, .int 0])), (aS, .inl (E.2.1, 16, .inl ((forM fW (xorM fF 0 fE 16) fV 10).1))), (oK, .inr (0, [.ref aB, .ref aW, .ref aF, .ref aG, .ref aV, .int mde])), (aW, .inl (E.2.1, 176, .inl fW)), (aF, .inl (E.2.1, 16, .inl fF)), (aG, .inl (E.2.1, 16, .inl fG)), (aV, .inl (E.2.1, 16, .inl ((forM fW (xorM fF 0 fE 16) fV 10).2)))]) [0, 6, 3, 4, 2, 1, 5] (by decide) rfl
    have hP : va_P E.1 classes [(oM, .inr (1, [.ref aS, .int (nI k), .int 0, .int 1, .int 0, .int 0])), (aS, .inl (E.2.1, 16, .inl ((enM fW fF fG (fE, fV, k)).1))), (oK, .inr (0, [.ref aB, .ref aW, .ref aF, .ref aG, .ref aV, .int mde])), (aW, .inl (E.2.1, 176, .inl fW)), (aF, .inl (E.2.1, 16, .inl fF)), (aG, .inl (E.2.1, 16, .inl fG)), (aV, .inl (E.2.1, 16, .inl ((enM fW fF fG (fE, fV, k)).2)))] _ := (by rw [eF]; exact hP)
    have hD : va_D A [(oM, .inr (1, [.ref aS, .int (nI k), .int 0, .int 1, .int 0, .int 0])), (aS, .inl (E.2.1, 16, .inl ((enM fW fF fG (fE, fV, k)).1))), (oK, .inr (0, [.ref aB, .ref aW, .ref aF, .ref aG, .ref aV, .int mde])), (aW, .inl (E.2.1, 176, .inl fW)), (aF, .inl (E.2.1, 16, .inl fF)), (aG, .inl (E.2.1, 16, .inl fG)), (aV, .inl (E.2.1, 16, .inl ((enM fW fF fG (fE, fV, k)).2)))] := (by rw [eF]; exact hD)
    exact x_vret B hP hD hS dX1_end_79
set_option maxHeartbeats 4000000 in
set_option maxRecDepth 100000 in
/-- compare -/
theorem c_X1_compare (l : Launch) (E : EE) (oM aS : Nat) (fE : Nat → Int32) (fil opn end_ cmp_ dif : Int32) (k : Nat) (v x : Int32) (hv : v = nI k) (hk : k < 16) : Cv l yX1_compare (.code yX1_compare cX1_compare 3 none) ({ frames := 0, cells := 0, slots := 0, locals := 0 }) E [.ref oM, .int v, .int x] [(oM, .inr (1, [.ref aS, .int fil, .int opn, .int end_, .int cmp_, .int dif])), (aS, .inl (E.2.1, 16, .inl fE))] [(oM, .inr (1, [.ref aS, .int fil, .int opn, .int end_, .int (cmp_ ||| ((1 : Int32) <<< (v &&& 31))), .int (if fE k = x then dif else 1)])), (aS, .inl (E.2.1, 16, .inl fE))] := by
  refine Cv.of (by decide) (Nat.le_of_ble_eq_true rfl) ?_
  intro p e s m below meth c A ls B hP hD hS hl
  have hl : lv_has ls 3 [(0, .ref oM), (1, .int v), (2, .int x)] := hl
  have B : Bd p s m _ meth c cX1_compare 3 none RX1 E A := B
  have hx := B.1
  have hb := B.2.1
  have hP : va_P E.1 classes [(oM, .inr (1, [.ref aS, .int fil, .int opn, .int end_, .int cmp_, .int dif])), (aS, .inl (E.2.1, 16, .inl fE))] _ := hP
  have hD : va_D A [(oM, .inr (1, [.ref aS, .int fil, .int opn, .int end_, .int cmp_, .int dif])), (aS, .inl (E.2.1, 16, .inl fE))] := hD
  refine lv_aload_n hx hb dX1_compare_0 rfl (lv_at hl 0 rfl) ?_
  refine lv_dup hx hb dX1_compare_1 rfl ?_
  refine x_get B hP 0 rfl rfl i_X1 4 (by decide) g_59 rfl dX1_compare_2 ?_
  refine lv_iconst (v := 1) hx hb dX1_compare_5 (by decide) ?_
  refine lv_iload_n hx hb dX1_compare_6 rfl (lv_at hl 1 rfl) ?_
  refine lv_ishl hx hb dX1_compare_7 ?_
  refine lv_ior hx hb dX1_compare_8 ?_
  refine x_put B hP hD hS 0 rfl rfl i_X1 tyX1 tyX1_ok nmX1 4 (by decide) g_59 rfl rfl rfl (Nat.le_of_ble_eq_true rfl) dX1_compare_9 (fun H locs hP hD hS => ?_)
  have hP : va_P E.1 classes [(oM, .inr (1, [.ref aS, .int fil, .int opn, .int end_, .int (cmp_ ||| (1 <<< ((v : Int32) &&& 31))), .int dif])), (aS, .inl (E.2.1, 16, .inl fE))] _ := hP
  have hD : va_D A [(oM, .inr (1, [.ref aS, .int fil, .int opn, .int end_, .int (cmp_ ||| (1 <<< ((v : Int32) &&& 31))), .int dif])), (aS, .inl (E.2.1, 16, .inl fE))] := hD
  refine lv_aload_n hx hb dX1_compare_12 rfl (lv_at hl 0 rfl) ?_
  refine x_get B hP 0 rfl rfl i_X1 0 (by decide) g_52 rfl dX1_compare_13 ?_
  refine lv_iload_n hx hb dX1_compare_16 rfl (lv_at hl 1 rfl) ?_
  refine x_ald B hP 1 rfl k hv (by omega) (by decide) dX1_compare_17 ?_
  refine lv_iload_n hx hb dX1_compare_18 rfl (lv_at hl 2 rfl) ?_
  refine lv_icmp_eq (tgt := 27) hx hb dX1_compare_19 (by decide) (fun c_19 => ?_) (fun c_19 => ?_)
  · have eF : (if fE k = x then dif else 1) = dif := if_pos c_19
    have hP : va_P E.1 classes [(oM, .inr (1, [.ref aS, .int fil, .int opn, .int end_, .int (cmp_ ||| ((1 : Int32) <<< (v &&& 31))), .int (if fE k = x then dif else 1)])), (aS, .inl (E.2.1, 16, .inl fE))] _ := (by rw [eF]; exact hP)
    have hD : va_D A [(oM, .inr (1, [.ref aS, .int fil, .int opn, .int end_, .int (cmp_ ||| ((1 : Int32) <<< (v &&& 31))), .int (if fE k = x then dif else 1)])), (aS, .inl (E.2.1, 16, .inl fE))] := (by rw [eF]; exact hD)
    exact x_vret B hP hD hS dX1_compare_27
  · have eF : (if fE k = x then dif else 1) = 1 := if_neg c_19
    refine lv_aload_n hx hb dX1_compare_22 rfl (lv_at hl 0 rfl) ?_
    refine lv_iconst (v := 1) hx hb dX1_compare_23 (by decide) ?_
    refine x_put B hP hD hS 0 rfl rfl i_X1 tyX1 tyX1_ok nmX1 5 (by decide) g_61 rfl rfl rfl (Nat.le_of_ble_eq_true rfl) dX1_compare_24 (fun H locs hP hD hS => ?_)
    have hP : va_P E.1 classes [(oM, .inr (1, [.ref aS, .int fil, .int opn, .int end_, .int (cmp_ ||| (1 <<< ((v : Int32) &&& 31))), .int 1])), (aS, .inl (E.2.1, 16, .inl fE))] _ := hP
    have hD : va_D A [(oM, .inr (1, [.ref aS, .int fil, .int opn, .int end_, .int (cmp_ ||| (1 <<< ((v : Int32) &&& 31))), .int 1])), (aS, .inl (E.2.1, 16, .inl fE))] := hD
    have hP : va_P E.1 classes [(oM, .inr (1, [.ref aS, .int fil, .int opn, .int end_, .int (cmp_ ||| ((1 : Int32) <<< (v &&& 31))), .int (if fE k = x then dif else 1)])), (aS, .inl (E.2.1, 16, .inl fE))] _ := (by rw [eF]; exact hP)
    have hD : va_D A [(oM, .inr (1, [.ref aS, .int fil, .int opn, .int end_, .int (cmp_ ||| ((1 : Int32) <<< (v &&& 31))), .int (if fE k = x then dif else 1)])), (aS, .inl (E.2.1, 16, .inl fE))] := (by rw [eF]; exact hD)
    exact x_vret B hP hD hS dX1_compare_27
theorem pl_yes {v : Int32} {k : Nat} (hv : v = nI k) (hk : k < 16) : plM v = 1 := by
  subst hv
  unfold plM
  rw [if_neg (nI_pos (by omega)), if_neg (fun h => by have := ge_t (b := 16) h (by omega) (by decide); omega)]
theorem pl_ex {v : Int32} (h : ¬ plM v = 0) : ∃ k : Nat, k < 16 ∧ v = nI k := by
  unfold plM at h
  by_cases h1 : v < 0
  · rw [if_pos h1] at h; exact absurd rfl h
  · rw [if_neg h1] at h
    by_cases h2 : 16 ≤ v
    · rw [if_pos h2] at h; exact absurd rfl h
    · obtain ⟨j, hj, e⟩ := nI_of h1
      exact ⟨j, by subst e; exact ge_f (b := 16) h2 hj (by decide), e⟩
theorem by_yes {v : Int32} (hv : By v) : byM v = 1 := by
  obtain ⟨j, hj, rfl⟩ := hv.ex
  unfold byM
  rw [if_neg (nI_pos (by omega)), if_neg (fun h => by have := lt_t (a := 255) h (by decide) (by omega); omega)]
theorem by_ex {v : Int32} (h : ¬ byM v = 0) : By v := by
  unfold byM at h
  by_cases h1 : v < 0
  · rw [if_pos h1] at h; exact absurd rfl h
  · rw [if_neg h1] at h
    by_cases h2 : 255 < v
    · rw [if_pos h2] at h; exact absurd rfl h
    · obtain ⟨j, hj, e⟩ := nI_of h1
      subst e
      exact By.of (by have := lt_f (a := 255) h2 (by decide) hj; omega)
theorem one_ne {x : Int32} (h : x = 1) : ¬ x = 0 := by rw [h]; decide
set_option maxHeartbeats 4000000 in
set_option maxRecDepth 100000 in
/-- setKeyByte -/
theorem c_X2_setKeyByte_yes (l : Launch) (E : EE) (o oK oM aB aW aF aG aV aS aO aP aQ : Nat) (fB fW fF fG fV fE fO fP fQ : Nat → Int32) (mde fil opn end_ cmp_ dif rdy : Int32) (k : Nat) (p0 : Int32) (hv : p0 = nI k) (hk : k < 16) (p1 : Int32) (hby : By p1) (hr : ¬ rdy = 0)   : Ci l yX2_setKeyByte (.code yX2_setKeyByte cX2_setKeyByte 3 (some .boolean)) ({ frames := 1, cells := 0, slots := 0, locals := 22 }) E [.ref o, .int p0, .int p1] 1 [(o, .inr (2, [.ref oK, .ref oM, .ref aO, .ref aP, .ref aQ, .int rdy])), (oK, .inr (0, [.ref aB, .ref aW, .ref aF, .ref aG, .ref aV, .int mde])), (oM, .inr (1, [.ref aS, .int fil, .int opn, .int end_, .int cmp_, .int dif])), (aB, .inl (E.2.1, 16, .inl fB)), (aW, .inl (E.2.1, 176, .inl fW)), (aF, .inl (E.2.1, 16, .inl fF)), (aG, .inl (E.2.1, 16, .inl fG)), (aV, .inl (E.2.1, 16, .inl fV)), (aS, .inl (E.2.1, 16, .inl fE)), (aO, .inl (E.2.1, 16, .inl fO)), (aP, .inl (E.2.1, 16, .inl fP)), (aQ, .inl (E.2.1, 16, .inl fQ))] [(o, .inr (2, [.ref oK, .ref oM, .ref aO, .ref aP, .ref aQ, .int rdy])), (oK, .inr (0, [.ref aB, .ref aW, .ref aF, .ref aG, .ref aV, .int 0])), (oM, .inr (1, [.ref aS, .int fil, .int 0, .int 0, .int cmp_, .int dif])), (aB, .inl (E.2.1, 16, .inl (upd fB k p1))), (aW, .inl (E.2.1, 176, .inl fW)), (aF, .inl (E.2.1, 16, .inl fF)), (aG, .inl (E.2.1, 16, .inl fG)), (aV, .inl (E.2.1, 16, .inl fV)), (aS, .inl (E.2.1, 16, .inl fE)), (aO, .inl (E.2.1, 16, .inl fO)), (aP, .inl (E.2.1, 16, .inl fP)), (aQ, .inl (E.2.1, 16, .inl fQ))] := by
  refine Ci.of (by decide) (Nat.le_of_ble_eq_true rfl) ?_
  intro p e s m below meth c A ls B hP hD hS hl
  have hl : lv_has ls 3 [(0, .ref o), (1, .int p0), (2, .int p1)] := hl
  have B : Bd p s m _ meth c cX2_setKeyByte 3 (some .boolean) RX2 E A := B
  have hx := B.1
  have hb := B.2.1
  have hP : va_P E.1 classes [(o, .inr (2, [.ref oK, .ref oM, .ref aO, .ref aP, .ref aQ, .int rdy])), (oK, .inr (0, [.ref aB, .ref aW, .ref aF, .ref aG, .ref aV, .int mde])), (oM, .inr (1, [.ref aS, .int fil, .int opn, .int end_, .int cmp_, .int dif])), (aB, .inl (E.2.1, 16, .inl fB)), (aW, .inl (E.2.1, 176, .inl fW)), (aF, .inl (E.2.1, 16, .inl fF)), (aG, .inl (E.2.1, 16, .inl fG)), (aV, .inl (E.2.1, 16, .inl fV)), (aS, .inl (E.2.1, 16, .inl fE)), (aO, .inl (E.2.1, 16, .inl fO)), (aP, .inl (E.2.1, 16, .inl fP)), (aQ, .inl (E.2.1, 16, .inl fQ))] _ := hP
  have hD : va_D A [(o, .inr (2, [.ref oK, .ref oM, .ref aO, .ref aP, .ref aQ, .int rdy])), (oK, .inr (0, [.ref aB, .ref aW, .ref aF, .ref aG, .ref aV, .int mde])), (oM, .inr (1, [.ref aS, .int fil, .int opn, .int end_, .int cmp_, .int dif])), (aB, .inl (E.2.1, 16, .inl fB)), (aW, .inl (E.2.1, 176, .inl fW)), (aF, .inl (E.2.1, 16, .inl fF)), (aG, .inl (E.2.1, 16, .inl fG)), (aV, .inl (E.2.1, 16, .inl fV)), (aS, .inl (E.2.1, 16, .inl fE)), (aO, .inl (E.2.1, 16, .inl fO)), (aP, .inl (E.2.1, 16, .inl fP)), (aQ, .inl (E.2.1, 16, .inl fQ))] := hD
  have h1 : ¬ plM p0 = 0 := one_ne (pl_yes hv hk)
  have h2 : ¬ byM p1 = 0 := one_ne (by_yes hby)
  refine lv_aload_n hx hb dX2_setKeyByte_0 rfl (lv_at hl 0 rfl) ?_
  refine x_get B hP 0 rfl rfl i_X2 5 (by decide) g_81 rfl dX2_setKeyByte_1 ?_
  refine lv_if_eq (tgt := 21) hx hb dX2_setKeyByte_4 (by decide) (fun c_4 => ?_) (fun c_4 => ?_)
  · exact absurd c_4 hr
  · refine lv_iload_n hx hb dX2_setKeyByte_7 rfl (lv_at hl 1 rfl) ?_
    refine x_Si (wr := [(o, .inr (2, [.ref oK, .ref oM, .ref aO, .ref aP, .ref aQ, .int rdy])), (oK, .inr (0, [.ref aB, .ref aW, .ref aF, .ref aG, .ref aV, .int mde])), (oM, .inr (1, [.ref aS, .int fil, .int opn, .int end_, .int cmp_, .int dif])), (aB, .inl (E.2.1, 16, .inl fB)), (aW, .inl (E.2.1, 176, .inl fW)), (aF, .inl (E.2.1, 16, .inl fF)), (aG, .inl (E.2.1, 16, .inl fG)), (aV, .inl (E.2.1, 16, .inl fV)), (aS, .inl (E.2.1, 16, .inl fE)), (aO, .inl (E.2.1, 16, .inl fO)), (aP, .inl (E.2.1, 16, .inl fP)), (aQ, .inl (E.2.1, 16, .inl fQ))]) (isC := []) (isR := [0, 1, 2, 3, 4, 5, 6, 7, 8, 9, 10, 11]) (As := [.int p0]) B (c_X2_isPlace l E p0) k_X2_isPlace g_114 s_X2_isPlace ⟨by decide, by decide, rfl, rfl⟩ hP hD hS ⟨rfl, rfl, rfl, rfl, by decide⟩ rfl hl.1 rfl (Nat.le_of_ble_eq_true rfl) dX2_setKeyByte_8 ⟨by decide, by decide⟩ (fun H locs hP hD hS => ?_)
    have hP : va_P E.1 classes [(o, .inr (2, [.ref oK, .ref oM, .ref aO, .ref aP, .ref aQ, .int rdy])), (oK, .inr (0, [.ref aB, .ref aW, .ref aF, .ref aG, .ref aV, .int mde])), (oM, .inr (1, [.ref aS, .int fil, .int opn, .int end_, .int cmp_, .int dif])), (aB, .inl (E.2.1, 16, .inl fB)), (aW, .inl (E.2.1, 176, .inl fW)), (aF, .inl (E.2.1, 16, .inl fF)), (aG, .inl (E.2.1, 16, .inl fG)), (aV, .inl (E.2.1, 16, .inl fV)), (aS, .inl (E.2.1, 16, .inl fE)), (aO, .inl (E.2.1, 16, .inl fO)), (aP, .inl (E.2.1, 16, .inl fP)), (aQ, .inl (E.2.1, 16, .inl fQ))] _ := hP
    have hD : va_D A [(o, .inr (2, [.ref oK, .ref oM, .ref aO, .ref aP, .ref aQ, .int rdy])), (oK, .inr (0, [.ref aB, .ref aW, .ref aF, .ref aG, .ref aV, .int mde])), (oM, .inr (1, [.ref aS, .int fil, .int opn, .int end_, .int cmp_, .int dif])), (aB, .inl (E.2.1, 16, .inl fB)), (aW, .inl (E.2.1, 176, .inl fW)), (aF, .inl (E.2.1, 16, .inl fF)), (aG, .inl (E.2.1, 16, .inl fG)), (aV, .inl (E.2.1, 16, .inl fV)), (aS, .inl (E.2.1, 16, .inl fE)), (aO, .inl (E.2.1, 16, .inl fO)), (aP, .inl (E.2.1, 16, .inl fP)), (aQ, .inl (E.2.1, 16, .inl fQ))] := hD
    refine lv_if_eq (tgt := 21) hx hb dX2_setKeyByte_11 (by decide) (fun c_11 => ?_) (fun c_11 => ?_)
    · exact absurd c_11 h1
    · refine lv_iload_n hx hb dX2_setKeyByte_14 rfl (lv_at hl 2 rfl) ?_
      refine x_Si (wr := [(o, .inr (2, [.ref oK, .ref oM, .ref aO, .ref aP, .ref aQ, .int rdy])), (oK, .inr (0, [.ref aB, .ref aW, .ref aF, .ref aG, .ref aV, .int mde])), (oM, .inr (1, [.ref aS, .int fil, .int opn, .int end_, .int cmp_, .int dif])), (aB, .inl (E.2.1, 16, .inl fB)), (aW, .inl (E.2.1, 176, .inl fW)), (aF, .inl (E.2.1, 16, .inl fF)), (aG, .inl (E.2.1, 16, .inl fG)), (aV, .inl (E.2.1, 16, .inl fV)), (aS, .inl (E.2.1, 16, .inl fE)), (aO, .inl (E.2.1, 16, .inl fO)), (aP, .inl (E.2.1, 16, .inl fP)), (aQ, .inl (E.2.1, 16, .inl fQ))]) (isC := []) (isR := [0, 1, 2, 3, 4, 5, 6, 7, 8, 9, 10, 11]) (As := [.int p1]) B (c_X2_isByte l E p1) k_X2_isByte g_117 s_X2_isByte ⟨by decide, by decide, rfl, rfl⟩ hP hD hS ⟨rfl, rfl, rfl, rfl, by decide⟩ rfl hl.1 rfl (Nat.le_of_ble_eq_true rfl) dX2_setKeyByte_15 ⟨by decide, by decide⟩ (fun H locs hP hD hS => ?_)
      have hP : va_P E.1 classes [(o, .inr (2, [.ref oK, .ref oM, .ref aO, .ref aP, .ref aQ, .int rdy])), (oK, .inr (0, [.ref aB, .ref aW, .ref aF, .ref aG, .ref aV, .int mde])), (oM, .inr (1, [.ref aS, .int fil, .int opn, .int end_, .int cmp_, .int dif])), (aB, .inl (E.2.1, 16, .inl fB)), (aW, .inl (E.2.1, 176, .inl fW)), (aF, .inl (E.2.1, 16, .inl fF)), (aG, .inl (E.2.1, 16, .inl fG)), (aV, .inl (E.2.1, 16, .inl fV)), (aS, .inl (E.2.1, 16, .inl fE)), (aO, .inl (E.2.1, 16, .inl fO)), (aP, .inl (E.2.1, 16, .inl fP)), (aQ, .inl (E.2.1, 16, .inl fQ))] _ := hP
      have hD : va_D A [(o, .inr (2, [.ref oK, .ref oM, .ref aO, .ref aP, .ref aQ, .int rdy])), (oK, .inr (0, [.ref aB, .ref aW, .ref aF, .ref aG, .ref aV, .int mde])), (oM, .inr (1, [.ref aS, .int fil, .int opn, .int end_, .int cmp_, .int dif])), (aB, .inl (E.2.1, 16, .inl fB)), (aW, .inl (E.2.1, 176, .inl fW)), (aF, .inl (E.2.1, 16, .inl fF)), (aG, .inl (E.2.1, 16, .inl fG)), (aV, .inl (E.2.1, 16, .inl fV)), (aS, .inl (E.2.1, 16, .inl fE)), (aO, .inl (E.2.1, 16, .inl fO)), (aP, .inl (E.2.1, 16, .inl fP)), (aQ, .inl (E.2.1, 16, .inl fQ))] := hD
      refine lv_if_ne (tgt := 23) hx hb dX2_setKeyByte_18 (by decide) (fun c_18 => ?_) (fun c_18 => ?_)
      · refine lv_aload_n hx hb dX2_setKeyByte_23 rfl (lv_at hl 0 rfl) ?_
        refine x_get B hP 0 rfl rfl i_X2 0 (by decide) g_76 rfl dX2_setKeyByte_24 ?_
        refine lv_iload_n hx hb dX2_setKeyByte_27 rfl (lv_at hl 1 rfl) ?_
        refine lv_iload_n hx hb dX2_setKeyByte_28 rfl (lv_at hl 2 rfl) ?_
        refine x_Vv (wr := [(o, .inr (2, [.ref oK, .ref oM, .ref aO, .ref aP, .ref aQ, .int rdy])), (oM, .inr (1, [.ref aS, .int fil, .int opn, .int end_, .int cmp_, .int dif])), (aW, .inl (E.2.1, 176, .inl fW)), (aF, .inl (E.2.1, 16, .inl fF)), (aG, .inl (E.2.1, 16, .inl fG)), (aV, .inl (E.2.1, 16, .inl fV)), (aS, .inl (E.2.1, 16, .inl fE)), (aO, .inl (E.2.1, 16, .inl fO)), (aP, .inl (E.2.1, 16, .inl fP)), (aQ, .inl (E.2.1, 16, .inl fQ))]) (isC := [1, 3]) (isR := [0, 2, 4, 5, 6, 7, 8, 9, 10, 11]) (As := [.int p0, .int p1]) B (c_X0_put l E oK aB aW aF aG aV fB mde k p0 p1 hv hk) k_X0_put g_120 s_X0_put ⟨by decide, by decide, rfl, rfl⟩ rfl 1 rfl hP hD hS ⟨rfl, rfl, rfl, rfl, by decide⟩ rfl hl.1 rfl (Nat.le_of_ble_eq_true rfl) dX2_setKeyByte_29 ⟨by decide, by decide⟩ (fun H locs hP hD hS => ?_)
        have hP : va_P E.1 classes [(o, .inr (2, [.ref oK, .ref oM, .ref aO, .ref aP, .ref aQ, .int rdy])), (oM, .inr (1, [.ref aS, .int fil, .int opn, .int end_, .int cmp_, .int dif])), (aW, .inl (E.2.1, 176, .inl fW)), (aF, .inl (E.2.1, 16, .inl fF)), (aG, .inl (E.2.1, 16, .inl fG)), (aV, .inl (E.2.1, 16, .inl fV)), (aS, .inl (E.2.1, 16, .inl fE)), (aO, .inl (E.2.1, 16, .inl fO)), (aP, .inl (E.2.1, 16, .inl fP)), (aQ, .inl (E.2.1, 16, .inl fQ)), (oK, .inr (0, [.ref aB, .ref aW, .ref aF, .ref aG, .ref aV, .int 0])), (aB, .inl (E.2.1, 16, .inl (upd fB k p1)))] _ := hP
        have hD : va_D A [(o, .inr (2, [.ref oK, .ref oM, .ref aO, .ref aP, .ref aQ, .int rdy])), (oM, .inr (1, [.ref aS, .int fil, .int opn, .int end_, .int cmp_, .int dif])), (aW, .inl (E.2.1, 176, .inl fW)), (aF, .inl (E.2.1, 16, .inl fF)), (aG, .inl (E.2.1, 16, .inl fG)), (aV, .inl (E.2.1, 16, .inl fV)), (aS, .inl (E.2.1, 16, .inl fE)), (aO, .inl (E.2.1, 16, .inl fO)), (aP, .inl (E.2.1, 16, .inl fP)), (aQ, .inl (E.2.1, 16, .inl fQ)), (oK, .inr (0, [.ref aB, .ref aW, .ref aF, .ref aG, .ref aV, .int 0])), (aB, .inl (E.2.1, 16, .inl (upd fB k p1)))] := hD
        refine lv_aload_n hx hb dX2_setKeyByte_32 rfl (lv_at hl 0 rfl) ?_
        refine x_get B hP 0 rfl rfl i_X2 1 (by decide) g_77 rfl dX2_setKeyByte_33 ?_
        refine x_Vv (wr := [(o, .inr (2, [.ref oK, .ref oM, .ref aO, .ref aP, .ref aQ, .int rdy])), (aW, .inl (E.2.1, 176, .inl fW)), (aF, .inl (E.2.1, 16, .inl fF)), (aG, .inl (E.2.1, 16, .inl fG)), (aV, .inl (E.2.1, 16, .inl fV)), (aS, .inl (E.2.1, 16, .inl fE)), (aO, .inl (E.2.1, 16, .inl fO)), (aP, .inl (E.2.1, 16, .inl fP)), (aQ, .inl (E.2.1, 16, .inl fQ)), (oK, .inr (0, [.ref aB, .ref aW, .ref aF, .ref aG, .ref aV, .int 0])), (aB, .inl (E.2.1, 16, .inl (upd fB k p1)))]) (isC := [1]) (isR := [0, 2, 3, 4, 5, 6, 7, 8, 9, 10, 11]) (As := []) B (c_X1_drop l E oM aS fil opn end_ cmp_ dif) k_X1_drop g_106 s_X1_drop ⟨by decide, by decide, rfl, rfl⟩ rfl 1 rfl hP hD hS ⟨rfl, rfl, rfl, rfl, by decide⟩ rfl hl.1 rfl (Nat.le_of_ble_eq_true rfl) dX2_setKeyByte_36 ⟨by decide, by decide⟩ (fun H locs hP hD hS => ?_)
        have hP : va_P E.1 classes [(o, .inr (2, [.ref oK, .ref oM, .ref aO, .ref aP, .ref aQ, .int rdy])), (aW, .inl (E.2.1, 176, .inl fW)), (aF, .inl (E.2.1, 16, .inl fF)), (aG, .inl (E.2.1, 16, .inl fG)), (aV, .inl (E.2.1, 16, .inl fV)), (aS, .inl (E.2.1, 16, .inl fE)), (aO, .inl (E.2.1, 16, .inl fO)), (aP, .inl (E.2.1, 16, .inl fP)), (aQ, .inl (E.2.1, 16, .inl fQ)), (oK, .inr (0, [.ref aB, .ref aW, .ref aF, .ref aG, .ref aV, .int 0])), (aB, .inl (E.2.1, 16, .inl (upd fB k p1))), (oM, .inr (1, [.ref aS, .int fil, .int 0, .int 0, .int cmp_, .int dif]))] _ := hP
        have hD : va_D A [(o, .inr (2, [.ref oK, .ref oM, .ref aO, .ref aP, .ref aQ, .int rdy])), (aW, .inl (E.2.1, 176, .inl fW)), (aF, .inl (E.2.1, 16, .inl fF)), (aG, .inl (E.2.1, 16, .inl fG)), (aV, .inl (E.2.1, 16, .inl fV)), (aS, .inl (E.2.1, 16, .inl fE)), (aO, .inl (E.2.1, 16, .inl fO)), (aP, .inl (E.2.1, 16, .inl fP)), (aQ, .inl (E.2.1, 16, .inl fQ)), (oK, .inr (0, [.ref aB, .ref aW, .ref aF, .ref aG, .ref aV, .int 0])), (aB, .inl (E.2.1, 16, .inl (upd fB k p1))), (oM, .inr (1, [.ref aS, .int fil, .int 0, .int 0, .int cmp_, .int dif]))] := hD
        refine lv_iconst (v := 1) hx hb dX2_setKeyByte_39 (by decide) ?_
        have hP := hP.sub (ws' := [(o, .inr (2, [.ref oK, .ref oM, .ref aO, .ref aP, .ref aQ, .int rdy])), (oK, .inr (0, [.ref aB, .ref aW, .ref aF, .ref aG, .ref aV, .int 0])), (oM, .inr (1, [.ref aS, .int fil, .int 0, .int 0, .int cmp_, .int dif])), (aB, .inl (E.2.1, 16, .inl (upd fB k p1))), (aW, .inl (E.2.1, 176, .inl fW)), (aF, .inl (E.2.1, 16, .inl fF)), (aG, .inl (E.2.1, 16, .inl fG)), (aV, .inl (E.2.1, 16, .inl fV)), (aS, .inl (E.2.1, 16, .inl fE)), (aO, .inl (E.2.1, 16, .inl fO)), (aP, .inl (E.2.1, 16, .inl fP)), (aQ, .inl (E.2.1, 16, .inl fQ))]) [0, 9, 11, 10, 1, 2, 3, 4, 5, 6, 7, 8] rfl
        have hD := hD.sub (ws' := [(o, .inr (2, [.ref oK, .ref oM, .ref aO, .ref aP, .ref aQ, .int rdy])), (oK, .inr (0, [.ref aB, .ref aW, .ref aF, .ref aG, .ref aV, .int 0])), (oM, .inr (1, [.ref aS, .int fil, .int 0, .int 0, .int cmp_, .int dif])), (aB, .inl (E.2.1, 16, .inl (upd fB k p1))), (aW, .inl (E.2.1, 176, .inl fW)), (aF, .inl (E.2.1, 16, .inl fF)), (aG, .inl (E.2.1, 16, .inl fG)), (aV, .inl (E.2.1, 16, .inl fV)), (aS, .inl (E.2.1, 16, .inl fE)), (aO, .inl (E.2.1, 16, .inl fO)), (aP, .inl (E.2.1, 16, .inl fP)), (aQ, .inl (E.2.1, 16, .inl fQ))]) [0, 9, 11, 10, 1, 2, 3, 4, 5, 6, 7, 8] (by decide) rfl
        have hP : va_P E.1 classes [(o, .inr (2, [.ref oK, .ref oM, .ref aO, .ref aP, .ref aQ, .int rdy])), (oK, .inr (0, [.ref aB, .ref aW, .ref aF, .ref aG, .ref aV, .int 0])), (oM, .inr (1, [.ref aS, .int fil, .int 0, .int 0, .int cmp_, .int dif])), (aB, .inl (E.2.1, 16, .inl (upd fB k p1))), (aW, .inl (E.2.1, 176, .inl fW)), (aF, .inl (E.2.1, 16, .inl fF)), (aG, .inl (E.2.1, 16, .inl fG)), (aV, .inl (E.2.1, 16, .inl fV)), (aS, .inl (E.2.1, 16, .inl fE)), (aO, .inl (E.2.1, 16, .inl fO)), (aP, .inl (E.2.1, 16, .inl fP)), (aQ, .inl (E.2.1, 16, .inl fQ))] _ := hP
        have hD : va_D A [(o, .inr (2, [.ref oK, .ref oM, .ref aO, .ref aP, .ref aQ, .int rdy])), (oK, .inr (0, [.ref aB, .ref aW, .ref aF, .ref aG, .ref aV, .int 0])), (oM, .inr (1, [.ref aS, .int fil, .int 0, .int 0, .int cmp_, .int dif])), (aB, .inl (E.2.1, 16, .inl (upd fB k p1))), (aW, .inl (E.2.1, 176, .inl fW)), (aF, .inl (E.2.1, 16, .inl fF)), (aG, .inl (E.2.1, 16, .inl fG)), (aV, .inl (E.2.1, 16, .inl fV)), (aS, .inl (E.2.1, 16, .inl fE)), (aO, .inl (E.2.1, 16, .inl fO)), (aP, .inl (E.2.1, 16, .inl fP)), (aQ, .inl (E.2.1, 16, .inl fQ))] := hD
        exact x_iret B hP hD hS rfl rfl dX2_setKeyByte_40
      · exact absurd c_18 h2
set_option maxHeartbeats 4000000 in
set_option maxRecDepth 100000 in
/-- expand -/
theorem c_X2_expand_yes (l : Launch) (E : EE) (o oK oM aB aW aF aG aV aS aO aP aQ : Nat) (fB fW fF fG fV fE fO fP fQ : Nat → Int32) (mde fil opn end_ cmp_ dif rdy : Int32) (hr : ¬ rdy = 0) (hB : ∀ i, i < 16 → By (fB i)) (hW : ∀ i, i < 176 → By (fW i)) (hF : ∀ i, i < 16 → By (fF i)) (hG : ∀ i, i < 16 → By (fG i)) (hV : ∀ i, i < 16 → By (fV i)) (hE : ∀ i, i < 16 → By (fE i)) (hO : ∀ i, i < 16 → By (fO i)) (hP0 : ∀ i, i < 16 → By (fP i)) (hQ : ∀ i, i < 16 → By (fQ i))  : Ci l yX2_expand (.code yX2_expand cX2_expand 1 (some .boolean)) ({ frames := 6, cells := 0, slots := 0, locals := 144 }) E [.ref o] 1 [(o, .inr (2, [.ref oK, .ref oM, .ref aO, .ref aP, .ref aQ, .int rdy])), (oK, .inr (0, [.ref aB, .ref aW, .ref aF, .ref aG, .ref aV, .int mde])), (oM, .inr (1, [.ref aS, .int fil, .int opn, .int end_, .int cmp_, .int dif])), (aB, .inl (E.2.1, 16, .inl fB)), (aW, .inl (E.2.1, 176, .inl fW)), (aF, .inl (E.2.1, 16, .inl fF)), (aG, .inl (E.2.1, 16, .inl fG)), (aV, .inl (E.2.1, 16, .inl fV)), (aS, .inl (E.2.1, 16, .inl fE)), (aO, .inl (E.2.1, 16, .inl fO)), (aP, .inl (E.2.1, 16, .inl fP)), (aQ, .inl (E.2.1, 16, .inl fQ))] [(o, .inr (2, [.ref oK, .ref oM, .ref aO, .ref aP, .ref aQ, .int rdy])), (oK, .inr (0, [.ref aB, .ref aW, .ref aF, .ref aG, .ref aV, .int 1])), (oM, .inr (1, [.ref aS, .int fil, .int opn, .int end_, .int cmp_, .int dif])), (aB, .inl (E.2.1, 16, .inl fB)), (aW, .inl (E.2.1, 176, .inl ((wordM (va_cpy fB fW 0 0 16) 40).1))), (aF, .inl (E.2.1, 16, .inl (dblA (hv1 (wordM (va_cpy fB fW 0 0 16) 40).1 fF fV).1))), (aG, .inl (E.2.1, 16, .inl (dblW (dblA (hv1 (wordM (va_cpy fB fW 0 0 16) 40).1 fF fV).1) fG))), (aV, .inl (E.2.1, 16, .inl ((hv1 (wordM (va_cpy fB fW 0 0 16) 40).1 fF fV).2))), (aS, .inl (E.2.1, 16, .inl fE)), (aO, .inl (E.2.1, 16, .inl fO)), (aP, .inl (E.2.1, 16, .inl fP)), (aQ, .inl (E.2.1, 16, .inl fQ))] := by
  refine Ci.of (by decide) (Nat.le_of_ble_eq_true rfl) ?_
  intro p e s m below meth c A ls B hP hD hS hl
  have hl : lv_has ls 1 [(0, .ref o)] := hl
  have B : Bd p s m _ meth c cX2_expand 1 (some .boolean) RX2 E A := B
  have hx := B.1
  have hb := B.2.1
  have hP : va_P E.1 classes [(o, .inr (2, [.ref oK, .ref oM, .ref aO, .ref aP, .ref aQ, .int rdy])), (oK, .inr (0, [.ref aB, .ref aW, .ref aF, .ref aG, .ref aV, .int mde])), (oM, .inr (1, [.ref aS, .int fil, .int opn, .int end_, .int cmp_, .int dif])), (aB, .inl (E.2.1, 16, .inl fB)), (aW, .inl (E.2.1, 176, .inl fW)), (aF, .inl (E.2.1, 16, .inl fF)), (aG, .inl (E.2.1, 16, .inl fG)), (aV, .inl (E.2.1, 16, .inl fV)), (aS, .inl (E.2.1, 16, .inl fE)), (aO, .inl (E.2.1, 16, .inl fO)), (aP, .inl (E.2.1, 16, .inl fP)), (aQ, .inl (E.2.1, 16, .inl fQ))] _ := hP
  have hD : va_D A [(o, .inr (2, [.ref oK, .ref oM, .ref aO, .ref aP, .ref aQ, .int rdy])), (oK, .inr (0, [.ref aB, .ref aW, .ref aF, .ref aG, .ref aV, .int mde])), (oM, .inr (1, [.ref aS, .int fil, .int opn, .int end_, .int cmp_, .int dif])), (aB, .inl (E.2.1, 16, .inl fB)), (aW, .inl (E.2.1, 176, .inl fW)), (aF, .inl (E.2.1, 16, .inl fF)), (aG, .inl (E.2.1, 16, .inl fG)), (aV, .inl (E.2.1, 16, .inl fV)), (aS, .inl (E.2.1, 16, .inl fE)), (aO, .inl (E.2.1, 16, .inl fO)), (aP, .inl (E.2.1, 16, .inl fP)), (aQ, .inl (E.2.1, 16, .inl fQ))] := hD
  refine lv_aload_n hx hb dX2_expand_0 rfl (lv_at hl 0 rfl) ?_
  refine x_get B hP 0 rfl rfl i_X2 5 (by decide) g_81 rfl dX2_expand_1 ?_
  refine lv_if_ne (tgt := 9) hx hb dX2_expand_4 (by decide) (fun c_4 => ?_) (fun c_4 => ?_)
  · refine lv_aload_n hx hb dX2_expand_9 rfl (lv_at hl 0 rfl) ?_
    refine x_get B hP 0 rfl rfl i_X2 0 (by decide) g_76 rfl dX2_expand_10 ?_
    refine x_Vv (wr := [(o, .inr (2, [.ref oK, .ref oM, .ref aO, .ref aP, .ref aQ, .int rdy])), (oM, .inr (1, [.ref aS, .int fil, .int opn, .int end_, .int cmp_, .int dif])), (aS, .inl (E.2.1, 16, .inl fE)), (aO, .inl (E.2.1, 16, .inl fO)), (aP, .inl (E.2.1, 16, .inl fP)), (aQ, .inl (E.2.1, 16, .inl fQ))]) (isC := [1, 3, 4, 5, 6, 7]) (isR := [0, 2, 8, 9, 10, 11]) (As := []) B (c_X0_make l E oK aB aW aF aG aV fB fW fF fG fV mde hB hW hF hG hV) k_X0_make g_128 s_X0_make ⟨by decide, by decide, rfl, rfl⟩ rfl 1 rfl hP hD hS ⟨rfl, rfl, rfl, rfl, by decide⟩ rfl hl.1 rfl (Nat.le_of_ble_eq_true rfl) dX2_expand_13 ⟨by decide, by decide⟩ (fun H locs hP hD hS => ?_)
    have hP : va_P E.1 classes [(o, .inr (2, [.ref oK, .ref oM, .ref aO, .ref aP, .ref aQ, .int rdy])), (oM, .inr (1, [.ref aS, .int fil, .int opn, .int end_, .int cmp_, .int dif])), (aS, .inl (E.2.1, 16, .inl fE)), (aO, .inl (E.2.1, 16, .inl fO)), (aP, .inl (E.2.1, 16, .inl fP)), (aQ, .inl (E.2.1, 16, .inl fQ)), (oK, .inr (0, [.ref aB, .ref aW, .ref aF, .ref aG, .ref aV, .int 1])), (aB, .inl (E.2.1, 16, .inl fB)), (aW, .inl (E.2.1, 176, .inl ((wordM (va_cpy fB fW 0 0 16) 40).1))), (aF, .inl (E.2.1, 16, .inl (dblA (hv1 (wordM (va_cpy fB fW 0 0 16) 40).1 fF fV).1))), (aG, .inl (E.2.1, 16, .inl (dblW (dblA (hv1 (wordM (va_cpy fB fW 0 0 16) 40).1 fF fV).1) fG))), (aV, .inl (E.2.1, 16, .inl ((hv1 (wordM (va_cpy fB fW 0 0 16) 40).1 fF fV).2)))] _ := hP
    have hD : va_D A [(o, .inr (2, [.ref oK, .ref oM, .ref aO, .ref aP, .ref aQ, .int rdy])), (oM, .inr (1, [.ref aS, .int fil, .int opn, .int end_, .int cmp_, .int dif])), (aS, .inl (E.2.1, 16, .inl fE)), (aO, .inl (E.2.1, 16, .inl fO)), (aP, .inl (E.2.1, 16, .inl fP)), (aQ, .inl (E.2.1, 16, .inl fQ)), (oK, .inr (0, [.ref aB, .ref aW, .ref aF, .ref aG, .ref aV, .int 1])), (aB, .inl (E.2.1, 16, .inl fB)), (aW, .inl (E.2.1, 176, .inl ((wordM (va_cpy fB fW 0 0 16) 40).1))), (aF, .inl (E.2.1, 16, .inl (dblA (hv1 (wordM (va_cpy fB fW 0 0 16) 40).1 fF fV).1))), (aG, .inl (E.2.1, 16, .inl (dblW (dblA (hv1 (wordM (va_cpy fB fW 0 0 16) 40).1 fF fV).1) fG))), (aV, .inl (E.2.1, 16, .inl ((hv1 (wordM (va_cpy fB fW 0 0 16) 40).1 fF fV).2)))] := hD
    refine lv_iconst (v := 1) hx hb dX2_expand_16 (by decide) ?_
    have hP := hP.sub (ws' := [(o, .inr (2, [.ref oK, .ref oM, .ref aO, .ref aP, .ref aQ, .int rdy])), (oK, .inr (0, [.ref aB, .ref aW, .ref aF, .ref aG, .ref aV, .int 1])), (oM, .inr (1, [.ref aS, .int fil, .int opn, .int end_, .int cmp_, .int dif])), (aB, .inl (E.2.1, 16, .inl fB)), (aW, .inl (E.2.1, 176, .inl ((wordM (va_cpy fB fW 0 0 16) 40).1))), (aF, .inl (E.2.1, 16, .inl (dblA (hv1 (wordM (va_cpy fB fW 0 0 16) 40).1 fF fV).1))), (aG, .inl (E.2.1, 16, .inl (dblW (dblA (hv1 (wordM (va_cpy fB fW 0 0 16) 40).1 fF fV).1) fG))), (aV, .inl (E.2.1, 16, .inl ((hv1 (wordM (va_cpy fB fW 0 0 16) 40).1 fF fV).2))), (aS, .inl (E.2.1, 16, .inl fE)), (aO, .inl (E.2.1, 16, .inl fO)), (aP, .inl (E.2.1, 16, .inl fP)), (aQ, .inl (E.2.1, 16, .inl fQ))]) [0, 6, 1, 7, 8, 9, 10, 11, 2, 3, 4, 5] rfl
    have hD := hD.sub (ws' := [(o, .inr (2, [.ref oK, .ref oM, .ref aO, .ref aP, .ref aQ, .int rdy])), (oK, .inr (0, [.ref aB, .ref aW, .ref aF, .ref aG, .ref aV, .int 1])), (oM, .inr (1, [.ref aS, .int fil, .int opn, .int end_, .int cmp_, .int dif])), (aB, .inl (E.2.1, 16, .inl fB)), (aW, .inl (E.2.1, 176, .inl ((wordM (va_cpy fB fW 0 0 16) 40).1))), (aF, .inl (E.2.1, 16, .inl (dblA (hv1 (wordM (va_cpy fB fW 0 0 16) 40).1 fF fV).1))), (aG, .inl (E.2.1, 16, .inl (dblW (dblA (hv1 (wordM (va_cpy fB fW 0 0 16) 40).1 fF fV).1) fG))), (aV, .inl (E.2.1, 16, .inl ((hv1 (wordM (va_cpy fB fW 0 0 16) 40).1 fF fV).2))), (aS, .inl (E.2.1, 16, .inl fE)), (aO, .inl (E.2.1, 16, .inl fO)), (aP, .inl (E.2.1, 16, .inl fP)), (aQ, .inl (E.2.1, 16, .inl fQ))]) [0, 6, 1, 7, 8, 9, 10, 11, 2, 3, 4, 5] (by decide) rfl
    have hP : va_P E.1 classes [(o, .inr (2, [.ref oK, .ref oM, .ref aO, .ref aP, .ref aQ, .int rdy])), (oK, .inr (0, [.ref aB, .ref aW, .ref aF, .ref aG, .ref aV, .int 1])), (oM, .inr (1, [.ref aS, .int fil, .int opn, .int end_, .int cmp_, .int dif])), (aB, .inl (E.2.1, 16, .inl fB)), (aW, .inl (E.2.1, 176, .inl ((wordM (va_cpy fB fW 0 0 16) 40).1))), (aF, .inl (E.2.1, 16, .inl (dblA (hv1 (wordM (va_cpy fB fW 0 0 16) 40).1 fF fV).1))), (aG, .inl (E.2.1, 16, .inl (dblW (dblA (hv1 (wordM (va_cpy fB fW 0 0 16) 40).1 fF fV).1) fG))), (aV, .inl (E.2.1, 16, .inl ((hv1 (wordM (va_cpy fB fW 0 0 16) 40).1 fF fV).2))), (aS, .inl (E.2.1, 16, .inl fE)), (aO, .inl (E.2.1, 16, .inl fO)), (aP, .inl (E.2.1, 16, .inl fP)), (aQ, .inl (E.2.1, 16, .inl fQ))] _ := hP
    have hD : va_D A [(o, .inr (2, [.ref oK, .ref oM, .ref aO, .ref aP, .ref aQ, .int rdy])), (oK, .inr (0, [.ref aB, .ref aW, .ref aF, .ref aG, .ref aV, .int 1])), (oM, .inr (1, [.ref aS, .int fil, .int opn, .int end_, .int cmp_, .int dif])), (aB, .inl (E.2.1, 16, .inl fB)), (aW, .inl (E.2.1, 176, .inl ((wordM (va_cpy fB fW 0 0 16) 40).1))), (aF, .inl (E.2.1, 16, .inl (dblA (hv1 (wordM (va_cpy fB fW 0 0 16) 40).1 fF fV).1))), (aG, .inl (E.2.1, 16, .inl (dblW (dblA (hv1 (wordM (va_cpy fB fW 0 0 16) 40).1 fF fV).1) fG))), (aV, .inl (E.2.1, 16, .inl ((hv1 (wordM (va_cpy fB fW 0 0 16) 40).1 fF fV).2))), (aS, .inl (E.2.1, 16, .inl fE)), (aO, .inl (E.2.1, 16, .inl fO)), (aP, .inl (E.2.1, 16, .inl fP)), (aQ, .inl (E.2.1, 16, .inl fQ))] := hD
    exact x_iret B hP hD hS rfl rfl dX2_expand_17
  · exact absurd c_4 hr
set_option maxHeartbeats 4000000 in
set_option maxRecDepth 100000 in
/-- macStart -/
theorem c_X2_macStart_yes (l : Launch) (E : EE) (o oK oM aB aW aF aG aV aS aO aP aQ : Nat) (fB fW fF fG fV fE fO fP fQ : Nat → Int32) (mde fil opn end_ cmp_ dif rdy : Int32) (hm : ¬ mde = 0)   : Ci l yX2_macStart (.code yX2_macStart cX2_macStart 1 (some .boolean)) ({ frames := 2, cells := 0, slots := 0, locals := 43 }) E [.ref o] 1 [(o, .inr (2, [.ref oK, .ref oM, .ref aO, .ref aP, .ref aQ, .int rdy])), (oK, .inr (0, [.ref aB, .ref aW, .ref aF, .ref aG, .ref aV, .int mde])), (oM, .inr (1, [.ref aS, .int fil, .int opn, .int end_, .int cmp_, .int dif])), (aB, .inl (E.2.1, 16, .inl fB)), (aW, .inl (E.2.1, 176, .inl fW)), (aF, .inl (E.2.1, 16, .inl fF)), (aG, .inl (E.2.1, 16, .inl fG)), (aV, .inl (E.2.1, 16, .inl fV)), (aS, .inl (E.2.1, 16, .inl fE)), (aO, .inl (E.2.1, 16, .inl fO)), (aP, .inl (E.2.1, 16, .inl fP)), (aQ, .inl (E.2.1, 16, .inl fQ))] [(o, .inr (2, [.ref oK, .ref oM, .ref aO, .ref aP, .ref aQ, .int rdy])), (oK, .inr (0, [.ref aB, .ref aW, .ref aF, .ref aG, .ref aV, .int mde])), (oM, .inr (1, [.ref aS, .int 0, .int 1, .int 0, .int cmp_, .int dif])), (aB, .inl (E.2.1, 16, .inl fB)), (aW, .inl (E.2.1, 176, .inl fW)), (aF, .inl (E.2.1, 16, .inl fF)), (aG, .inl (E.2.1, 16, .inl fG)), (aV, .inl (E.2.1, 16, .inl fV)), (aS, .inl (E.2.1, 16, .inl (fillM 0 fE 16))), (aO, .inl (E.2.1, 16, .inl fO)), (aP, .inl (E.2.1, 16, .inl fP)), (aQ, .inl (E.2.1, 16, .inl fQ))] := by
  refine Ci.of (by decide) (Nat.le_of_ble_eq_true rfl) ?_
  intro p e s m below meth c A ls B hP hD hS hl
  have hl : lv_has ls 1 [(0, .ref o)] := hl
  have B : Bd p s m _ meth c cX2_macStart 1 (some .boolean) RX2 E A := B
  have hx := B.1
  have hb := B.2.1
  have hP : va_P E.1 classes [(o, .inr (2, [.ref oK, .ref oM, .ref aO, .ref aP, .ref aQ, .int rdy])), (oK, .inr (0, [.ref aB, .ref aW, .ref aF, .ref aG, .ref aV, .int mde])), (oM, .inr (1, [.ref aS, .int fil, .int opn, .int end_, .int cmp_, .int dif])), (aB, .inl (E.2.1, 16, .inl fB)), (aW, .inl (E.2.1, 176, .inl fW)), (aF, .inl (E.2.1, 16, .inl fF)), (aG, .inl (E.2.1, 16, .inl fG)), (aV, .inl (E.2.1, 16, .inl fV)), (aS, .inl (E.2.1, 16, .inl fE)), (aO, .inl (E.2.1, 16, .inl fO)), (aP, .inl (E.2.1, 16, .inl fP)), (aQ, .inl (E.2.1, 16, .inl fQ))] _ := hP
  have hD : va_D A [(o, .inr (2, [.ref oK, .ref oM, .ref aO, .ref aP, .ref aQ, .int rdy])), (oK, .inr (0, [.ref aB, .ref aW, .ref aF, .ref aG, .ref aV, .int mde])), (oM, .inr (1, [.ref aS, .int fil, .int opn, .int end_, .int cmp_, .int dif])), (aB, .inl (E.2.1, 16, .inl fB)), (aW, .inl (E.2.1, 176, .inl fW)), (aF, .inl (E.2.1, 16, .inl fF)), (aG, .inl (E.2.1, 16, .inl fG)), (aV, .inl (E.2.1, 16, .inl fV)), (aS, .inl (E.2.1, 16, .inl fE)), (aO, .inl (E.2.1, 16, .inl fO)), (aP, .inl (E.2.1, 16, .inl fP)), (aQ, .inl (E.2.1, 16, .inl fQ))] := hD
  refine lv_aload_n hx hb dX2_macStart_0 rfl (lv_at hl 0 rfl) ?_
  refine x_get B hP 0 rfl rfl i_X2 0 (by decide) g_76 rfl dX2_macStart_1 ?_
  refine x_getN B hP 1 rfl rfl i_X0 5 (by decide) n_31 rfl dX2_macStart_4 ?_
  refine lv_if_ne (tgt := 12) hx hb dX2_macStart_7 (by decide) (fun c_7 => ?_) (fun c_7 => ?_)
  · refine lv_aload_n hx hb dX2_macStart_12 rfl (lv_at hl 0 rfl) ?_
    refine x_get B hP 0 rfl rfl i_X2 1 (by decide) g_77 rfl dX2_macStart_13 ?_
    refine x_Vv (wr := [(o, .inr (2, [.ref oK, .ref oM, .ref aO, .ref aP, .ref aQ, .int rdy])), (oK, .inr (0, [.ref aB, .ref aW, .ref aF, .ref aG, .ref aV, .int mde])), (aB, .inl (E.2.1, 16, .inl fB)), (aW, .inl (E.2.1, 176, .inl fW)), (aF, .inl (E.2.1, 16, .inl fF)), (aG, .inl (E.2.1, 16, .inl fG)), (aV, .inl (E.2.1, 16, .inl fV)), (aO, .inl (E.2.1, 16, .inl fO)), (aP, .inl (E.2.1, 16, .inl fP)), (aQ, .inl (E.2.1, 16, .inl fQ))]) (isC := [2, 8]) (isR := [0, 1, 3, 4, 5, 6, 7, 9, 10, 11]) (As := []) B (c_X1_begin l E oM aS fE fil opn end_ cmp_ dif) k_X1_begin g_183 s_X1_begin ⟨by decide, by decide, rfl, rfl⟩ rfl 2 rfl hP hD hS ⟨rfl, rfl, rfl, rfl, by decide⟩ rfl hl.1 rfl (Nat.le_of_ble_eq_true rfl) dX2_macStart_16 ⟨by decide, by decide⟩ (fun H locs hP hD hS => ?_)
    have hP : va_P E.1 classes [(o, .inr (2, [.ref oK, .ref oM, .ref aO, .ref aP, .ref aQ, .int rdy])), (oK, .inr (0, [.ref aB, .ref aW, .ref aF, .ref aG, .ref aV, .int mde])), (aB, .inl (E.2.1, 16, .inl fB)), (aW, .inl (E.2.1, 176, .inl fW)), (aF, .inl (E.2.1, 16, .inl fF)), (aG, .inl (E.2.1, 16, .inl fG)), (aV, .inl (E.2.1, 16, .inl fV)), (aO, .inl (E.2.1, 16, .inl fO)), (aP, .inl (E.2.1, 16, .inl fP)), (aQ, .inl (E.2.1, 16, .inl fQ)), (oM, .inr (1, [.ref aS, .int 0, .int 1, .int 0, .int cmp_, .int dif])), (aS, .inl (E.2.1, 16, .inl (fillM 0 fE 16)))] _ := hP
    have hD : va_D A [(o, .inr (2, [.ref oK, .ref oM, .ref aO, .ref aP, .ref aQ, .int rdy])), (oK, .inr (0, [.ref aB, .ref aW, .ref aF, .ref aG, .ref aV, .int mde])), (aB, .inl (E.2.1, 16, .inl fB)), (aW, .inl (E.2.1, 176, .inl fW)), (aF, .inl (E.2.1, 16, .inl fF)), (aG, .inl (E.2.1, 16, .inl fG)), (aV, .inl (E.2.1, 16, .inl fV)), (aO, .inl (E.2.1, 16, .inl fO)), (aP, .inl (E.2.1, 16, .inl fP)), (aQ, .inl (E.2.1, 16, .inl fQ)), (oM, .inr (1, [.ref aS, .int 0, .int 1, .int 0, .int cmp_, .int dif])), (aS, .inl (E.2.1, 16, .inl (fillM 0 fE 16)))] := hD
    refine lv_iconst (v := 1) hx hb dX2_macStart_19 (by decide) ?_
    have hP := hP.sub (ws' := [(o, .inr (2, [.ref oK, .ref oM, .ref aO, .ref aP, .ref aQ, .int rdy])), (oK, .inr (0, [.ref aB, .ref aW, .ref aF, .ref aG, .ref aV, .int mde])), (oM, .inr (1, [.ref aS, .int 0, .int 1, .int 0, .int cmp_, .int dif])), (aB, .inl (E.2.1, 16, .inl fB)), (aW, .inl (E.2.1, 176, .inl fW)), (aF, .inl (E.2.1, 16, .inl fF)), (aG, .inl (E.2.1, 16, .inl fG)), (aV, .inl (E.2.1, 16, .inl fV)), (aS, .inl (E.2.1, 16, .inl (fillM 0 fE 16))), (aO, .inl (E.2.1, 16, .inl fO)), (aP, .inl (E.2.1, 16, .inl fP)), (aQ, .inl (E.2.1, 16, .inl fQ))]) [0, 1, 10, 2, 3, 4, 5, 6, 11, 7, 8, 9] rfl
    have hD := hD.sub (ws' := [(o, .inr (2, [.ref oK, .ref oM, .ref aO, .ref aP, .ref aQ, .int rdy])), (oK, .inr (0, [.ref aB, .ref aW, .ref aF, .ref aG, .ref aV, .int mde])), (oM, .inr (1, [.ref aS, .int 0, .int 1, .int 0, .int cmp_, .int dif])), (aB, .inl (E.2.1, 16, .inl fB)), (aW, .inl (E.2.1, 176, .inl fW)), (aF, .inl (E.2.1, 16, .inl fF)), (aG, .inl (E.2.1, 16, .inl fG)), (aV, .inl (E.2.1, 16, .inl fV)), (aS, .inl (E.2.1, 16, .inl (fillM 0 fE 16))), (aO, .inl (E.2.1, 16, .inl fO)), (aP, .inl (E.2.1, 16, .inl fP)), (aQ, .inl (E.2.1, 16, .inl fQ))]) [0, 1, 10, 2, 3, 4, 5, 6, 11, 7, 8, 9] (by decide) rfl
    have hP : va_P E.1 classes [(o, .inr (2, [.ref oK, .ref oM, .ref aO, .ref aP, .ref aQ, .int rdy])), (oK, .inr (0, [.ref aB, .ref aW, .ref aF, .ref aG, .ref aV, .int mde])), (oM, .inr (1, [.ref aS, .int 0, .int 1, .int 0, .int cmp_, .int dif])), (aB, .inl (E.2.1, 16, .inl fB)), (aW, .inl (E.2.1, 176, .inl fW)), (aF, .inl (E.2.1, 16, .inl fF)), (aG, .inl (E.2.1, 16, .inl fG)), (aV, .inl (E.2.1, 16, .inl fV)), (aS, .inl (E.2.1, 16, .inl (fillM 0 fE 16))), (aO, .inl (E.2.1, 16, .inl fO)), (aP, .inl (E.2.1, 16, .inl fP)), (aQ, .inl (E.2.1, 16, .inl fQ))] _ := hP
    have hD : va_D A [(o, .inr (2, [.ref oK, .ref oM, .ref aO, .ref aP, .ref aQ, .int rdy])), (oK, .inr (0, [.ref aB, .ref aW, .ref aF, .ref aG, .ref aV, .int mde])), (oM, .inr (1, [.ref aS, .int 0, .int 1, .int 0, .int cmp_, .int dif])), (aB, .inl (E.2.1, 16, .inl fB)), (aW, .inl (E.2.1, 176, .inl fW)), (aF, .inl (E.2.1, 16, .inl fF)), (aG, .inl (E.2.1, 16, .inl fG)), (aV, .inl (E.2.1, 16, .inl fV)), (aS, .inl (E.2.1, 16, .inl (fillM 0 fE 16))), (aO, .inl (E.2.1, 16, .inl fO)), (aP, .inl (E.2.1, 16, .inl fP)), (aQ, .inl (E.2.1, 16, .inl fQ))] := hD
    exact x_iret B hP hD hS rfl rfl dX2_macStart_20
  · exact absurd c_7 hm
set_option maxHeartbeats 4000000 in
set_option maxRecDepth 100000 in
/-- macUpdate -/
theorem c_X2_macUpdate_yes (l : Launch) (E : EE) (o oK oM aB aW aF aG aV aS aO aP aQ : Nat) (fB fW fF fG fV fE fO fP fQ : Nat → Int32) (mde opn end_ cmp_ dif rdy : Int32) (kf : Nat) (hkf : kf ≤ 16) (p0 : Int32) (hby : By p0) (ho : ¬ opn = 0) (hB : ∀ i, i < 16 → By (fB i)) (hW : ∀ i, i < 176 → By (fW i)) (hF : ∀ i, i < 16 → By (fF i)) (hG : ∀ i, i < 16 → By (fG i)) (hV : ∀ i, i < 16 → By (fV i)) (hE : ∀ i, i < 16 → By (fE i)) (hO : ∀ i, i < 16 → By (fO i)) (hP0 : ∀ i, i < 16 → By (fP i)) (hQ : ∀ i, i < 16 → By (fQ i))  : Ci l yX2_macUpdate (.code yX2_macUpdate cX2_macUpdate 2 (some .boolean)) ({ frames := 5, cells := 0, slots := 0, locals := 126 }) E [.ref o, .int p0] 1 [(o, .inr (2, [.ref oK, .ref oM, .ref aO, .ref aP, .ref aQ, .int rdy])), (oK, .inr (0, [.ref aB, .ref aW, .ref aF, .ref aG, .ref aV, .int mde])), (oM, .inr (1, [.ref aS, .int (nI kf), .int opn, .int end_, .int cmp_, .int dif])), (aB, .inl (E.2.1, 16, .inl fB)), (aW, .inl (E.2.1, 176, .inl fW)), (aF, .inl (E.2.1, 16, .inl fF)), (aG, .inl (E.2.1, 16, .inl fG)), (aV, .inl (E.2.1, 16, .inl fV)), (aS, .inl (E.2.1, 16, .inl fE)), (aO, .inl (E.2.1, 16, .inl fO)), (aP, .inl (E.2.1, 16, .inl fP)), (aQ, .inl (E.2.1, 16, .inl fQ))] [(o, .inr (2, [.ref oK, .ref oM, .ref aO, .ref aP, .ref aQ, .int rdy])), (oK, .inr (0, [.ref aB, .ref aW, .ref aF, .ref aG, .ref aV, .int mde])), (oM, .inr (1, [.ref aS, .int (nI (tkM fW (fE, fV, kf) p0).2.2), .int opn, .int end_, .int cmp_, .int dif])), (aB, .inl (E.2.1, 16, .inl fB)), (aW, .inl (E.2.1, 176, .inl fW)), (aF, .inl (E.2.1, 16, .inl fF)), (aG, .inl (E.2.1, 16, .inl fG)), (aV, .inl (E.2.1, 16, .inl ((tkM fW (fE, fV, kf) p0).2.1))), (aS, .inl (E.2.1, 16, .inl ((tkM fW (fE, fV, kf) p0).1))), (aO, .inl (E.2.1, 16, .inl fO)), (aP, .inl (E.2.1, 16, .inl fP)), (aQ, .inl (E.2.1, 16, .inl fQ))] := by
  refine Ci.of (by decide) (Nat.le_of_ble_eq_true rfl) ?_
  intro p e s m below meth c A ls B hP hD hS hl
  have hl : lv_has ls 2 [(0, .ref o), (1, .int p0)] := hl
  have B : Bd p s m _ meth c cX2_macUpdate 2 (some .boolean) RX2 E A := B
  have hx := B.1
  have hb := B.2.1
  have hP : va_P E.1 classes [(o, .inr (2, [.ref oK, .ref oM, .ref aO, .ref aP, .ref aQ, .int rdy])), (oK, .inr (0, [.ref aB, .ref aW, .ref aF, .ref aG, .ref aV, .int mde])), (oM, .inr (1, [.ref aS, .int (nI kf), .int opn, .int end_, .int cmp_, .int dif])), (aB, .inl (E.2.1, 16, .inl fB)), (aW, .inl (E.2.1, 176, .inl fW)), (aF, .inl (E.2.1, 16, .inl fF)), (aG, .inl (E.2.1, 16, .inl fG)), (aV, .inl (E.2.1, 16, .inl fV)), (aS, .inl (E.2.1, 16, .inl fE)), (aO, .inl (E.2.1, 16, .inl fO)), (aP, .inl (E.2.1, 16, .inl fP)), (aQ, .inl (E.2.1, 16, .inl fQ))] _ := hP
  have hD : va_D A [(o, .inr (2, [.ref oK, .ref oM, .ref aO, .ref aP, .ref aQ, .int rdy])), (oK, .inr (0, [.ref aB, .ref aW, .ref aF, .ref aG, .ref aV, .int mde])), (oM, .inr (1, [.ref aS, .int (nI kf), .int opn, .int end_, .int cmp_, .int dif])), (aB, .inl (E.2.1, 16, .inl fB)), (aW, .inl (E.2.1, 176, .inl fW)), (aF, .inl (E.2.1, 16, .inl fF)), (aG, .inl (E.2.1, 16, .inl fG)), (aV, .inl (E.2.1, 16, .inl fV)), (aS, .inl (E.2.1, 16, .inl fE)), (aO, .inl (E.2.1, 16, .inl fO)), (aP, .inl (E.2.1, 16, .inl fP)), (aQ, .inl (E.2.1, 16, .inl fQ))] := hD
  have h2 : ¬ byM p0 = 0 := one_ne (by_yes hby)
  refine lv_aload_n hx hb dX2_macUpdate_0 rfl (lv_at hl 0 rfl) ?_
  refine x_get B hP 0 rfl rfl i_X2 1 (by decide) g_77 rfl dX2_macUpdate_1 ?_
  refine x_getN B hP 2 rfl rfl i_X1 2 (by decide) n_56 rfl dX2_macUpdate_4 ?_
  refine lv_if_eq (tgt := 17) hx hb dX2_macUpdate_7 (by decide) (fun c_7 => ?_) (fun c_7 => ?_)
  · exact absurd c_7 ho
  · refine lv_iload_n hx hb dX2_macUpdate_10 rfl (lv_at hl 1 rfl) ?_
    refine x_Si (wr := [(o, .inr (2, [.ref oK, .ref oM, .ref aO, .ref aP, .ref aQ, .int rdy])), (oK, .inr (0, [.ref aB, .ref aW, .ref aF, .ref aG, .ref aV, .int mde])), (oM, .inr (1, [.ref aS, .int (nI kf), .int opn, .int end_, .int cmp_, .int dif])), (aB, .inl (E.2.1, 16, .inl fB)), (aW, .inl (E.2.1, 176, .inl fW)), (aF, .inl (E.2.1, 16, .inl fF)), (aG, .inl (E.2.1, 16, .inl fG)), (aV, .inl (E.2.1, 16, .inl fV)), (aS, .inl (E.2.1, 16, .inl fE)), (aO, .inl (E.2.1, 16, .inl fO)), (aP, .inl (E.2.1, 16, .inl fP)), (aQ, .inl (E.2.1, 16, .inl fQ))]) (isC := []) (isR := [0, 1, 2, 3, 4, 5, 6, 7, 8, 9, 10, 11]) (As := [.int p0]) B (c_X2_isByte l E p0) k_X2_isByte g_117 s_X2_isByte ⟨by decide, by decide, rfl, rfl⟩ hP hD hS ⟨rfl, rfl, rfl, rfl, by decide⟩ rfl hl.1 rfl (Nat.le_of_ble_eq_true rfl) dX2_macUpdate_11 ⟨by decide, by decide⟩ (fun H locs hP hD hS => ?_)
    have hP : va_P E.1 classes [(o, .inr (2, [.ref oK, .ref oM, .ref aO, .ref aP, .ref aQ, .int rdy])), (oK, .inr (0, [.ref aB, .ref aW, .ref aF, .ref aG, .ref aV, .int mde])), (oM, .inr (1, [.ref aS, .int (nI kf), .int opn, .int end_, .int cmp_, .int dif])), (aB, .inl (E.2.1, 16, .inl fB)), (aW, .inl (E.2.1, 176, .inl fW)), (aF, .inl (E.2.1, 16, .inl fF)), (aG, .inl (E.2.1, 16, .inl fG)), (aV, .inl (E.2.1, 16, .inl fV)), (aS, .inl (E.2.1, 16, .inl fE)), (aO, .inl (E.2.1, 16, .inl fO)), (aP, .inl (E.2.1, 16, .inl fP)), (aQ, .inl (E.2.1, 16, .inl fQ))] _ := hP
    have hD : va_D A [(o, .inr (2, [.ref oK, .ref oM, .ref aO, .ref aP, .ref aQ, .int rdy])), (oK, .inr (0, [.ref aB, .ref aW, .ref aF, .ref aG, .ref aV, .int mde])), (oM, .inr (1, [.ref aS, .int (nI kf), .int opn, .int end_, .int cmp_, .int dif])), (aB, .inl (E.2.1, 16, .inl fB)), (aW, .inl (E.2.1, 176, .inl fW)), (aF, .inl (E.2.1, 16, .inl fF)), (aG, .inl (E.2.1, 16, .inl fG)), (aV, .inl (E.2.1, 16, .inl fV)), (aS, .inl (E.2.1, 16, .inl fE)), (aO, .inl (E.2.1, 16, .inl fO)), (aP, .inl (E.2.1, 16, .inl fP)), (aQ, .inl (E.2.1, 16, .inl fQ))] := hD
    refine lv_if_ne (tgt := 19) hx hb dX2_macUpdate_14 (by decide) (fun c_14 => ?_) (fun c_14 => ?_)
    · refine lv_aload_n hx hb dX2_macUpdate_19 rfl (lv_at hl 0 rfl) ?_
      refine x_get B hP 0 rfl rfl i_X2 1 (by decide) g_77 rfl dX2_macUpdate_20 ?_
      refine lv_iload_n hx hb dX2_macUpdate_23 rfl (lv_at hl 1 rfl) ?_
      refine lv_aload_n hx hb dX2_macUpdate_24 rfl (lv_at hl 0 rfl) ?_
      refine x_get B hP 0 rfl rfl i_X2 0 (by decide) g_76 rfl dX2_macUpdate_25 ?_
      refine x_Vv (wr := [(o, .inr (2, [.ref oK, .ref oM, .ref aO, .ref aP, .ref aQ, .int rdy])), (aB, .inl (E.2.1, 16, .inl fB)), (aF, .inl (E.2.1, 16, .inl fF)), (aG, .inl (E.2.1, 16, .inl fG)), (aO, .inl (E.2.1, 16, .inl fO)), (aP, .inl (E.2.1, 16, .inl fP)), (aQ, .inl (E.2.1, 16, .inl fQ))]) (isC := [2, 8, 1, 4, 7]) (isR := [0, 3, 5, 6, 9, 10, 11]) (As := [.int p0, .ref oK]) B (c_X1_take l E oM aS oK aB aW aF aG aV fE fW fV kf p0 opn end_ cmp_ dif mde hW hby ⟨hE, hV, hkf⟩) k_X1_take g_192 s_X1_take ⟨by decide, by decide, rfl, rfl⟩ rfl 2 rfl hP hD hS ⟨rfl, rfl, rfl, rfl, by decide⟩ rfl hl.1 rfl (Nat.le_of_ble_eq_true rfl) dX2_macUpdate_28 ⟨by decide, by decide⟩ (fun H locs hP hD hS => ?_)
      have hP : va_P E.1 classes [(o, .inr (2, [.ref oK, .ref oM, .ref aO, .ref aP, .ref aQ, .int rdy])), (aB, .inl (E.2.1, 16, .inl fB)), (aF, .inl (E.2.1, 16, .inl fF)), (aG, .inl (E.2.1, 16, .inl fG)), (aO, .inl (E.2.1, 16, .inl fO)), (aP, .inl (E.2.1, 16, .inl fP)), (aQ, .inl (E.2.1, 16, .inl fQ)), (oM, .inr (1, [.ref aS, .int (nI (tkM fW (fE, fV, kf) p0).2.2), .int opn, .int end_, .int cmp_, .int dif])), (aS, .inl (E.2.1, 16, .inl ((tkM fW (fE, fV, kf) p0).1))), (oK, .inr (0, [.ref aB, .ref aW, .ref aF, .ref aG, .ref aV, .int mde])), (aW, .inl (E.2.1, 176, .inl fW)), (aV, .inl (E.2.1, 16, .inl ((tkM fW (fE, fV, kf) p0).2.1)))] _ := hP
      have hD : va_D A [(o, .inr (2, [.ref oK, .ref oM, .ref aO, .ref aP, .ref aQ, .int rdy])), (aB, .inl (E.2.1, 16, .inl fB)), (aF, .inl (E.2.1, 16, .inl fF)), (aG, .inl (E.2.1, 16, .inl fG)), (aO, .inl (E.2.1, 16, .inl fO)), (aP, .inl (E.2.1, 16, .inl fP)), (aQ, .inl (E.2.1, 16, .inl fQ)), (oM, .inr (1, [.ref aS, .int (nI (tkM fW (fE, fV, kf) p0).2.2), .int opn, .int end_, .int cmp_, .int dif])), (aS, .inl (E.2.1, 16, .inl ((tkM fW (fE, fV, kf) p0).1))), (oK, .inr (0, [.ref aB, .ref aW, .ref aF, .ref aG, .ref aV, .int mde])), (aW, .inl (E.2.1, 176, .inl fW)), (aV, .inl (E.2.1, 16, .inl ((tkM fW (fE, fV, kf) p0).2.1)))] := hD
      refine lv_iconst (v := 1) hx hb dX2_macUpdate_31 (by decide) ?_
      have hP := hP.sub (ws' := [(o, .inr (2, [.ref oK, .ref oM, .ref aO, .ref aP, .ref aQ, .int rdy])), (oK, .inr (0, [.ref aB, .ref aW, .ref aF, .ref aG, .ref aV, .int mde])), (oM, .inr (1, [.ref aS, .int (nI (tkM fW (fE, fV, kf) p0).2.2), .int opn, .int end_, .int cmp_, .int dif])), (aB, .inl (E.2.1, 16, .inl fB)), (aW, .inl (E.2.1, 176, .inl fW)), (aF, .inl (E.2.1, 16, .inl fF)), (aG, .inl (E.2.1, 16, .inl fG)), (aV, .inl (E.2.1, 16, .inl ((tkM fW (fE, fV, kf) p0).2.1))), (aS, .inl (E.2.1, 16, .inl ((tkM fW (fE, fV, kf) p0).1))), (aO, .inl (E.2.1, 16, .inl fO)), (aP, .inl (E.2.1, 16, .inl fP)), (aQ, .inl (E.2.1, 16, .inl fQ))]) [0, 9, 7, 1, 10, 2, 3, 11, 8, 4, 5, 6] rfl
      have hD := hD.sub (ws' := [(o, .inr (2, [.ref oK, .ref oM, .ref aO, .ref aP, .ref aQ, .int rdy])), (oK, .inr (0, [.ref aB, .ref aW, .ref aF, .ref aG, .ref aV, .int mde])), (oM, .inr (1, [.ref aS, .int (nI (tkM fW (fE, fV, kf) p0).2.2), .int opn, .int end_, .int cmp_, .int dif])), (aB, .inl (E.2.1, 16, .inl fB)), (aW, .inl (E.2.1, 176, .inl fW)), (aF, .inl (E.2.1, 16, .inl fF)), (aG, .inl (E.2.1, 16, .inl fG)), (aV, .inl (E.2.1, 16, .inl ((tkM fW (fE, fV, kf) p0).2.1))), (aS, .inl (E.2.1, 16, .inl ((tkM fW (fE, fV, kf) p0).1))), (aO, .inl (E.2.1, 16, .inl fO)), (aP, .inl (E.2.1, 16, .inl fP)), (aQ, .inl (E.2.1, 16, .inl fQ))]) [0, 9, 7, 1, 10, 2, 3, 11, 8, 4, 5, 6] (by decide) rfl
      have hP : va_P E.1 classes [(o, .inr (2, [.ref oK, .ref oM, .ref aO, .ref aP, .ref aQ, .int rdy])), (oK, .inr (0, [.ref aB, .ref aW, .ref aF, .ref aG, .ref aV, .int mde])), (oM, .inr (1, [.ref aS, .int (nI (tkM fW (fE, fV, kf) p0).2.2), .int opn, .int end_, .int cmp_, .int dif])), (aB, .inl (E.2.1, 16, .inl fB)), (aW, .inl (E.2.1, 176, .inl fW)), (aF, .inl (E.2.1, 16, .inl fF)), (aG, .inl (E.2.1, 16, .inl fG)), (aV, .inl (E.2.1, 16, .inl ((tkM fW (fE, fV, kf) p0).2.1))), (aS, .inl (E.2.1, 16, .inl ((tkM fW (fE, fV, kf) p0).1))), (aO, .inl (E.2.1, 16, .inl fO)), (aP, .inl (E.2.1, 16, .inl fP)), (aQ, .inl (E.2.1, 16, .inl fQ))] _ := hP
      have hD : va_D A [(o, .inr (2, [.ref oK, .ref oM, .ref aO, .ref aP, .ref aQ, .int rdy])), (oK, .inr (0, [.ref aB, .ref aW, .ref aF, .ref aG, .ref aV, .int mde])), (oM, .inr (1, [.ref aS, .int (nI (tkM fW (fE, fV, kf) p0).2.2), .int opn, .int end_, .int cmp_, .int dif])), (aB, .inl (E.2.1, 16, .inl fB)), (aW, .inl (E.2.1, 176, .inl fW)), (aF, .inl (E.2.1, 16, .inl fF)), (aG, .inl (E.2.1, 16, .inl fG)), (aV, .inl (E.2.1, 16, .inl ((tkM fW (fE, fV, kf) p0).2.1))), (aS, .inl (E.2.1, 16, .inl ((tkM fW (fE, fV, kf) p0).1))), (aO, .inl (E.2.1, 16, .inl fO)), (aP, .inl (E.2.1, 16, .inl fP)), (aQ, .inl (E.2.1, 16, .inl fQ))] := hD
      exact x_iret B hP hD hS rfl rfl dX2_macUpdate_32
    · exact absurd c_14 h2
set_option maxHeartbeats 4000000 in
set_option maxRecDepth 100000 in
/-- macFinish -/
theorem c_X2_macFinish_yes (l : Launch) (E : EE) (o oK oM aB aW aF aG aV aS aO aP aQ : Nat) (fB fW fF fG fV fE fO fP fQ : Nat → Int32) (mde opn end_ cmp_ dif rdy : Int32) (kf : Nat) (hkf : kf ≤ 16) (ho : ¬ opn = 0) (hB : ∀ i, i < 16 → By (fB i)) (hW : ∀ i, i < 176 → By (fW i)) (hF : ∀ i, i < 16 → By (fF i)) (hG : ∀ i, i < 16 → By (fG i)) (hV : ∀ i, i < 16 → By (fV i)) (hE : ∀ i, i < 16 → By (fE i)) (hO : ∀ i, i < 16 → By (fO i)) (hP0 : ∀ i, i < 16 → By (fP i)) (hQ : ∀ i, i < 16 → By (fQ i))  : Ci l yX2_macFinish (.code yX2_macFinish cX2_macFinish 1 (some .boolean)) ({ frames := 5, cells := 0, slots := 0, locals := 125 }) E [.ref o] 1 [(o, .inr (2, [.ref oK, .ref oM, .ref aO, .ref aP, .ref aQ, .int rdy])), (oK, .inr (0, [.ref aB, .ref aW, .ref aF, .ref aG, .ref aV, .int mde])), (oM, .inr (1, [.ref aS, .int (nI kf), .int opn, .int end_, .int cmp_, .int dif])), (aB, .inl (E.2.1, 16, .inl fB)), (aW, .inl (E.2.1, 176, .inl fW)), (aF, .inl (E.2.1, 16, .inl fF)), (aG, .inl (E.2.1, 16, .inl fG)), (aV, .inl (E.2.1, 16, .inl fV)), (aS, .inl (E.2.1, 16, .inl fE)), (aO, .inl (E.2.1, 16, .inl fO)), (aP, .inl (E.2.1, 16, .inl fP)), (aQ, .inl (E.2.1, 16, .inl fQ))] [(o, .inr (2, [.ref oK, .ref oM, .ref aO, .ref aP, .ref aQ, .int rdy])), (oK, .inr (0, [.ref aB, .ref aW, .ref aF, .ref aG, .ref aV, .int mde])), (oM, .inr (1, [.ref aS, .int (nI kf), .int 0, .int 1, .int 0, .int 0])), (aB, .inl (E.2.1, 16, .inl fB)), (aW, .inl (E.2.1, 176, .inl fW)), (aF, .inl (E.2.1, 16, .inl fF)), (aG, .inl (E.2.1, 16, .inl fG)), (aV, .inl (E.2.1, 16, .inl ((enM fW fF fG (fE, fV, kf)).2))), (aS, .inl (E.2.1, 16, .inl ((enM fW fF fG (fE, fV, kf)).1))), (aO, .inl (E.2.1, 16, .inl fO)), (aP, .inl (E.2.1, 16, .inl fP)), (aQ, .inl (E.2.1, 16, .inl fQ))] := by
  refine Ci.of (by decide) (Nat.le_of_ble_eq_true rfl) ?_
  intro p e s m below meth c A ls B hP hD hS hl
  have hl : lv_has ls 1 [(0, .ref o)] := hl
  have B : Bd p s m _ meth c cX2_macFinish 1 (some .boolean) RX2 E A := B
  have hx := B.1
  have hb := B.2.1
  have hP : va_P E.1 classes [(o, .inr (2, [.ref oK, .ref oM, .ref aO, .ref aP, .ref aQ, .int rdy])), (oK, .inr (0, [.ref aB, .ref aW, .ref aF, .ref aG, .ref aV, .int mde])), (oM, .inr (1, [.ref aS, .int (nI kf), .int opn, .int end_, .int cmp_, .int dif])), (aB, .inl (E.2.1, 16, .inl fB)), (aW, .inl (E.2.1, 176, .inl fW)), (aF, .inl (E.2.1, 16, .inl fF)), (aG, .inl (E.2.1, 16, .inl fG)), (aV, .inl (E.2.1, 16, .inl fV)), (aS, .inl (E.2.1, 16, .inl fE)), (aO, .inl (E.2.1, 16, .inl fO)), (aP, .inl (E.2.1, 16, .inl fP)), (aQ, .inl (E.2.1, 16, .inl fQ))] _ := hP
  have hD : va_D A [(o, .inr (2, [.ref oK, .ref oM, .ref aO, .ref aP, .ref aQ, .int rdy])), (oK, .inr (0, [.ref aB, .ref aW, .ref aF, .ref aG, .ref aV, .int mde])), (oM, .inr (1, [.ref aS, .int (nI kf), .int opn, .int end_, .int cmp_, .int dif])), (aB, .inl (E.2.1, 16, .inl fB)), (aW, .inl (E.2.1, 176, .inl fW)), (aF, .inl (E.2.1, 16, .inl fF)), (aG, .inl (E.2.1, 16, .inl fG)), (aV, .inl (E.2.1, 16, .inl fV)), (aS, .inl (E.2.1, 16, .inl fE)), (aO, .inl (E.2.1, 16, .inl fO)), (aP, .inl (E.2.1, 16, .inl fP)), (aQ, .inl (E.2.1, 16, .inl fQ))] := hD
  refine lv_aload_n hx hb dX2_macFinish_0 rfl (lv_at hl 0 rfl) ?_
  refine x_get B hP 0 rfl rfl i_X2 1 (by decide) g_77 rfl dX2_macFinish_1 ?_
  refine x_getN B hP 2 rfl rfl i_X1 2 (by decide) n_56 rfl dX2_macFinish_4 ?_
  refine lv_if_ne (tgt := 12) hx hb dX2_macFinish_7 (by decide) (fun c_7 => ?_) (fun c_7 => ?_)
  · refine lv_aload_n hx hb dX2_macFinish_12 rfl (lv_at hl 0 rfl) ?_
    refine x_get B hP 0 rfl rfl i_X2 1 (by decide) g_77 rfl dX2_macFinish_13 ?_
    refine lv_aload_n hx hb dX2_macFinish_16 rfl (lv_at hl 0 rfl) ?_
    refine x_get B hP 0 rfl rfl i_X2 0 (by decide) g_76 rfl dX2_macFinish_17 ?_
    refine x_Vv (wr := [(o, .inr (2, [.ref oK, .ref oM, .ref aO, .ref aP, .ref aQ, .int rdy])), (aB, .inl (E.2.1, 16, .inl fB)), (aO, .inl (E.2.1, 16, .inl fO)), (aP, .inl (E.2.1, 16, .inl fP)), (aQ, .inl (E.2.1, 16, .inl fQ))]) (isC := [2, 8, 1, 4, 5, 6, 7]) (isR := [0, 3, 9, 10, 11]) (As := [.ref oK]) B (c_X1_end l E oM aS oK aB aW aF aG aV fE fW fF fG fV kf opn end_ cmp_ dif mde hW hF hG ⟨hE, hV, hkf⟩) k_X1_end g_205 s_X1_end ⟨by decide, by decide, rfl, rfl⟩ rfl 2 rfl hP hD hS ⟨rfl, rfl, rfl, rfl, by decide⟩ rfl hl.1 rfl (Nat.le_of_ble_eq_true rfl) dX2_macFinish_20 ⟨by decide, by decide⟩ (fun H locs hP hD hS => ?_)
    have hP : va_P E.1 classes [(o, .inr (2, [.ref oK, .ref oM, .ref aO, .ref aP, .ref aQ, .int rdy])), (aB, .inl (E.2.1, 16, .inl fB)), (aO, .inl (E.2.1, 16, .inl fO)), (aP, .inl (E.2.1, 16, .inl fP)), (aQ, .inl (E.2.1, 16, .inl fQ)), (oM, .inr (1, [.ref aS, .int (nI kf), .int 0, .int 1, .int 0, .int 0])), (aS, .inl (E.2.1, 16, .inl ((enM fW fF fG (fE, fV, kf)).1))), (oK, .inr (0, [.ref aB, .ref aW, .ref aF, .ref aG, .ref aV, .int mde])), (aW, .inl (E.2.1, 176, .inl fW)), (aF, .inl (E.2.1, 16, .inl fF)), (aG, .inl (E.2.1, 16, .inl fG)), (aV, .inl (E.2.1, 16, .inl ((enM fW fF fG (fE, fV, kf)).2)))] _ := hP
    have hD : va_D A [(o, .inr (2, [.ref oK, .ref oM, .ref aO, .ref aP, .ref aQ, .int rdy])), (aB, .inl (E.2.1, 16, .inl fB)), (aO, .inl (E.2.1, 16, .inl fO)), (aP, .inl (E.2.1, 16, .inl fP)), (aQ, .inl (E.2.1, 16, .inl fQ)), (oM, .inr (1, [.ref aS, .int (nI kf), .int 0, .int 1, .int 0, .int 0])), (aS, .inl (E.2.1, 16, .inl ((enM fW fF fG (fE, fV, kf)).1))), (oK, .inr (0, [.ref aB, .ref aW, .ref aF, .ref aG, .ref aV, .int mde])), (aW, .inl (E.2.1, 176, .inl fW)), (aF, .inl (E.2.1, 16, .inl fF)), (aG, .inl (E.2.1, 16, .inl fG)), (aV, .inl (E.2.1, 16, .inl ((enM fW fF fG (fE, fV, kf)).2)))] := hD
    refine lv_iconst (v := 1) hx hb dX2_macFinish_23 (by decide) ?_
    have hP := hP.sub (ws' := [(o, .inr (2, [.ref oK, .ref oM, .ref aO, .ref aP, .ref aQ, .int rdy])), (oK, .inr (0, [.ref aB, .ref aW, .ref aF, .ref aG, .ref aV, .int mde])), (oM, .inr (1, [.ref aS, .int (nI kf), .int 0, .int 1, .int 0, .int 0])), (aB, .inl (E.2.1, 16, .inl fB)), (aW, .inl (E.2.1, 176, .inl fW)), (aF, .inl (E.2.1, 16, .inl fF)), (aG, .inl (E.2.1, 16, .inl fG)), (aV, .inl (E.2.1, 16, .inl ((enM fW fF fG (fE, fV, kf)).2))), (aS, .inl (E.2.1, 16, .inl ((enM fW fF fG (fE, fV, kf)).1))), (aO, .inl (E.2.1, 16, .inl fO)), (aP, .inl (E.2.1, 16, .inl fP)), (aQ, .inl (E.2.1, 16, .inl fQ))]) [0, 7, 5, 1, 8, 9, 10, 11, 6, 2, 3, 4] rfl
    have hD := hD.sub (ws' := [(o, .inr (2, [.ref oK, .ref oM, .ref aO, .ref aP, .ref aQ, .int rdy])), (oK, .inr (0, [.ref aB, .ref aW, .ref aF, .ref aG, .ref aV, .int mde])), (oM, .inr (1, [.ref aS, .int (nI kf), .int 0, .int 1, .int 0, .int 0])), (aB, .inl (E.2.1, 16, .inl fB)), (aW, .inl (E.2.1, 176, .inl fW)), (aF, .inl (E.2.1, 16, .inl fF)), (aG, .inl (E.2.1, 16, .inl fG)), (aV, .inl (E.2.1, 16, .inl ((enM fW fF fG (fE, fV, kf)).2))), (aS, .inl (E.2.1, 16, .inl ((enM fW fF fG (fE, fV, kf)).1))), (aO, .inl (E.2.1, 16, .inl fO)), (aP, .inl (E.2.1, 16, .inl fP)), (aQ, .inl (E.2.1, 16, .inl fQ))]) [0, 7, 5, 1, 8, 9, 10, 11, 6, 2, 3, 4] (by decide) rfl
    have hP : va_P E.1 classes [(o, .inr (2, [.ref oK, .ref oM, .ref aO, .ref aP, .ref aQ, .int rdy])), (oK, .inr (0, [.ref aB, .ref aW, .ref aF, .ref aG, .ref aV, .int mde])), (oM, .inr (1, [.ref aS, .int (nI kf), .int 0, .int 1, .int 0, .int 0])), (aB, .inl (E.2.1, 16, .inl fB)), (aW, .inl (E.2.1, 176, .inl fW)), (aF, .inl (E.2.1, 16, .inl fF)), (aG, .inl (E.2.1, 16, .inl fG)), (aV, .inl (E.2.1, 16, .inl ((enM fW fF fG (fE, fV, kf)).2))), (aS, .inl (E.2.1, 16, .inl ((enM fW fF fG (fE, fV, kf)).1))), (aO, .inl (E.2.1, 16, .inl fO)), (aP, .inl (E.2.1, 16, .inl fP)), (aQ, .inl (E.2.1, 16, .inl fQ))] _ := hP
    have hD : va_D A [(o, .inr (2, [.ref oK, .ref oM, .ref aO, .ref aP, .ref aQ, .int rdy])), (oK, .inr (0, [.ref aB, .ref aW, .ref aF, .ref aG, .ref aV, .int mde])), (oM, .inr (1, [.ref aS, .int (nI kf), .int 0, .int 1, .int 0, .int 0])), (aB, .inl (E.2.1, 16, .inl fB)), (aW, .inl (E.2.1, 176, .inl fW)), (aF, .inl (E.2.1, 16, .inl fF)), (aG, .inl (E.2.1, 16, .inl fG)), (aV, .inl (E.2.1, 16, .inl ((enM fW fF fG (fE, fV, kf)).2))), (aS, .inl (E.2.1, 16, .inl ((enM fW fF fG (fE, fV, kf)).1))), (aO, .inl (E.2.1, 16, .inl fO)), (aP, .inl (E.2.1, 16, .inl fP)), (aQ, .inl (E.2.1, 16, .inl fQ))] := hD
    exact x_iret B hP hD hS rfl rfl dX2_macFinish_24
  · exact absurd c_7 ho
set_option maxHeartbeats 4000000 in
set_option maxRecDepth 100000 in
/-- tagByte -/
theorem c_X2_tagByte_yes (l : Launch) (E : EE) (o oK oM aB aW aF aG aV aS aO aP aQ : Nat) (fB fW fF fG fV fE fO fP fQ : Nat → Int32) (mde fil opn end_ cmp_ dif rdy : Int32) (k : Nat) (p0 : Int32) (hv : p0 = nI k) (hk : k < 16) (he : ¬ end_ = 0)   : Ci l yX2_tagByte (.code yX2_tagByte cX2_tagByte 2 (some .int)) ({ frames := 1, cells := 0, slots := 0, locals := 20 }) E [.ref o, .int p0] (fE k) [(o, .inr (2, [.ref oK, .ref oM, .ref aO, .ref aP, .ref aQ, .int rdy])), (oK, .inr (0, [.ref aB, .ref aW, .ref aF, .ref aG, .ref aV, .int mde])), (oM, .inr (1, [.ref aS, .int fil, .int opn, .int end_, .int cmp_, .int dif])), (aB, .inl (E.2.1, 16, .inl fB)), (aW, .inl (E.2.1, 176, .inl fW)), (aF, .inl (E.2.1, 16, .inl fF)), (aG, .inl (E.2.1, 16, .inl fG)), (aV, .inl (E.2.1, 16, .inl fV)), (aS, .inl (E.2.1, 16, .inl fE)), (aO, .inl (E.2.1, 16, .inl fO)), (aP, .inl (E.2.1, 16, .inl fP)), (aQ, .inl (E.2.1, 16, .inl fQ))] [(o, .inr (2, [.ref oK, .ref oM, .ref aO, .ref aP, .ref aQ, .int rdy])), (oK, .inr (0, [.ref aB, .ref aW, .ref aF, .ref aG, .ref aV, .int mde])), (oM, .inr (1, [.ref aS, .int fil, .int opn, .int end_, .int cmp_, .int dif])), (aB, .inl (E.2.1, 16, .inl fB)), (aW, .inl (E.2.1, 176, .inl fW)), (aF, .inl (E.2.1, 16, .inl fF)), (aG, .inl (E.2.1, 16, .inl fG)), (aV, .inl (E.2.1, 16, .inl fV)), (aS, .inl (E.2.1, 16, .inl fE)), (aO, .inl (E.2.1, 16, .inl fO)), (aP, .inl (E.2.1, 16, .inl fP)), (aQ, .inl (E.2.1, 16, .inl fQ))] := by
  refine Ci.of (by decide) (Nat.le_of_ble_eq_true rfl) ?_
  intro p e s m below meth c A ls B hP hD hS hl
  have hl : lv_has ls 2 [(0, .ref o), (1, .int p0)] := hl
  have B : Bd p s m _ meth c cX2_tagByte 2 (some .int) RX2 E A := B
  have hx := B.1
  have hb := B.2.1
  have hP : va_P E.1 classes [(o, .inr (2, [.ref oK, .ref oM, .ref aO, .ref aP, .ref aQ, .int rdy])), (oK, .inr (0, [.ref aB, .ref aW, .ref aF, .ref aG, .ref aV, .int mde])), (oM, .inr (1, [.ref aS, .int fil, .int opn, .int end_, .int cmp_, .int dif])), (aB, .inl (E.2.1, 16, .inl fB)), (aW, .inl (E.2.1, 176, .inl fW)), (aF, .inl (E.2.1, 16, .inl fF)), (aG, .inl (E.2.1, 16, .inl fG)), (aV, .inl (E.2.1, 16, .inl fV)), (aS, .inl (E.2.1, 16, .inl fE)), (aO, .inl (E.2.1, 16, .inl fO)), (aP, .inl (E.2.1, 16, .inl fP)), (aQ, .inl (E.2.1, 16, .inl fQ))] _ := hP
  have hD : va_D A [(o, .inr (2, [.ref oK, .ref oM, .ref aO, .ref aP, .ref aQ, .int rdy])), (oK, .inr (0, [.ref aB, .ref aW, .ref aF, .ref aG, .ref aV, .int mde])), (oM, .inr (1, [.ref aS, .int fil, .int opn, .int end_, .int cmp_, .int dif])), (aB, .inl (E.2.1, 16, .inl fB)), (aW, .inl (E.2.1, 176, .inl fW)), (aF, .inl (E.2.1, 16, .inl fF)), (aG, .inl (E.2.1, 16, .inl fG)), (aV, .inl (E.2.1, 16, .inl fV)), (aS, .inl (E.2.1, 16, .inl fE)), (aO, .inl (E.2.1, 16, .inl fO)), (aP, .inl (E.2.1, 16, .inl fP)), (aQ, .inl (E.2.1, 16, .inl fQ))] := hD
  have h1 : ¬ plM p0 = 0 := one_ne (pl_yes hv hk)
  refine lv_aload_n hx hb dX2_tagByte_0 rfl (lv_at hl 0 rfl) ?_
  refine x_get B hP 0 rfl rfl i_X2 1 (by decide) g_77 rfl dX2_tagByte_1 ?_
  refine x_getN B hP 2 rfl rfl i_X1 3 (by decide) n_58 rfl dX2_tagByte_4 ?_
  refine lv_if_eq (tgt := 29) hx hb dX2_tagByte_7 (by decide) (fun c_7 => ?_) (fun c_7 => ?_)
  · exact absurd c_7 he
  · refine lv_iload_n hx hb dX2_tagByte_10 rfl (lv_at hl 1 rfl) ?_
    refine x_Si (wr := [(o, .inr (2, [.ref oK, .ref oM, .ref aO, .ref aP, .ref aQ, .int rdy])), (oK, .inr (0, [.ref aB, .ref aW, .ref aF, .ref aG, .ref aV, .int mde])), (oM, .inr (1, [.ref aS, .int fil, .int opn, .int end_, .int cmp_, .int dif])), (aB, .inl (E.2.1, 16, .inl fB)), (aW, .inl (E.2.1, 176, .inl fW)), (aF, .inl (E.2.1, 16, .inl fF)), (aG, .inl (E.2.1, 16, .inl fG)), (aV, .inl (E.2.1, 16, .inl fV)), (aS, .inl (E.2.1, 16, .inl fE)), (aO, .inl (E.2.1, 16, .inl fO)), (aP, .inl (E.2.1, 16, .inl fP)), (aQ, .inl (E.2.1, 16, .inl fQ))]) (isC := []) (isR := [0, 1, 2, 3, 4, 5, 6, 7, 8, 9, 10, 11]) (As := [.int p0]) B (c_X2_isPlace l E p0) k_X2_isPlace g_114 s_X2_isPlace ⟨by decide, by decide, rfl, rfl⟩ hP hD hS ⟨rfl, rfl, rfl, rfl, by decide⟩ rfl hl.1 rfl (Nat.le_of_ble_eq_true rfl) dX2_tagByte_11 ⟨by decide, by decide⟩ (fun H locs hP hD hS => ?_)
    have hP : va_P E.1 classes [(o, .inr (2, [.ref oK, .ref oM, .ref aO, .ref aP, .ref aQ, .int rdy])), (oK, .inr (0, [.ref aB, .ref aW, .ref aF, .ref aG, .ref aV, .int mde])), (oM, .inr (1, [.ref aS, .int fil, .int opn, .int end_, .int cmp_, .int dif])), (aB, .inl (E.2.1, 16, .inl fB)), (aW, .inl (E.2.1, 176, .inl fW)), (aF, .inl (E.2.1, 16, .inl fF)), (aG, .inl (E.2.1, 16, .inl fG)), (aV, .inl (E.2.1, 16, .inl fV)), (aS, .inl (E.2.1, 16, .inl fE)), (aO, .inl (E.2.1, 16, .inl fO)), (aP, .inl (E.2.1, 16, .inl fP)), (aQ, .inl (E.2.1, 16, .inl fQ))] _ := hP
    have hD : va_D A [(o, .inr (2, [.ref oK, .ref oM, .ref aO, .ref aP, .ref aQ, .int rdy])), (oK, .inr (0, [.ref aB, .ref aW, .ref aF, .ref aG, .ref aV, .int mde])), (oM, .inr (1, [.ref aS, .int fil, .int opn, .int end_, .int cmp_, .int dif])), (aB, .inl (E.2.1, 16, .inl fB)), (aW, .inl (E.2.1, 176, .inl fW)), (aF, .inl (E.2.1, 16, .inl fF)), (aG, .inl (E.2.1, 16, .inl fG)), (aV, .inl (E.2.1, 16, .inl fV)), (aS, .inl (E.2.1, 16, .inl fE)), (aO, .inl (E.2.1, 16, .inl fO)), (aP, .inl (E.2.1, 16, .inl fP)), (aQ, .inl (E.2.1, 16, .inl fQ))] := hD
    refine lv_if_eq (tgt := 29) hx hb dX2_tagByte_14 (by decide) (fun c_14 => ?_) (fun c_14 => ?_)
    · exact absurd c_14 h1
    · refine lv_aload_n hx hb dX2_tagByte_17 rfl (lv_at hl 0 rfl) ?_
      refine x_get B hP 0 rfl rfl i_X2 1 (by decide) g_77 rfl dX2_tagByte_18 ?_
      refine x_getN B hP 2 rfl rfl i_X1 0 (by decide) n_53 rfl dX2_tagByte_21 ?_
      refine lv_iload_n hx hb dX2_tagByte_24 rfl (lv_at hl 1 rfl) ?_
      refine x_ald B hP 8 rfl k hv hk (by decide) dX2_tagByte_25 ?_
      refine lv_goto (tgt := 30) hx hb dX2_tagByte_26 (by decide) ?_
      have hP : va_P E.1 classes [(o, .inr (2, [.ref oK, .ref oM, .ref aO, .ref aP, .ref aQ, .int rdy])), (oK, .inr (0, [.ref aB, .ref aW, .ref aF, .ref aG, .ref aV, .int mde])), (oM, .inr (1, [.ref aS, .int fil, .int opn, .int end_, .int cmp_, .int dif])), (aB, .inl (E.2.1, 16, .inl fB)), (aW, .inl (E.2.1, 176, .inl fW)), (aF, .inl (E.2.1, 16, .inl fF)), (aG, .inl (E.2.1, 16, .inl fG)), (aV, .inl (E.2.1, 16, .inl fV)), (aS, .inl (E.2.1, 16, .inl fE)), (aO, .inl (E.2.1, 16, .inl fO)), (aP, .inl (E.2.1, 16, .inl fP)), (aQ, .inl (E.2.1, 16, .inl fQ))] _ := hP
      have hD : va_D A [(o, .inr (2, [.ref oK, .ref oM, .ref aO, .ref aP, .ref aQ, .int rdy])), (oK, .inr (0, [.ref aB, .ref aW, .ref aF, .ref aG, .ref aV, .int mde])), (oM, .inr (1, [.ref aS, .int fil, .int opn, .int end_, .int cmp_, .int dif])), (aB, .inl (E.2.1, 16, .inl fB)), (aW, .inl (E.2.1, 176, .inl fW)), (aF, .inl (E.2.1, 16, .inl fF)), (aG, .inl (E.2.1, 16, .inl fG)), (aV, .inl (E.2.1, 16, .inl fV)), (aS, .inl (E.2.1, 16, .inl fE)), (aO, .inl (E.2.1, 16, .inl fO)), (aP, .inl (E.2.1, 16, .inl fP)), (aQ, .inl (E.2.1, 16, .inl fQ))] := hD
      exact x_iret B hP hD hS rfl rfl dX2_tagByte_30
set_option maxHeartbeats 4000000 in
set_option maxRecDepth 100000 in
/-- macCheck -/
theorem c_X2_macCheck_yes (l : Launch) (E : EE) (o oK oM aB aW aF aG aV aS aO aP aQ : Nat) (fB fW fF fG fV fE fO fP fQ : Nat → Int32) (mde fil opn end_ cmp_ dif rdy : Int32) (k : Nat) (p0 : Int32) (hv : p0 = nI k) (hk : k < 16) (p1 : Int32) (he : ¬ end_ = 0)   : Ci l yX2_macCheck (.code yX2_macCheck cX2_macCheck 3 (some .boolean)) ({ frames := 1, cells := 0, slots := 0, locals := 22 }) E [.ref o, .int p0, .int p1] 1 [(o, .inr (2, [.ref oK, .ref oM, .ref aO, .ref aP, .ref aQ, .int rdy])), (oK, .inr (0, [.ref aB, .ref aW, .ref aF, .ref aG, .ref aV, .int mde])), (oM, .inr (1, [.ref aS, .int fil, .int opn, .int end_, .int cmp_, .int dif])), (aB, .inl (E.2.1, 16, .inl fB)), (aW, .inl (E.2.1, 176, .inl fW)), (aF, .inl (E.2.1, 16, .inl fF)), (aG, .inl (E.2.1, 16, .inl fG)), (aV, .inl (E.2.1, 16, .inl fV)), (aS, .inl (E.2.1, 16, .inl fE)), (aO, .inl (E.2.1, 16, .inl fO)), (aP, .inl (E.2.1, 16, .inl fP)), (aQ, .inl (E.2.1, 16, .inl fQ))] [(o, .inr (2, [.ref oK, .ref oM, .ref aO, .ref aP, .ref aQ, .int rdy])), (oK, .inr (0, [.ref aB, .ref aW, .ref aF, .ref aG, .ref aV, .int mde])), (oM, .inr (1, [.ref aS, .int fil, .int opn, .int end_, .int (cmp_ ||| ((1 : Int32) <<< (p0 &&& 31))), .int (if fE k = p1 then dif else 1)])), (aB, .inl (E.2.1, 16, .inl fB)), (aW, .inl (E.2.1, 176, .inl fW)), (aF, .inl (E.2.1, 16, .inl fF)), (aG, .inl (E.2.1, 16, .inl fG)), (aV, .inl (E.2.1, 16, .inl fV)), (aS, .inl (E.2.1, 16, .inl fE)), (aO, .inl (E.2.1, 16, .inl fO)), (aP, .inl (E.2.1, 16, .inl fP)), (aQ, .inl (E.2.1, 16, .inl fQ))] := by
  refine Ci.of (by decide) (Nat.le_of_ble_eq_true rfl) ?_
  intro p e s m below meth c A ls B hP hD hS hl
  have hl : lv_has ls 3 [(0, .ref o), (1, .int p0), (2, .int p1)] := hl
  have B : Bd p s m _ meth c cX2_macCheck 3 (some .boolean) RX2 E A := B
  have hx := B.1
  have hb := B.2.1
  have hP : va_P E.1 classes [(o, .inr (2, [.ref oK, .ref oM, .ref aO, .ref aP, .ref aQ, .int rdy])), (oK, .inr (0, [.ref aB, .ref aW, .ref aF, .ref aG, .ref aV, .int mde])), (oM, .inr (1, [.ref aS, .int fil, .int opn, .int end_, .int cmp_, .int dif])), (aB, .inl (E.2.1, 16, .inl fB)), (aW, .inl (E.2.1, 176, .inl fW)), (aF, .inl (E.2.1, 16, .inl fF)), (aG, .inl (E.2.1, 16, .inl fG)), (aV, .inl (E.2.1, 16, .inl fV)), (aS, .inl (E.2.1, 16, .inl fE)), (aO, .inl (E.2.1, 16, .inl fO)), (aP, .inl (E.2.1, 16, .inl fP)), (aQ, .inl (E.2.1, 16, .inl fQ))] _ := hP
  have hD : va_D A [(o, .inr (2, [.ref oK, .ref oM, .ref aO, .ref aP, .ref aQ, .int rdy])), (oK, .inr (0, [.ref aB, .ref aW, .ref aF, .ref aG, .ref aV, .int mde])), (oM, .inr (1, [.ref aS, .int fil, .int opn, .int end_, .int cmp_, .int dif])), (aB, .inl (E.2.1, 16, .inl fB)), (aW, .inl (E.2.1, 176, .inl fW)), (aF, .inl (E.2.1, 16, .inl fF)), (aG, .inl (E.2.1, 16, .inl fG)), (aV, .inl (E.2.1, 16, .inl fV)), (aS, .inl (E.2.1, 16, .inl fE)), (aO, .inl (E.2.1, 16, .inl fO)), (aP, .inl (E.2.1, 16, .inl fP)), (aQ, .inl (E.2.1, 16, .inl fQ))] := hD
  have h1 : ¬ plM p0 = 0 := one_ne (pl_yes hv hk)
  refine lv_aload_n hx hb dX2_macCheck_0 rfl (lv_at hl 0 rfl) ?_
  refine x_get B hP 0 rfl rfl i_X2 1 (by decide) g_77 rfl dX2_macCheck_1 ?_
  refine x_getN B hP 2 rfl rfl i_X1 3 (by decide) n_58 rfl dX2_macCheck_4 ?_
  refine lv_if_eq (tgt := 17) hx hb dX2_macCheck_7 (by decide) (fun c_7 => ?_) (fun c_7 => ?_)
  · exact absurd c_7 he
  · refine lv_iload_n hx hb dX2_macCheck_10 rfl (lv_at hl 1 rfl) ?_
    refine x_Si (wr := [(o, .inr (2, [.ref oK, .ref oM, .ref aO, .ref aP, .ref aQ, .int rdy])), (oK, .inr (0, [.ref aB, .ref aW, .ref aF, .ref aG, .ref aV, .int mde])), (oM, .inr (1, [.ref aS, .int fil, .int opn, .int end_, .int cmp_, .int dif])), (aB, .inl (E.2.1, 16, .inl fB)), (aW, .inl (E.2.1, 176, .inl fW)), (aF, .inl (E.2.1, 16, .inl fF)), (aG, .inl (E.2.1, 16, .inl fG)), (aV, .inl (E.2.1, 16, .inl fV)), (aS, .inl (E.2.1, 16, .inl fE)), (aO, .inl (E.2.1, 16, .inl fO)), (aP, .inl (E.2.1, 16, .inl fP)), (aQ, .inl (E.2.1, 16, .inl fQ))]) (isC := []) (isR := [0, 1, 2, 3, 4, 5, 6, 7, 8, 9, 10, 11]) (As := [.int p0]) B (c_X2_isPlace l E p0) k_X2_isPlace g_114 s_X2_isPlace ⟨by decide, by decide, rfl, rfl⟩ hP hD hS ⟨rfl, rfl, rfl, rfl, by decide⟩ rfl hl.1 rfl (Nat.le_of_ble_eq_true rfl) dX2_macCheck_11 ⟨by decide, by decide⟩ (fun H locs hP hD hS => ?_)
    have hP : va_P E.1 classes [(o, .inr (2, [.ref oK, .ref oM, .ref aO, .ref aP, .ref aQ, .int rdy])), (oK, .inr (0, [.ref aB, .ref aW, .ref aF, .ref aG, .ref aV, .int mde])), (oM, .inr (1, [.ref aS, .int fil, .int opn, .int end_, .int cmp_, .int dif])), (aB, .inl (E.2.1, 16, .inl fB)), (aW, .inl (E.2.1, 176, .inl fW)), (aF, .inl (E.2.1, 16, .inl fF)), (aG, .inl (E.2.1, 16, .inl fG)), (aV, .inl (E.2.1, 16, .inl fV)), (aS, .inl (E.2.1, 16, .inl fE)), (aO, .inl (E.2.1, 16, .inl fO)), (aP, .inl (E.2.1, 16, .inl fP)), (aQ, .inl (E.2.1, 16, .inl fQ))] _ := hP
    have hD : va_D A [(o, .inr (2, [.ref oK, .ref oM, .ref aO, .ref aP, .ref aQ, .int rdy])), (oK, .inr (0, [.ref aB, .ref aW, .ref aF, .ref aG, .ref aV, .int mde])), (oM, .inr (1, [.ref aS, .int fil, .int opn, .int end_, .int cmp_, .int dif])), (aB, .inl (E.2.1, 16, .inl fB)), (aW, .inl (E.2.1, 176, .inl fW)), (aF, .inl (E.2.1, 16, .inl fF)), (aG, .inl (E.2.1, 16, .inl fG)), (aV, .inl (E.2.1, 16, .inl fV)), (aS, .inl (E.2.1, 16, .inl fE)), (aO, .inl (E.2.1, 16, .inl fO)), (aP, .inl (E.2.1, 16, .inl fP)), (aQ, .inl (E.2.1, 16, .inl fQ))] := hD
    refine lv_if_ne (tgt := 19) hx hb dX2_macCheck_14 (by decide) (fun c_14 => ?_) (fun c_14 => ?_)
    · refine lv_aload_n hx hb dX2_macCheck_19 rfl (lv_at hl 0 rfl) ?_
      refine x_get B hP 0 rfl rfl i_X2 1 (by decide) g_77 rfl dX2_macCheck_20 ?_
      refine lv_iload_n hx hb dX2_macCheck_23 rfl (lv_at hl 1 rfl) ?_
      refine lv_iload_n hx hb dX2_macCheck_24 rfl (lv_at hl 2 rfl) ?_
      refine x_Vv (wr := [(o, .inr (2, [.ref oK, .ref oM, .ref aO, .ref aP, .ref aQ, .int rdy])), (oK, .inr (0, [.ref aB, .ref aW, .ref aF, .ref aG, .ref aV, .int mde])), (aB, .inl (E.2.1, 16, .inl fB)), (aW, .inl (E.2.1, 176, .inl fW)), (aF, .inl (E.2.1, 16, .inl fF)), (aG, .inl (E.2.1, 16, .inl fG)), (aV, .inl (E.2.1, 16, .inl fV)), (aO, .inl (E.2.1, 16, .inl fO)), (aP, .inl (E.2.1, 16, .inl fP)), (aQ, .inl (E.2.1, 16, .inl fQ))]) (isC := [2, 8]) (isR := [0, 1, 3, 4, 5, 6, 7, 9, 10, 11]) (As := [.int p0, .int p1]) B (c_X1_compare l E oM aS fE fil opn end_ cmp_ dif k p0 p1 hv hk) k_X1_compare g_218 s_X1_compare ⟨by decide, by decide, rfl, rfl⟩ rfl 2 rfl hP hD hS ⟨rfl, rfl, rfl, rfl, by decide⟩ rfl hl.1 rfl (Nat.le_of_ble_eq_true rfl) dX2_macCheck_25 ⟨by decide, by decide⟩ (fun H locs hP hD hS => ?_)
      have hP : va_P E.1 classes [(o, .inr (2, [.ref oK, .ref oM, .ref aO, .ref aP, .ref aQ, .int rdy])), (oK, .inr (0, [.ref aB, .ref aW, .ref aF, .ref aG, .ref aV, .int mde])), (aB, .inl (E.2.1, 16, .inl fB)), (aW, .inl (E.2.1, 176, .inl fW)), (aF, .inl (E.2.1, 16, .inl fF)), (aG, .inl (E.2.1, 16, .inl fG)), (aV, .inl (E.2.1, 16, .inl fV)), (aO, .inl (E.2.1, 16, .inl fO)), (aP, .inl (E.2.1, 16, .inl fP)), (aQ, .inl (E.2.1, 16, .inl fQ)), (oM, .inr (1, [.ref aS, .int fil, .int opn, .int end_, .int (cmp_ ||| ((1 : Int32) <<< (p0 &&& 31))), .int (if fE k = p1 then dif else 1)])), (aS, .inl (E.2.1, 16, .inl fE))] _ := hP
      have hD : va_D A [(o, .inr (2, [.ref oK, .ref oM, .ref aO, .ref aP, .ref aQ, .int rdy])), (oK, .inr (0, [.ref aB, .ref aW, .ref aF, .ref aG, .ref aV, .int mde])), (aB, .inl (E.2.1, 16, .inl fB)), (aW, .inl (E.2.1, 176, .inl fW)), (aF, .inl (E.2.1, 16, .inl fF)), (aG, .inl (E.2.1, 16, .inl fG)), (aV, .inl (E.2.1, 16, .inl fV)), (aO, .inl (E.2.1, 16, .inl fO)), (aP, .inl (E.2.1, 16, .inl fP)), (aQ, .inl (E.2.1, 16, .inl fQ)), (oM, .inr (1, [.ref aS, .int fil, .int opn, .int end_, .int (cmp_ ||| ((1 : Int32) <<< (p0 &&& 31))), .int (if fE k = p1 then dif else 1)])), (aS, .inl (E.2.1, 16, .inl fE))] := hD
      refine lv_iconst (v := 1) hx hb dX2_macCheck_28 (by decide) ?_
      have hP := hP.sub (ws' := [(o, .inr (2, [.ref oK, .ref oM, .ref aO, .ref aP, .ref aQ, .int rdy])), (oK, .inr (0, [.ref aB, .ref aW, .ref aF, .ref aG, .ref aV, .int mde])), (oM, .inr (1, [.ref aS, .int fil, .int opn, .int end_, .int (cmp_ ||| ((1 : Int32) <<< (p0 &&& 31))), .int (if fE k = p1 then dif else 1)])), (aB, .inl (E.2.1, 16, .inl fB)), (aW, .inl (E.2.1, 176, .inl fW)), (aF, .inl (E.2.1, 16, .inl fF)), (aG, .inl (E.2.1, 16, .inl fG)), (aV, .inl (E.2.1, 16, .inl fV)), (aS, .inl (E.2.1, 16, .inl fE)), (aO, .inl (E.2.1, 16, .inl fO)), (aP, .inl (E.2.1, 16, .inl fP)), (aQ, .inl (E.2.1, 16, .inl fQ))]) [0, 1, 10, 2, 3, 4, 5, 6, 11, 7, 8, 9] rfl
      have hD := hD.sub (ws' := [(o, .inr (2, [.ref oK, .ref oM, .ref aO, .ref aP, .ref aQ, .int rdy])), (oK, .inr (0, [.ref aB, .ref aW, .ref aF, .ref aG, .ref aV, .int mde])), (oM, .inr (1, [.ref aS, .int fil, .int opn, .int end_, .int (cmp_ ||| ((1 : Int32) <<< (p0 &&& 31))), .int (if fE k = p1 then dif else 1)])), (aB, .inl (E.2.1, 16, .inl fB)), (aW, .inl (E.2.1, 176, .inl fW)), (aF, .inl (E.2.1, 16, .inl fF)), (aG, .inl (E.2.1, 16, .inl fG)), (aV, .inl (E.2.1, 16, .inl fV)), (aS, .inl (E.2.1, 16, .inl fE)), (aO, .inl (E.2.1, 16, .inl fO)), (aP, .inl (E.2.1, 16, .inl fP)), (aQ, .inl (E.2.1, 16, .inl fQ))]) [0, 1, 10, 2, 3, 4, 5, 6, 11, 7, 8, 9] (by decide) rfl
      have hP : va_P E.1 classes [(o, .inr (2, [.ref oK, .ref oM, .ref aO, .ref aP, .ref aQ, .int rdy])), (oK, .inr (0, [.ref aB, .ref aW, .ref aF, .ref aG, .ref aV, .int mde])), (oM, .inr (1, [.ref aS, .int fil, .int opn, .int end_, .int (cmp_ ||| ((1 : Int32) <<< (p0 &&& 31))), .int (if fE k = p1 then dif else 1)])), (aB, .inl (E.2.1, 16, .inl fB)), (aW, .inl (E.2.1, 176, .inl fW)), (aF, .inl (E.2.1, 16, .inl fF)), (aG, .inl (E.2.1, 16, .inl fG)), (aV, .inl (E.2.1, 16, .inl fV)), (aS, .inl (E.2.1, 16, .inl fE)), (aO, .inl (E.2.1, 16, .inl fO)), (aP, .inl (E.2.1, 16, .inl fP)), (aQ, .inl (E.2.1, 16, .inl fQ))] _ := hP
      have hD : va_D A [(o, .inr (2, [.ref oK, .ref oM, .ref aO, .ref aP, .ref aQ, .int rdy])), (oK, .inr (0, [.ref aB, .ref aW, .ref aF, .ref aG, .ref aV, .int mde])), (oM, .inr (1, [.ref aS, .int fil, .int opn, .int end_, .int (cmp_ ||| ((1 : Int32) <<< (p0 &&& 31))), .int (if fE k = p1 then dif else 1)])), (aB, .inl (E.2.1, 16, .inl fB)), (aW, .inl (E.2.1, 176, .inl fW)), (aF, .inl (E.2.1, 16, .inl fF)), (aG, .inl (E.2.1, 16, .inl fG)), (aV, .inl (E.2.1, 16, .inl fV)), (aS, .inl (E.2.1, 16, .inl fE)), (aO, .inl (E.2.1, 16, .inl fO)), (aP, .inl (E.2.1, 16, .inl fP)), (aQ, .inl (E.2.1, 16, .inl fQ))] := hD
      exact x_iret B hP hD hS rfl rfl dX2_macCheck_29
    · exact absurd c_14 h1
def vcM (end_ cmp_ dif : Int32) : Int32 := if end_ = 0 then 0 else if cmp_ = 65535 then (if dif = 0 then 1 else 0) else 0
set_option maxHeartbeats 4000000 in
set_option maxRecDepth 100000 in
/-- macVerdict -/
theorem c_X2_macVerdict_all (l : Launch) (E : EE) (o oK oM aB aW aF aG aV aS aO aP aQ : Nat) (fB fW fF fG fV fE fO fP fQ : Nat → Int32) (mde fil opn end_ cmp_ dif rdy : Int32)    : Ci l yX2_macVerdict (.code yX2_macVerdict cX2_macVerdict 1 (some .boolean)) ({ frames := 0, cells := 0, slots := 0, locals := 0 }) E [.ref o] (vcM end_ cmp_ dif) [(o, .inr (2, [.ref oK, .ref oM, .ref aO, .ref aP, .ref aQ, .int rdy])), (oK, .inr (0, [.ref aB, .ref aW, .ref aF, .ref aG, .ref aV, .int mde])), (oM, .inr (1, [.ref aS, .int fil, .int opn, .int end_, .int cmp_, .int dif])), (aB, .inl (E.2.1, 16, .inl fB)), (aW, .inl (E.2.1, 176, .inl fW)), (aF, .inl (E.2.1, 16, .inl fF)), (aG, .inl (E.2.1, 16, .inl fG)), (aV, .inl (E.2.1, 16, .inl fV)), (aS, .inl (E.2.1, 16, .inl fE)), (aO, .inl (E.2.1, 16, .inl fO)), (aP, .inl (E.2.1, 16, .inl fP)), (aQ, .inl (E.2.1, 16, .inl fQ))] [(o, .inr (2, [.ref oK, .ref oM, .ref aO, .ref aP, .ref aQ, .int rdy])), (oK, .inr (0, [.ref aB, .ref aW, .ref aF, .ref aG, .ref aV, .int mde])), (oM, .inr (1, [.ref aS, .int fil, .int opn, .int end_, .int cmp_, .int dif])), (aB, .inl (E.2.1, 16, .inl fB)), (aW, .inl (E.2.1, 176, .inl fW)), (aF, .inl (E.2.1, 16, .inl fF)), (aG, .inl (E.2.1, 16, .inl fG)), (aV, .inl (E.2.1, 16, .inl fV)), (aS, .inl (E.2.1, 16, .inl fE)), (aO, .inl (E.2.1, 16, .inl fO)), (aP, .inl (E.2.1, 16, .inl fP)), (aQ, .inl (E.2.1, 16, .inl fQ))] := by
  refine Ci.of (by decide) (Nat.le_of_ble_eq_true rfl) ?_
  intro p e s m below meth c A ls B hP hD hS hl
  have hl : lv_has ls 1 [(0, .ref o)] := hl
  have B : Bd p s m _ meth c cX2_macVerdict 1 (some .boolean) RX2 E A := B
  have hx := B.1
  have hb := B.2.1
  have hP : va_P E.1 classes [(o, .inr (2, [.ref oK, .ref oM, .ref aO, .ref aP, .ref aQ, .int rdy])), (oK, .inr (0, [.ref aB, .ref aW, .ref aF, .ref aG, .ref aV, .int mde])), (oM, .inr (1, [.ref aS, .int fil, .int opn, .int end_, .int cmp_, .int dif])), (aB, .inl (E.2.1, 16, .inl fB)), (aW, .inl (E.2.1, 176, .inl fW)), (aF, .inl (E.2.1, 16, .inl fF)), (aG, .inl (E.2.1, 16, .inl fG)), (aV, .inl (E.2.1, 16, .inl fV)), (aS, .inl (E.2.1, 16, .inl fE)), (aO, .inl (E.2.1, 16, .inl fO)), (aP, .inl (E.2.1, 16, .inl fP)), (aQ, .inl (E.2.1, 16, .inl fQ))] _ := hP
  have hD : va_D A [(o, .inr (2, [.ref oK, .ref oM, .ref aO, .ref aP, .ref aQ, .int rdy])), (oK, .inr (0, [.ref aB, .ref aW, .ref aF, .ref aG, .ref aV, .int mde])), (oM, .inr (1, [.ref aS, .int fil, .int opn, .int end_, .int cmp_, .int dif])), (aB, .inl (E.2.1, 16, .inl fB)), (aW, .inl (E.2.1, 176, .inl fW)), (aF, .inl (E.2.1, 16, .inl fF)), (aG, .inl (E.2.1, 16, .inl fG)), (aV, .inl (E.2.1, 16, .inl fV)), (aS, .inl (E.2.1, 16, .inl fE)), (aO, .inl (E.2.1, 16, .inl fO)), (aP, .inl (E.2.1, 16, .inl fP)), (aQ, .inl (E.2.1, 16, .inl fQ))] := hD
  refine lv_aload_n hx hb dX2_macVerdict_0 rfl (lv_at hl 0 rfl) ?_
  refine x_get B hP 0 rfl rfl i_X2 1 (by decide) g_77 rfl dX2_macVerdict_1 ?_
  refine x_getN B hP 2 rfl rfl i_X1 3 (by decide) n_58 rfl dX2_macVerdict_4 ?_
  refine lv_if_eq (tgt := 36) hx hb dX2_macVerdict_7 (by decide) (fun c_7 => ?_) (fun c_7 => ?_)
  · refine lv_iconst (v := 0) hx hb dX2_macVerdict_36 (by decide) ?_
    have hP : va_P E.1 classes [(o, .inr (2, [.ref oK, .ref oM, .ref aO, .ref aP, .ref aQ, .int rdy])), (oK, .inr (0, [.ref aB, .ref aW, .ref aF, .ref aG, .ref aV, .int mde])), (oM, .inr (1, [.ref aS, .int fil, .int opn, .int end_, .int cmp_, .int dif])), (aB, .inl (E.2.1, 16, .inl fB)), (aW, .inl (E.2.1, 176, .inl fW)), (aF, .inl (E.2.1, 16, .inl fF)), (aG, .inl (E.2.1, 16, .inl fG)), (aV, .inl (E.2.1, 16, .inl fV)), (aS, .inl (E.2.1, 16, .inl fE)), (aO, .inl (E.2.1, 16, .inl fO)), (aP, .inl (E.2.1, 16, .inl fP)), (aQ, .inl (E.2.1, 16, .inl fQ))] _ := hP
    have hD : va_D A [(o, .inr (2, [.ref oK, .ref oM, .ref aO, .ref aP, .ref aQ, .int rdy])), (oK, .inr (0, [.ref aB, .ref aW, .ref aF, .ref aG, .ref aV, .int mde])), (oM, .inr (1, [.ref aS, .int fil, .int opn, .int end_, .int cmp_, .int dif])), (aB, .inl (E.2.1, 16, .inl fB)), (aW, .inl (E.2.1, 176, .inl fW)), (aF, .inl (E.2.1, 16, .inl fF)), (aG, .inl (E.2.1, 16, .inl fG)), (aV, .inl (E.2.1, 16, .inl fV)), (aS, .inl (E.2.1, 16, .inl fE)), (aO, .inl (E.2.1, 16, .inl fO)), (aP, .inl (E.2.1, 16, .inl fP)), (aQ, .inl (E.2.1, 16, .inl fQ))] := hD
    exact x_iret B hP hD hS rfl (by unfold vcM; simp [*]) dX2_macVerdict_37
  · refine lv_aload_n hx hb dX2_macVerdict_10 rfl (lv_at hl 0 rfl) ?_
    refine x_get B hP 0 rfl rfl i_X2 1 (by decide) g_77 rfl dX2_macVerdict_11 ?_
    refine x_getN B hP 2 rfl rfl i_X1 4 (by decide) n_60 rfl dX2_macVerdict_14 ?_
    refine lv_ldc (v := 65535) hx hb B.ow (B.ts _ g_226) dX2_macVerdict_17 ?_
    refine lv_icmp_ne (tgt := 36) hx hb dX2_macVerdict_19 (by decide) (fun c_19 => ?_) (fun c_19 => ?_)
    · refine lv_iconst (v := 0) hx hb dX2_macVerdict_36 (by decide) ?_
      have hP : va_P E.1 classes [(o, .inr (2, [.ref oK, .ref oM, .ref aO, .ref aP, .ref aQ, .int rdy])), (oK, .inr (0, [.ref aB, .ref aW, .ref aF, .ref aG, .ref aV, .int mde])), (oM, .inr (1, [.ref aS, .int fil, .int opn, .int end_, .int cmp_, .int dif])), (aB, .inl (E.2.1, 16, .inl fB)), (aW, .inl (E.2.1, 176, .inl fW)), (aF, .inl (E.2.1, 16, .inl fF)), (aG, .inl (E.2.1, 16, .inl fG)), (aV, .inl (E.2.1, 16, .inl fV)), (aS, .inl (E.2.1, 16, .inl fE)), (aO, .inl (E.2.1, 16, .inl fO)), (aP, .inl (E.2.1, 16, .inl fP)), (aQ, .inl (E.2.1, 16, .inl fQ))] _ := hP
      have hD : va_D A [(o, .inr (2, [.ref oK, .ref oM, .ref aO, .ref aP, .ref aQ, .int rdy])), (oK, .inr (0, [.ref aB, .ref aW, .ref aF, .ref aG, .ref aV, .int mde])), (oM, .inr (1, [.ref aS, .int fil, .int opn, .int end_, .int cmp_, .int dif])), (aB, .inl (E.2.1, 16, .inl fB)), (aW, .inl (E.2.1, 176, .inl fW)), (aF, .inl (E.2.1, 16, .inl fF)), (aG, .inl (E.2.1, 16, .inl fG)), (aV, .inl (E.2.1, 16, .inl fV)), (aS, .inl (E.2.1, 16, .inl fE)), (aO, .inl (E.2.1, 16, .inl fO)), (aP, .inl (E.2.1, 16, .inl fP)), (aQ, .inl (E.2.1, 16, .inl fQ))] := hD
      exact x_iret B hP hD hS rfl (by unfold vcM; simp [*]) dX2_macVerdict_37
    · refine lv_aload_n hx hb dX2_macVerdict_22 rfl (lv_at hl 0 rfl) ?_
      refine x_get B hP 0 rfl rfl i_X2 1 (by decide) g_77 rfl dX2_macVerdict_23 ?_
      refine x_getN B hP 2 rfl rfl i_X1 5 (by decide) n_62 rfl dX2_macVerdict_26 ?_
      refine lv_if_ne (tgt := 36) hx hb dX2_macVerdict_29 (by decide) (fun c_29 => ?_) (fun c_29 => ?_)
      · refine lv_iconst (v := 0) hx hb dX2_macVerdict_36 (by decide) ?_
        have hP : va_P E.1 classes [(o, .inr (2, [.ref oK, .ref oM, .ref aO, .ref aP, .ref aQ, .int rdy])), (oK, .inr (0, [.ref aB, .ref aW, .ref aF, .ref aG, .ref aV, .int mde])), (oM, .inr (1, [.ref aS, .int fil, .int opn, .int end_, .int cmp_, .int dif])), (aB, .inl (E.2.1, 16, .inl fB)), (aW, .inl (E.2.1, 176, .inl fW)), (aF, .inl (E.2.1, 16, .inl fF)), (aG, .inl (E.2.1, 16, .inl fG)), (aV, .inl (E.2.1, 16, .inl fV)), (aS, .inl (E.2.1, 16, .inl fE)), (aO, .inl (E.2.1, 16, .inl fO)), (aP, .inl (E.2.1, 16, .inl fP)), (aQ, .inl (E.2.1, 16, .inl fQ))] _ := hP
        have hD : va_D A [(o, .inr (2, [.ref oK, .ref oM, .ref aO, .ref aP, .ref aQ, .int rdy])), (oK, .inr (0, [.ref aB, .ref aW, .ref aF, .ref aG, .ref aV, .int mde])), (oM, .inr (1, [.ref aS, .int fil, .int opn, .int end_, .int cmp_, .int dif])), (aB, .inl (E.2.1, 16, .inl fB)), (aW, .inl (E.2.1, 176, .inl fW)), (aF, .inl (E.2.1, 16, .inl fF)), (aG, .inl (E.2.1, 16, .inl fG)), (aV, .inl (E.2.1, 16, .inl fV)), (aS, .inl (E.2.1, 16, .inl fE)), (aO, .inl (E.2.1, 16, .inl fO)), (aP, .inl (E.2.1, 16, .inl fP)), (aQ, .inl (E.2.1, 16, .inl fQ))] := hD
        exact x_iret B hP hD hS rfl (by unfold vcM; simp [*]) dX2_macVerdict_37
      · refine lv_iconst (v := 1) hx hb dX2_macVerdict_32 (by decide) ?_
        refine lv_goto (tgt := 37) hx hb dX2_macVerdict_33 (by decide) ?_
        have hP : va_P E.1 classes [(o, .inr (2, [.ref oK, .ref oM, .ref aO, .ref aP, .ref aQ, .int rdy])), (oK, .inr (0, [.ref aB, .ref aW, .ref aF, .ref aG, .ref aV, .int mde])), (oM, .inr (1, [.ref aS, .int fil, .int opn, .int end_, .int cmp_, .int dif])), (aB, .inl (E.2.1, 16, .inl fB)), (aW, .inl (E.2.1, 176, .inl fW)), (aF, .inl (E.2.1, 16, .inl fF)), (aG, .inl (E.2.1, 16, .inl fG)), (aV, .inl (E.2.1, 16, .inl fV)), (aS, .inl (E.2.1, 16, .inl fE)), (aO, .inl (E.2.1, 16, .inl fO)), (aP, .inl (E.2.1, 16, .inl fP)), (aQ, .inl (E.2.1, 16, .inl fQ))] _ := hP
        have hD : va_D A [(o, .inr (2, [.ref oK, .ref oM, .ref aO, .ref aP, .ref aQ, .int rdy])), (oK, .inr (0, [.ref aB, .ref aW, .ref aF, .ref aG, .ref aV, .int mde])), (oM, .inr (1, [.ref aS, .int fil, .int opn, .int end_, .int cmp_, .int dif])), (aB, .inl (E.2.1, 16, .inl fB)), (aW, .inl (E.2.1, 176, .inl fW)), (aF, .inl (E.2.1, 16, .inl fF)), (aG, .inl (E.2.1, 16, .inl fG)), (aV, .inl (E.2.1, 16, .inl fV)), (aS, .inl (E.2.1, 16, .inl fE)), (aO, .inl (E.2.1, 16, .inl fO)), (aP, .inl (E.2.1, 16, .inl fP)), (aQ, .inl (E.2.1, 16, .inl fQ))] := hD
        exact x_iret B hP hD hS rfl (by unfold vcM; simp [*]) dX2_macVerdict_37
set_option maxHeartbeats 4000000 in
set_option maxRecDepth 100000 in
/-- setBlockByte -/
theorem c_X2_setBlockByte_yes (l : Launch) (E : EE) (o oK oM aB aW aF aG aV aS aO aP aQ : Nat) (fB fW fF fG fV fE fO fP fQ : Nat → Int32) (mde fil opn end_ cmp_ dif rdy : Int32) (k : Nat) (p0 : Int32) (hv : p0 = nI k) (hk : k < 16) (p1 : Int32) (hby : By p1) (hr : ¬ rdy = 0)   : Ci l yX2_setBlockByte (.code yX2_setBlockByte cX2_setBlockByte 3 (some .boolean)) ({ frames := 1, cells := 0, slots := 0, locals := 20 }) E [.ref o, .int p0, .int p1] 1 [(o, .inr (2, [.ref oK, .ref oM, .ref aO, .ref aP, .ref aQ, .int rdy])), (oK, .inr (0, [.ref aB, .ref aW, .ref aF, .ref aG, .ref aV, .int mde])), (oM, .inr (1, [.ref aS, .int fil, .int opn, .int end_, .int cmp_, .int dif])), (aB, .inl (E.2.1, 16, .inl fB)), (aW, .inl (E.2.1, 176, .inl fW)), (aF, .inl (E.2.1, 16, .inl fF)), (aG, .inl (E.2.1, 16, .inl fG)), (aV, .inl (E.2.1, 16, .inl fV)), (aS, .inl (E.2.1, 16, .inl fE)), (aO, .inl (E.2.1, 16, .inl fO)), (aP, .inl (E.2.1, 16, .inl fP)), (aQ, .inl (E.2.1, 16, .inl fQ))] [(o, .inr (2, [.ref oK, .ref oM, .ref aO, .ref aP, .ref aQ, .int rdy])), (oK, .inr (0, [.ref aB, .ref aW, .ref aF, .ref aG, .ref aV, .int mde])), (oM, .inr (1, [.ref aS, .int fil, .int opn, .int end_, .int cmp_, .int dif])), (aB, .inl (E.2.1, 16, .inl fB)), (aW, .inl (E.2.1, 176, .inl fW)), (aF, .inl (E.2.1, 16, .inl fF)), (aG, .inl (E.2.1, 16, .inl fG)), (aV, .inl (E.2.1, 16, .inl fV)), (aS, .inl (E.2.1, 16, .inl fE)), (aO, .inl (E.2.1, 16, .inl (upd fO k p1))), (aP, .inl (E.2.1, 16, .inl fP)), (aQ, .inl (E.2.1, 16, .inl fQ))] := by
  refine Ci.of (by decide) (Nat.le_of_ble_eq_true rfl) ?_
  intro p e s m below meth c A ls B hP hD hS hl
  have hl : lv_has ls 3 [(0, .ref o), (1, .int p0), (2, .int p1)] := hl
  have B : Bd p s m _ meth c cX2_setBlockByte 3 (some .boolean) RX2 E A := B
  have hx := B.1
  have hb := B.2.1
  have hP : va_P E.1 classes [(o, .inr (2, [.ref oK, .ref oM, .ref aO, .ref aP, .ref aQ, .int rdy])), (oK, .inr (0, [.ref aB, .ref aW, .ref aF, .ref aG, .ref aV, .int mde])), (oM, .inr (1, [.ref aS, .int fil, .int opn, .int end_, .int cmp_, .int dif])), (aB, .inl (E.2.1, 16, .inl fB)), (aW, .inl (E.2.1, 176, .inl fW)), (aF, .inl (E.2.1, 16, .inl fF)), (aG, .inl (E.2.1, 16, .inl fG)), (aV, .inl (E.2.1, 16, .inl fV)), (aS, .inl (E.2.1, 16, .inl fE)), (aO, .inl (E.2.1, 16, .inl fO)), (aP, .inl (E.2.1, 16, .inl fP)), (aQ, .inl (E.2.1, 16, .inl fQ))] _ := hP
  have hD : va_D A [(o, .inr (2, [.ref oK, .ref oM, .ref aO, .ref aP, .ref aQ, .int rdy])), (oK, .inr (0, [.ref aB, .ref aW, .ref aF, .ref aG, .ref aV, .int mde])), (oM, .inr (1, [.ref aS, .int fil, .int opn, .int end_, .int cmp_, .int dif])), (aB, .inl (E.2.1, 16, .inl fB)), (aW, .inl (E.2.1, 176, .inl fW)), (aF, .inl (E.2.1, 16, .inl fF)), (aG, .inl (E.2.1, 16, .inl fG)), (aV, .inl (E.2.1, 16, .inl fV)), (aS, .inl (E.2.1, 16, .inl fE)), (aO, .inl (E.2.1, 16, .inl fO)), (aP, .inl (E.2.1, 16, .inl fP)), (aQ, .inl (E.2.1, 16, .inl fQ))] := hD
  have h1 : ¬ plM p0 = 0 := one_ne (pl_yes hv hk)
  have h2 : ¬ byM p1 = 0 := one_ne (by_yes hby)
  refine lv_aload_n hx hb dX2_setBlockByte_0 rfl (lv_at hl 0 rfl) ?_
  refine x_get B hP 0 rfl rfl i_X2 5 (by decide) g_81 rfl dX2_setBlockByte_1 ?_
  refine lv_if_eq (tgt := 21) hx hb dX2_setBlockByte_4 (by decide) (fun c_4 => ?_) (fun c_4 => ?_)
  · exact absurd c_4 hr
  · refine lv_iload_n hx hb dX2_setBlockByte_7 rfl (lv_at hl 1 rfl) ?_
    refine x_Si (wr := [(o, .inr (2, [.ref oK, .ref oM, .ref aO, .ref aP, .ref aQ, .int rdy])), (oK, .inr (0, [.ref aB, .ref aW, .ref aF, .ref aG, .ref aV, .int mde])), (oM, .inr (1, [.ref aS, .int fil, .int opn, .int end_, .int cmp_, .int dif])), (aB, .inl (E.2.1, 16, .inl fB)), (aW, .inl (E.2.1, 176, .inl fW)), (aF, .inl (E.2.1, 16, .inl fF)), (aG, .inl (E.2.1, 16, .inl fG)), (aV, .inl (E.2.1, 16, .inl fV)), (aS, .inl (E.2.1, 16, .inl fE)), (aO, .inl (E.2.1, 16, .inl fO)), (aP, .inl (E.2.1, 16, .inl fP)), (aQ, .inl (E.2.1, 16, .inl fQ))]) (isC := []) (isR := [0, 1, 2, 3, 4, 5, 6, 7, 8, 9, 10, 11]) (As := [.int p0]) B (c_X2_isPlace l E p0) k_X2_isPlace g_114 s_X2_isPlace ⟨by decide, by decide, rfl, rfl⟩ hP hD hS ⟨rfl, rfl, rfl, rfl, by decide⟩ rfl hl.1 rfl (Nat.le_of_ble_eq_true rfl) dX2_setBlockByte_8 ⟨by decide, by decide⟩ (fun H locs hP hD hS => ?_)
    have hP : va_P E.1 classes [(o, .inr (2, [.ref oK, .ref oM, .ref aO, .ref aP, .ref aQ, .int rdy])), (oK, .inr (0, [.ref aB, .ref aW, .ref aF, .ref aG, .ref aV, .int mde])), (oM, .inr (1, [.ref aS, .int fil, .int opn, .int end_, .int cmp_, .int dif])), (aB, .inl (E.2.1, 16, .inl fB)), (aW, .inl (E.2.1, 176, .inl fW)), (aF, .inl (E.2.1, 16, .inl fF)), (aG, .inl (E.2.1, 16, .inl fG)), (aV, .inl (E.2.1, 16, .inl fV)), (aS, .inl (E.2.1, 16, .inl fE)), (aO, .inl (E.2.1, 16, .inl fO)), (aP, .inl (E.2.1, 16, .inl fP)), (aQ, .inl (E.2.1, 16, .inl fQ))] _ := hP
    have hD : va_D A [(o, .inr (2, [.ref oK, .ref oM, .ref aO, .ref aP, .ref aQ, .int rdy])), (oK, .inr (0, [.ref aB, .ref aW, .ref aF, .ref aG, .ref aV, .int mde])), (oM, .inr (1, [.ref aS, .int fil, .int opn, .int end_, .int cmp_, .int dif])), (aB, .inl (E.2.1, 16, .inl fB)), (aW, .inl (E.2.1, 176, .inl fW)), (aF, .inl (E.2.1, 16, .inl fF)), (aG, .inl (E.2.1, 16, .inl fG)), (aV, .inl (E.2.1, 16, .inl fV)), (aS, .inl (E.2.1, 16, .inl fE)), (aO, .inl (E.2.1, 16, .inl fO)), (aP, .inl (E.2.1, 16, .inl fP)), (aQ, .inl (E.2.1, 16, .inl fQ))] := hD
    refine lv_if_eq (tgt := 21) hx hb dX2_setBlockByte_11 (by decide) (fun c_11 => ?_) (fun c_11 => ?_)
    · exact absurd c_11 h1
    · refine lv_iload_n hx hb dX2_setBlockByte_14 rfl (lv_at hl 2 rfl) ?_
      refine x_Si (wr := [(o, .inr (2, [.ref oK, .ref oM, .ref aO, .ref aP, .ref aQ, .int rdy])), (oK, .inr (0, [.ref aB, .ref aW, .ref aF, .ref aG, .ref aV, .int mde])), (oM, .inr (1, [.ref aS, .int fil, .int opn, .int end_, .int cmp_, .int dif])), (aB, .inl (E.2.1, 16, .inl fB)), (aW, .inl (E.2.1, 176, .inl fW)), (aF, .inl (E.2.1, 16, .inl fF)), (aG, .inl (E.2.1, 16, .inl fG)), (aV, .inl (E.2.1, 16, .inl fV)), (aS, .inl (E.2.1, 16, .inl fE)), (aO, .inl (E.2.1, 16, .inl fO)), (aP, .inl (E.2.1, 16, .inl fP)), (aQ, .inl (E.2.1, 16, .inl fQ))]) (isC := []) (isR := [0, 1, 2, 3, 4, 5, 6, 7, 8, 9, 10, 11]) (As := [.int p1]) B (c_X2_isByte l E p1) k_X2_isByte g_117 s_X2_isByte ⟨by decide, by decide, rfl, rfl⟩ hP hD hS ⟨rfl, rfl, rfl, rfl, by decide⟩ rfl hl.1 rfl (Nat.le_of_ble_eq_true rfl) dX2_setBlockByte_15 ⟨by decide, by decide⟩ (fun H locs hP hD hS => ?_)
      have hP : va_P E.1 classes [(o, .inr (2, [.ref oK, .ref oM, .ref aO, .ref aP, .ref aQ, .int rdy])), (oK, .inr (0, [.ref aB, .ref aW, .ref aF, .ref aG, .ref aV, .int mde])), (oM, .inr (1, [.ref aS, .int fil, .int opn, .int end_, .int cmp_, .int dif])), (aB, .inl (E.2.1, 16, .inl fB)), (aW, .inl (E.2.1, 176, .inl fW)), (aF, .inl (E.2.1, 16, .inl fF)), (aG, .inl (E.2.1, 16, .inl fG)), (aV, .inl (E.2.1, 16, .inl fV)), (aS, .inl (E.2.1, 16, .inl fE)), (aO, .inl (E.2.1, 16, .inl fO)), (aP, .inl (E.2.1, 16, .inl fP)), (aQ, .inl (E.2.1, 16, .inl fQ))] _ := hP
      have hD : va_D A [(o, .inr (2, [.ref oK, .ref oM, .ref aO, .ref aP, .ref aQ, .int rdy])), (oK, .inr (0, [.ref aB, .ref aW, .ref aF, .ref aG, .ref aV, .int mde])), (oM, .inr (1, [.ref aS, .int fil, .int opn, .int end_, .int cmp_, .int dif])), (aB, .inl (E.2.1, 16, .inl fB)), (aW, .inl (E.2.1, 176, .inl fW)), (aF, .inl (E.2.1, 16, .inl fF)), (aG, .inl (E.2.1, 16, .inl fG)), (aV, .inl (E.2.1, 16, .inl fV)), (aS, .inl (E.2.1, 16, .inl fE)), (aO, .inl (E.2.1, 16, .inl fO)), (aP, .inl (E.2.1, 16, .inl fP)), (aQ, .inl (E.2.1, 16, .inl fQ))] := hD
      refine lv_if_ne (tgt := 23) hx hb dX2_setBlockByte_18 (by decide) (fun c_18 => ?_) (fun c_18 => ?_)
      · refine lv_aload_n hx hb dX2_setBlockByte_23 rfl (lv_at hl 0 rfl) ?_
        refine x_get B hP 0 rfl rfl i_X2 2 (by decide) g_78 rfl dX2_setBlockByte_24 ?_
        refine lv_iload_n hx hb dX2_setBlockByte_27 rfl (lv_at hl 1 rfl) ?_
        refine lv_iload_n hx hb dX2_setBlockByte_28 rfl (lv_at hl 2 rfl) ?_
        refine x_ast B hP hD hS 9 rfl k hv hk (by decide) dX2_setBlockByte_29 (fun H locs hP hD hS => ?_)
        have hP : va_P E.1 classes [(o, .inr (2, [.ref oK, .ref oM, .ref aO, .ref aP, .ref aQ, .int rdy])), (oK, .inr (0, [.ref aB, .ref aW, .ref aF, .ref aG, .ref aV, .int mde])), (oM, .inr (1, [.ref aS, .int fil, .int opn, .int end_, .int cmp_, .int dif])), (aB, .inl (E.2.1, 16, .inl fB)), (aW, .inl (E.2.1, 176, .inl fW)), (aF, .inl (E.2.1, 16, .inl fF)), (aG, .inl (E.2.1, 16, .inl fG)), (aV, .inl (E.2.1, 16, .inl fV)), (aS, .inl (E.2.1, 16, .inl fE)), (aO, .inl (E.2.1, 16, .inl (upd fO k p1))), (aP, .inl (E.2.1, 16, .inl fP)), (aQ, .inl (E.2.1, 16, .inl fQ))] _ := hP
        have hD : va_D A [(o, .inr (2, [.ref oK, .ref oM, .ref aO, .ref aP, .ref aQ, .int rdy])), (oK, .inr (0, [.ref aB, .ref aW, .ref aF, .ref aG, .ref aV, .int mde])), (oM, .inr (1, [.ref aS, .int fil, .int opn, .int end_, .int cmp_, .int dif])), (aB, .inl (E.2.1, 16, .inl fB)), (aW, .inl (E.2.1, 176, .inl fW)), (aF, .inl (E.2.1, 16, .inl fF)), (aG, .inl (E.2.1, 16, .inl fG)), (aV, .inl (E.2.1, 16, .inl fV)), (aS, .inl (E.2.1, 16, .inl fE)), (aO, .inl (E.2.1, 16, .inl (upd fO k p1))), (aP, .inl (E.2.1, 16, .inl fP)), (aQ, .inl (E.2.1, 16, .inl fQ))] := hD
        refine lv_iconst (v := 1) hx hb dX2_setBlockByte_30 (by decide) ?_
        have hP : va_P E.1 classes [(o, .inr (2, [.ref oK, .ref oM, .ref aO, .ref aP, .ref aQ, .int rdy])), (oK, .inr (0, [.ref aB, .ref aW, .ref aF, .ref aG, .ref aV, .int mde])), (oM, .inr (1, [.ref aS, .int fil, .int opn, .int end_, .int cmp_, .int dif])), (aB, .inl (E.2.1, 16, .inl fB)), (aW, .inl (E.2.1, 176, .inl fW)), (aF, .inl (E.2.1, 16, .inl fF)), (aG, .inl (E.2.1, 16, .inl fG)), (aV, .inl (E.2.1, 16, .inl fV)), (aS, .inl (E.2.1, 16, .inl fE)), (aO, .inl (E.2.1, 16, .inl (upd fO k p1))), (aP, .inl (E.2.1, 16, .inl fP)), (aQ, .inl (E.2.1, 16, .inl fQ))] _ := hP
        have hD : va_D A [(o, .inr (2, [.ref oK, .ref oM, .ref aO, .ref aP, .ref aQ, .int rdy])), (oK, .inr (0, [.ref aB, .ref aW, .ref aF, .ref aG, .ref aV, .int mde])), (oM, .inr (1, [.ref aS, .int fil, .int opn, .int end_, .int cmp_, .int dif])), (aB, .inl (E.2.1, 16, .inl fB)), (aW, .inl (E.2.1, 176, .inl fW)), (aF, .inl (E.2.1, 16, .inl fF)), (aG, .inl (E.2.1, 16, .inl fG)), (aV, .inl (E.2.1, 16, .inl fV)), (aS, .inl (E.2.1, 16, .inl fE)), (aO, .inl (E.2.1, 16, .inl (upd fO k p1))), (aP, .inl (E.2.1, 16, .inl fP)), (aQ, .inl (E.2.1, 16, .inl fQ))] := hD
        exact x_iret B hP hD hS rfl rfl dX2_setBlockByte_31
      · exact absurd c_18 h2
set_option maxHeartbeats 4000000 in
set_option maxRecDepth 100000 in
/-- encryptBlock -/
theorem c_X2_encryptBlock_yes (l : Launch) (E : EE) (o oK oM aB aW aF aG aV aS aO aP aQ : Nat) (fB fW fF fG fV fE fO fP fQ : Nat → Int32) (mde fil opn end_ cmp_ dif rdy : Int32) (hm : ¬ mde = 0) (hB : ∀ i, i < 16 → By (fB i)) (hW : ∀ i, i < 176 → By (fW i)) (hF : ∀ i, i < 16 → By (fF i)) (hG : ∀ i, i < 16 → By (fG i)) (hV : ∀ i, i < 16 → By (fV i)) (hE : ∀ i, i < 16 → By (fE i)) (hO : ∀ i, i < 16 → By (fO i)) (hP0 : ∀ i, i < 16 → By (fP i)) (hQ : ∀ i, i < 16 → By (fQ i))  : Ci l yX2_encryptBlock (.code yX2_encryptBlock cX2_encryptBlock 1 (some .boolean)) ({ frames := 4, cells := 0, slots := 0, locals := 104 }) E [.ref o] 1 [(o, .inr (2, [.ref oK, .ref oM, .ref aO, .ref aP, .ref aQ, .int rdy])), (oK, .inr (0, [.ref aB, .ref aW, .ref aF, .ref aG, .ref aV, .int mde])), (oM, .inr (1, [.ref aS, .int fil, .int opn, .int end_, .int cmp_, .int dif])), (aB, .inl (E.2.1, 16, .inl fB)), (aW, .inl (E.2.1, 176, .inl fW)), (aF, .inl (E.2.1, 16, .inl fF)), (aG, .inl (E.2.1, 16, .inl fG)), (aV, .inl (E.2.1, 16, .inl fV)), (aS, .inl (E.2.1, 16, .inl fE)), (aO, .inl (E.2.1, 16, .inl fO)), (aP, .inl (E.2.1, 16, .inl fP)), (aQ, .inl (E.2.1, 16, .inl fQ))] [(o, .inr (2, [.ref oK, .ref oM, .ref aO, .ref aP, .ref aQ, .int rdy])), (oK, .inr (0, [.ref aB, .ref aW, .ref aF, .ref aG, .ref aV, .int mde])), (oM, .inr (1, [.ref aS, .int fil, .int opn, .int end_, .int cmp_, .int dif])), (aB, .inl (E.2.1, 16, .inl fB)), (aW, .inl (E.2.1, 176, .inl fW)), (aF, .inl (E.2.1, 16, .inl fF)), (aG, .inl (E.2.1, 16, .inl fG)), (aV, .inl (E.2.1, 16, .inl ((forM fW fO fV 10).2))), (aS, .inl (E.2.1, 16, .inl fE)), (aO, .inl (E.2.1, 16, .inl ((forM fW fO fV 10).1))), (aP, .inl (E.2.1, 16, .inl fP)), (aQ, .inl (E.2.1, 16, .inl fQ))] := by
  refine Ci.of (by decide) (Nat.le_of_ble_eq_true rfl) ?_
  intro p e s m below meth c A ls B hP hD hS hl
  have hl : lv_has ls 1 [(0, .ref o)] := hl
  have B : Bd p s m _ meth c cX2_encryptBlock 1 (some .boolean) RX2 E A := B
  have hx := B.1
  have hb := B.2.1
  have hP : va_P E.1 classes [(o, .inr (2, [.ref oK, .ref oM, .ref aO, .ref aP, .ref aQ, .int rdy])), (oK, .inr (0, [.ref aB, .ref aW, .ref aF, .ref aG, .ref aV, .int mde])), (oM, .inr (1, [.ref aS, .int fil, .int opn, .int end_, .int cmp_, .int dif])), (aB, .inl (E.2.1, 16, .inl fB)), (aW, .inl (E.2.1, 176, .inl fW)), (aF, .inl (E.2.1, 16, .inl fF)), (aG, .inl (E.2.1, 16, .inl fG)), (aV, .inl (E.2.1, 16, .inl fV)), (aS, .inl (E.2.1, 16, .inl fE)), (aO, .inl (E.2.1, 16, .inl fO)), (aP, .inl (E.2.1, 16, .inl fP)), (aQ, .inl (E.2.1, 16, .inl fQ))] _ := hP
  have hD : va_D A [(o, .inr (2, [.ref oK, .ref oM, .ref aO, .ref aP, .ref aQ, .int rdy])), (oK, .inr (0, [.ref aB, .ref aW, .ref aF, .ref aG, .ref aV, .int mde])), (oM, .inr (1, [.ref aS, .int fil, .int opn, .int end_, .int cmp_, .int dif])), (aB, .inl (E.2.1, 16, .inl fB)), (aW, .inl (E.2.1, 176, .inl fW)), (aF, .inl (E.2.1, 16, .inl fF)), (aG, .inl (E.2.1, 16, .inl fG)), (aV, .inl (E.2.1, 16, .inl fV)), (aS, .inl (E.2.1, 16, .inl fE)), (aO, .inl (E.2.1, 16, .inl fO)), (aP, .inl (E.2.1, 16, .inl fP)), (aQ, .inl (E.2.1, 16, .inl fQ))] := hD
  refine lv_aload_n hx hb dX2_encryptBlock_0 rfl (lv_at hl 0 rfl) ?_
  refine x_get B hP 0 rfl rfl i_X2 0 (by decide) g_76 rfl dX2_encryptBlock_1 ?_
  refine x_getN B hP 1 rfl rfl i_X0 5 (by decide) n_31 rfl dX2_encryptBlock_4 ?_
  refine lv_if_ne (tgt := 12) hx hb dX2_encryptBlock_7 (by decide) (fun c_7 => ?_) (fun c_7 => ?_)
  · refine lv_aload_n hx hb dX2_encryptBlock_12 rfl (lv_at hl 0 rfl) ?_
    refine x_get B hP 0 rfl rfl i_X2 0 (by decide) g_76 rfl dX2_encryptBlock_13 ?_
    refine lv_aload_n hx hb dX2_encryptBlock_16 rfl (lv_at hl 0 rfl) ?_
    refine x_get B hP 0 rfl rfl i_X2 2 (by decide) g_78 rfl dX2_encryptBlock_17 ?_
    refine x_Vv (wr := [(o, .inr (2, [.ref oK, .ref oM, .ref aO, .ref aP, .ref aQ, .int rdy])), (oM, .inr (1, [.ref aS, .int fil, .int opn, .int end_, .int cmp_, .int dif])), (aB, .inl (E.2.1, 16, .inl fB)), (aF, .inl (E.2.1, 16, .inl fF)), (aG, .inl (E.2.1, 16, .inl fG)), (aS, .inl (E.2.1, 16, .inl fE)), (aP, .inl (E.2.1, 16, .inl fP)), (aQ, .inl (E.2.1, 16, .inl fQ))]) (isC := [1, 4, 7, 9]) (isR := [0, 2, 3, 5, 6, 8, 10, 11]) (As := [.ref aO]) B (c_X0_goForth l E oK aB aW aF aG aV aO fW fO fV mde hW hO hV) k_X0_goForth g_235 s_X0_goForth ⟨by decide, by decide, rfl, rfl⟩ rfl 1 rfl hP hD hS ⟨rfl, rfl, rfl, rfl, by decide⟩ rfl hl.1 rfl (Nat.le_of_ble_eq_true rfl) dX2_encryptBlock_20 ⟨by decide, by decide⟩ (fun H locs hP hD hS => ?_)
    have hP : va_P E.1 classes [(o, .inr (2, [.ref oK, .ref oM, .ref aO, .ref aP, .ref aQ, .int rdy])), (oM, .inr (1, [.ref aS, .int fil, .int opn, .int end_, .int cmp_, .int dif])), (aB, .inl (E.2.1, 16, .inl fB)), (aF, .inl (E.2.1, 16, .inl fF)), (aG, .inl (E.2.1, 16, .inl fG)), (aS, .inl (E.2.1, 16, .inl fE)), (aP, .inl (E.2.1, 16, .inl fP)), (aQ, .inl (E.2.1, 16, .inl fQ)), (oK, .inr (0, [.ref aB, .ref aW, .ref aF, .ref aG, .ref aV, .int mde])), (aW, .inl (E.2.1, 176, .inl fW)), (aV, .inl (E.2.1, 16, .inl ((forM fW fO fV 10).2))), (aO, .inl (E.2.1, 16, .inl ((forM fW fO fV 10).1)))] _ := hP
    have hD : va_D A [(o, .inr (2, [.ref oK, .ref oM, .ref aO, .ref aP, .ref aQ, .int rdy])), (oM, .inr (1, [.ref aS, .int fil, .int opn, .int end_, .int cmp_, .int dif])), (aB, .inl (E.2.1, 16, .inl fB)), (aF, .inl (E.2.1, 16, .inl fF)), (aG, .inl (E.2.1, 16, .inl fG)), (aS, .inl (E.2.1, 16, .inl fE)), (aP, .inl (E.2.1, 16, .inl fP)), (aQ, .inl (E.2.1, 16, .inl fQ)), (oK, .inr (0, [.ref aB, .ref aW, .ref aF, .ref aG, .ref aV, .int mde])), (aW, .inl (E.2.1, 176, .inl fW)), (aV, .inl (E.2.1, 16, .inl ((forM fW fO fV 10).2))), (aO, .inl (E.2.1, 16, .inl ((forM fW fO fV 10).1)))] := hD
    refine lv_iconst (v := 1) hx hb dX2_encryptBlock_23 (by decide) ?_
    have hP := hP.sub (ws' := [(o, .inr (2, [.ref oK, .ref oM, .ref aO, .ref aP, .ref aQ, .int rdy])), (oK, .inr (0, [.ref aB, .ref aW, .ref aF, .ref aG, .ref aV, .int mde])), (oM, .inr (1, [.ref aS, .int fil, .int opn, .int end_, .int cmp_, .int dif])), (aB, .inl (E.2.1, 16, .inl fB)), (aW, .inl (E.2.1, 176, .inl fW)), (aF, .inl (E.2.1, 16, .inl fF)), (aG, .inl (E.2.1, 16, .inl fG)), (aV, .inl (E.2.1, 16, .inl ((forM fW fO fV 10).2))), (aS, .inl (E.2.1, 16, .inl fE)), (aO, .inl (E.2.1, 16, .inl ((forM fW fO fV 10).1))), (aP, .inl (E.2.1, 16, .inl fP)), (aQ, .inl (E.2.1, 16, .inl fQ))]) [0, 8, 1, 2, 9, 3, 4, 10, 5, 11, 6, 7] rfl
    have hD := hD.sub (ws' := [(o, .inr (2, [.ref oK, .ref oM, .ref aO, .ref aP, .ref aQ, .int rdy])), (oK, .inr (0, [.ref aB, .ref aW, .ref aF, .ref aG, .ref aV, .int mde])), (oM, .inr (1, [.ref aS, .int fil, .int opn, .int end_, .int cmp_, .int dif])), (aB, .inl (E.2.1, 16, .inl fB)), (aW, .inl (E.2.1, 176, .inl fW)), (aF, .inl (E.2.1, 16, .inl fF)), (aG, .inl (E.2.1, 16, .inl fG)), (aV, .inl (E.2.1, 16, .inl ((forM fW fO fV 10).2))), (aS, .inl (E.2.1, 16, .inl fE)), (aO, .inl (E.2.1, 16, .inl ((forM fW fO fV 10).1))), (aP, .inl (E.2.1, 16, .inl fP)), (aQ, .inl (E.2.1, 16, .inl fQ))]) [0, 8, 1, 2, 9, 3, 4, 10, 5, 11, 6, 7] (by decide) rfl
    have hP : va_P E.1 classes [(o, .inr (2, [.ref oK, .ref oM, .ref aO, .ref aP, .ref aQ, .int rdy])), (oK, .inr (0, [.ref aB, .ref aW, .ref aF, .ref aG, .ref aV, .int mde])), (oM, .inr (1, [.ref aS, .int fil, .int opn, .int end_, .int cmp_, .int dif])), (aB, .inl (E.2.1, 16, .inl fB)), (aW, .inl (E.2.1, 176, .inl fW)), (aF, .inl (E.2.1, 16, .inl fF)), (aG, .inl (E.2.1, 16, .inl fG)), (aV, .inl (E.2.1, 16, .inl ((forM fW fO fV 10).2))), (aS, .inl (E.2.1, 16, .inl fE)), (aO, .inl (E.2.1, 16, .inl ((forM fW fO fV 10).1))), (aP, .inl (E.2.1, 16, .inl fP)), (aQ, .inl (E.2.1, 16, .inl fQ))] _ := hP
    have hD : va_D A [(o, .inr (2, [.ref oK, .ref oM, .ref aO, .ref aP, .ref aQ, .int rdy])), (oK, .inr (0, [.ref aB, .ref aW, .ref aF, .ref aG, .ref aV, .int mde])), (oM, .inr (1, [.ref aS, .int fil, .int opn, .int end_, .int cmp_, .int dif])), (aB, .inl (E.2.1, 16, .inl fB)), (aW, .inl (E.2.1, 176, .inl fW)), (aF, .inl (E.2.1, 16, .inl fF)), (aG, .inl (E.2.1, 16, .inl fG)), (aV, .inl (E.2.1, 16, .inl ((forM fW fO fV 10).2))), (aS, .inl (E.2.1, 16, .inl fE)), (aO, .inl (E.2.1, 16, .inl ((forM fW fO fV 10).1))), (aP, .inl (E.2.1, 16, .inl fP)), (aQ, .inl (E.2.1, 16, .inl fQ))] := hD
    exact x_iret B hP hD hS rfl rfl dX2_encryptBlock_24
  · exact absurd c_7 hm
set_option maxHeartbeats 4000000 in
set_option maxRecDepth 100000 in
/-- decryptBlock -/
theorem c_X2_decryptBlock_yes (l : Launch) (E : EE) (o oK oM aB aW aF aG aV aS aO aP aQ : Nat) (fB fW fF fG fV fE fO fP fQ : Nat → Int32) (mde fil opn end_ cmp_ dif rdy : Int32) (hm : ¬ mde = 0) (hB : ∀ i, i < 16 → By (fB i)) (hW : ∀ i, i < 176 → By (fW i)) (hF : ∀ i, i < 16 → By (fF i)) (hG : ∀ i, i < 16 → By (fG i)) (hV : ∀ i, i < 16 → By (fV i)) (hE : ∀ i, i < 16 → By (fE i)) (hO : ∀ i, i < 16 → By (fO i)) (hP0 : ∀ i, i < 16 → By (fP i)) (hQ : ∀ i, i < 16 → By (fQ i))  : Ci l yX2_decryptBlock (.code yX2_decryptBlock cX2_decryptBlock 1 (some .boolean)) ({ frames := 5, cells := 0, slots := 0, locals := 110 }) E [.ref o] 1 [(o, .inr (2, [.ref oK, .ref oM, .ref aO, .ref aP, .ref aQ, .int rdy])), (oK, .inr (0, [.ref aB, .ref aW, .ref aF, .ref aG, .ref aV, .int mde])), (oM, .inr (1, [.ref aS, .int fil, .int opn, .int end_, .int cmp_, .int dif])), (aB, .inl (E.2.1, 16, .inl fB)), (aW, .inl (E.2.1, 176, .inl fW)), (aF, .inl (E.2.1, 16, .inl fF)), (aG, .inl (E.2.1, 16, .inl fG)), (aV, .inl (E.2.1, 16, .inl fV)), (aS, .inl (E.2.1, 16, .inl fE)), (aO, .inl (E.2.1, 16, .inl fO)), (aP, .inl (E.2.1, 16, .inl fP)), (aQ, .inl (E.2.1, 16, .inl fQ))] [(o, .inr (2, [.ref oK, .ref oM, .ref aO, .ref aP, .ref aQ, .int rdy])), (oK, .inr (0, [.ref aB, .ref aW, .ref aF, .ref aG, .ref aV, .int mde])), (oM, .inr (1, [.ref aS, .int fil, .int opn, .int end_, .int cmp_, .int dif])), (aB, .inl (E.2.1, 16, .inl fB)), (aW, .inl (E.2.1, 176, .inl fW)), (aF, .inl (E.2.1, 16, .inl fF)), (aG, .inl (E.2.1, 16, .inl fG)), (aV, .inl (E.2.1, 16, .inl ((bckM fW fO fV 10).2))), (aS, .inl (E.2.1, 16, .inl fE)), (aO, .inl (E.2.1, 16, .inl (bckW fW fO fV))), (aP, .inl (E.2.1, 16, .inl fP)), (aQ, .inl (E.2.1, 16, .inl fQ))] := by
  refine Ci.of (by decide) (Nat.le_of_ble_eq_true rfl) ?_
  intro p e s m below meth c A ls B hP hD hS hl
  have hl : lv_has ls 1 [(0, .ref o)] := hl
  have B : Bd p s m _ meth c cX2_decryptBlock 1 (some .boolean) RX2 E A := B
  have hx := B.1
  have hb := B.2.1
  have hP : va_P E.1 classes [(o, .inr (2, [.ref oK, .ref oM, .ref aO, .ref aP, .ref aQ, .int rdy])), (oK, .inr (0, [.ref aB, .ref aW, .ref aF, .ref aG, .ref aV, .int mde])), (oM, .inr (1, [.ref aS, .int fil, .int opn, .int end_, .int cmp_, .int dif])), (aB, .inl (E.2.1, 16, .inl fB)), (aW, .inl (E.2.1, 176, .inl fW)), (aF, .inl (E.2.1, 16, .inl fF)), (aG, .inl (E.2.1, 16, .inl fG)), (aV, .inl (E.2.1, 16, .inl fV)), (aS, .inl (E.2.1, 16, .inl fE)), (aO, .inl (E.2.1, 16, .inl fO)), (aP, .inl (E.2.1, 16, .inl fP)), (aQ, .inl (E.2.1, 16, .inl fQ))] _ := hP
  have hD : va_D A [(o, .inr (2, [.ref oK, .ref oM, .ref aO, .ref aP, .ref aQ, .int rdy])), (oK, .inr (0, [.ref aB, .ref aW, .ref aF, .ref aG, .ref aV, .int mde])), (oM, .inr (1, [.ref aS, .int fil, .int opn, .int end_, .int cmp_, .int dif])), (aB, .inl (E.2.1, 16, .inl fB)), (aW, .inl (E.2.1, 176, .inl fW)), (aF, .inl (E.2.1, 16, .inl fF)), (aG, .inl (E.2.1, 16, .inl fG)), (aV, .inl (E.2.1, 16, .inl fV)), (aS, .inl (E.2.1, 16, .inl fE)), (aO, .inl (E.2.1, 16, .inl fO)), (aP, .inl (E.2.1, 16, .inl fP)), (aQ, .inl (E.2.1, 16, .inl fQ))] := hD
  refine lv_aload_n hx hb dX2_decryptBlock_0 rfl (lv_at hl 0 rfl) ?_
  refine x_get B hP 0 rfl rfl i_X2 0 (by decide) g_76 rfl dX2_decryptBlock_1 ?_
  refine x_getN B hP 1 rfl rfl i_X0 5 (by decide) n_31 rfl dX2_decryptBlock_4 ?_
  refine lv_if_ne (tgt := 12) hx hb dX2_decryptBlock_7 (by decide) (fun c_7 => ?_) (fun c_7 => ?_)
  · refine lv_aload_n hx hb dX2_decryptBlock_12 rfl (lv_at hl 0 rfl) ?_
    refine x_get B hP 0 rfl rfl i_X2 0 (by decide) g_76 rfl dX2_decryptBlock_13 ?_
    refine lv_aload_n hx hb dX2_decryptBlock_16 rfl (lv_at hl 0 rfl) ?_
    refine x_get B hP 0 rfl rfl i_X2 2 (by decide) g_78 rfl dX2_decryptBlock_17 ?_
    refine x_Vv (wr := [(o, .inr (2, [.ref oK, .ref oM, .ref aO, .ref aP, .ref aQ, .int rdy])), (oM, .inr (1, [.ref aS, .int fil, .int opn, .int end_, .int cmp_, .int dif])), (aB, .inl (E.2.1, 16, .inl fB)), (aF, .inl (E.2.1, 16, .inl fF)), (aG, .inl (E.2.1, 16, .inl fG)), (aS, .inl (E.2.1, 16, .inl fE)), (aP, .inl (E.2.1, 16, .inl fP)), (aQ, .inl (E.2.1, 16, .inl fQ))]) (isC := [1, 4, 7, 9]) (isR := [0, 2, 3, 5, 6, 8, 10, 11]) (As := [.ref aO]) B (c_X0_goBack l E oK aB aW aF aG aV aO fW fO fV mde hW hO hV) k_X0_goBack g_240 s_X0_goBack ⟨by decide, by decide, rfl, rfl⟩ rfl 1 rfl hP hD hS ⟨rfl, rfl, rfl, rfl, by decide⟩ rfl hl.1 rfl (Nat.le_of_ble_eq_true rfl) dX2_decryptBlock_20 ⟨by decide, by decide⟩ (fun H locs hP hD hS => ?_)
    have hP : va_P E.1 classes [(o, .inr (2, [.ref oK, .ref oM, .ref aO, .ref aP, .ref aQ, .int rdy])), (oM, .inr (1, [.ref aS, .int fil, .int opn, .int end_, .int cmp_, .int dif])), (aB, .inl (E.2.1, 16, .inl fB)), (aF, .inl (E.2.1, 16, .inl fF)), (aG, .inl (E.2.1, 16, .inl fG)), (aS, .inl (E.2.1, 16, .inl fE)), (aP, .inl (E.2.1, 16, .inl fP)), (aQ, .inl (E.2.1, 16, .inl fQ)), (oK, .inr (0, [.ref aB, .ref aW, .ref aF, .ref aG, .ref aV, .int mde])), (aW, .inl (E.2.1, 176, .inl fW)), (aV, .inl (E.2.1, 16, .inl ((bckM fW fO fV 10).2))), (aO, .inl (E.2.1, 16, .inl (bckW fW fO fV)))] _ := hP
    have hD : va_D A [(o, .inr (2, [.ref oK, .ref oM, .ref aO, .ref aP, .ref aQ, .int rdy])), (oM, .inr (1, [.ref aS, .int fil, .int opn, .int end_, .int cmp_, .int dif])), (aB, .inl (E.2.1, 16, .inl fB)), (aF, .inl (E.2.1, 16, .inl fF)), (aG, .inl (E.2.1, 16, .inl fG)), (aS, .inl (E.2.1, 16, .inl fE)), (aP, .inl (E.2.1, 16, .inl fP)), (aQ, .inl (E.2.1, 16, .inl fQ)), (oK, .inr (0, [.ref aB, .ref aW, .ref aF, .ref aG, .ref aV, .int mde])), (aW, .inl (E.2.1, 176, .inl fW)), (aV, .inl (E.2.1, 16, .inl ((bckM fW fO fV 10).2))), (aO, .inl (E.2.1, 16, .inl (bckW fW fO fV)))] := hD
    refine lv_iconst (v := 1) hx hb dX2_decryptBlock_23 (by decide) ?_
    have hP := hP.sub (ws' := [(o, .inr (2, [.ref oK, .ref oM, .ref aO, .ref aP, .ref aQ, .int rdy])), (oK, .inr (0, [.ref aB, .ref aW, .ref aF, .ref aG, .ref aV, .int mde])), (oM, .inr (1, [.ref aS, .int fil, .int opn, .int end_, .int cmp_, .int dif])), (aB, .inl (E.2.1, 16, .inl fB)), (aW, .inl (E.2.1, 176, .inl fW)), (aF, .inl (E.2.1, 16, .inl fF)), (aG, .inl (E.2.1, 16, .inl fG)), (aV, .inl (E.2.1, 16, .inl ((bckM fW fO fV 10).2))), (aS, .inl (E.2.1, 16, .inl fE)), (aO, .inl (E.2.1, 16, .inl (bckW fW fO fV))), (aP, .inl (E.2.1, 16, .inl fP)), (aQ, .inl (E.2.1, 16, .inl fQ))]) [0, 8, 1, 2, 9, 3, 4, 10, 5, 11, 6, 7] rfl
    have hD := hD.sub (ws' := [(o, .inr (2, [.ref oK, .ref oM, .ref aO, .ref aP, .ref aQ, .int rdy])), (oK, .inr (0, [.ref aB, .ref aW, .ref aF, .ref aG, .ref aV, .int mde])), (oM, .inr (1, [.ref aS, .int fil, .int opn, .int end_, .int cmp_, .int dif])), (aB, .inl (E.2.1, 16, .inl fB)), (aW, .inl (E.2.1, 176, .inl fW)), (aF, .inl (E.2.1, 16, .inl fF)), (aG, .inl (E.2.1, 16, .inl fG)), (aV, .inl (E.2.1, 16, .inl ((bckM fW fO fV 10).2))), (aS, .inl (E.2.1, 16, .inl fE)), (aO, .inl (E.2.1, 16, .inl (bckW fW fO fV))), (aP, .inl (E.2.1, 16, .inl fP)), (aQ, .inl (E.2.1, 16, .inl fQ))]) [0, 8, 1, 2, 9, 3, 4, 10, 5, 11, 6, 7] (by decide) rfl
    have hP : va_P E.1 classes [(o, .inr (2, [.ref oK, .ref oM, .ref aO, .ref aP, .ref aQ, .int rdy])), (oK, .inr (0, [.ref aB, .ref aW, .ref aF, .ref aG, .ref aV, .int mde])), (oM, .inr (1, [.ref aS, .int fil, .int opn, .int end_, .int cmp_, .int dif])), (aB, .inl (E.2.1, 16, .inl fB)), (aW, .inl (E.2.1, 176, .inl fW)), (aF, .inl (E.2.1, 16, .inl fF)), (aG, .inl (E.2.1, 16, .inl fG)), (aV, .inl (E.2.1, 16, .inl ((bckM fW fO fV 10).2))), (aS, .inl (E.2.1, 16, .inl fE)), (aO, .inl (E.2.1, 16, .inl (bckW fW fO fV))), (aP, .inl (E.2.1, 16, .inl fP)), (aQ, .inl (E.2.1, 16, .inl fQ))] _ := hP
    have hD : va_D A [(o, .inr (2, [.ref oK, .ref oM, .ref aO, .ref aP, .ref aQ, .int rdy])), (oK, .inr (0, [.ref aB, .ref aW, .ref aF, .ref aG, .ref aV, .int mde])), (oM, .inr (1, [.ref aS, .int fil, .int opn, .int end_, .int cmp_, .int dif])), (aB, .inl (E.2.1, 16, .inl fB)), (aW, .inl (E.2.1, 176, .inl fW)), (aF, .inl (E.2.1, 16, .inl fF)), (aG, .inl (E.2.1, 16, .inl fG)), (aV, .inl (E.2.1, 16, .inl ((bckM fW fO fV 10).2))), (aS, .inl (E.2.1, 16, .inl fE)), (aO, .inl (E.2.1, 16, .inl (bckW fW fO fV))), (aP, .inl (E.2.1, 16, .inl fP)), (aQ, .inl (E.2.1, 16, .inl fQ))] := hD
    exact x_iret B hP hD hS rfl rfl dX2_decryptBlock_24
  · exact absurd c_7 hm
set_option maxHeartbeats 4000000 in
set_option maxRecDepth 100000 in
/-- unchain -/
theorem c_X2_unchain_yes (l : Launch) (E : EE) (o oK oM aB aW aF aG aV aS aO aP aQ : Nat) (fB fW fF fG fV fE fO fP fQ : Nat → Int32) (mde fil opn end_ cmp_ dif rdy : Int32) (hr : ¬ rdy = 0)   : Ci l yX2_unchain (.code yX2_unchain cX2_unchain 1 (some .boolean)) ({ frames := 1, cells := 0, slots := 0, locals := 23 }) E [.ref o] 1 [(o, .inr (2, [.ref oK, .ref oM, .ref aO, .ref aP, .ref aQ, .int rdy])), (oK, .inr (0, [.ref aB, .ref aW, .ref aF, .ref aG, .ref aV, .int mde])), (oM, .inr (1, [.ref aS, .int fil, .int opn, .int end_, .int cmp_, .int dif])), (aB, .inl (E.2.1, 16, .inl fB)), (aW, .inl (E.2.1, 176, .inl fW)), (aF, .inl (E.2.1, 16, .inl fF)), (aG, .inl (E.2.1, 16, .inl fG)), (aV, .inl (E.2.1, 16, .inl fV)), (aS, .inl (E.2.1, 16, .inl fE)), (aO, .inl (E.2.1, 16, .inl fO)), (aP, .inl (E.2.1, 16, .inl fP)), (aQ, .inl (E.2.1, 16, .inl fQ))] [(o, .inr (2, [.ref oK, .ref oM, .ref aO, .ref aP, .ref aQ, .int rdy])), (oK, .inr (0, [.ref aB, .ref aW, .ref aF, .ref aG, .ref aV, .int mde])), (oM, .inr (1, [.ref aS, .int fil, .int opn, .int end_, .int cmp_, .int dif])), (aB, .inl (E.2.1, 16, .inl fB)), (aW, .inl (E.2.1, 176, .inl fW)), (aF, .inl (E.2.1, 16, .inl fF)), (aG, .inl (E.2.1, 16, .inl fG)), (aV, .inl (E.2.1, 16, .inl fV)), (aS, .inl (E.2.1, 16, .inl fE)), (aO, .inl (E.2.1, 16, .inl fO)), (aP, .inl (E.2.1, 16, .inl (fillM 0 fP 16))), (aQ, .inl (E.2.1, 16, .inl fQ))] := by
  refine Ci.of (by decide) (Nat.le_of_ble_eq_true rfl) ?_
  intro p e s m below meth c A ls B hP hD hS hl
  have hl : lv_has ls 1 [(0, .ref o)] := hl
  have B : Bd p s m _ meth c cX2_unchain 1 (some .boolean) RX2 E A := B
  have hx := B.1
  have hb := B.2.1
  have hP : va_P E.1 classes [(o, .inr (2, [.ref oK, .ref oM, .ref aO, .ref aP, .ref aQ, .int rdy])), (oK, .inr (0, [.ref aB, .ref aW, .ref aF, .ref aG, .ref aV, .int mde])), (oM, .inr (1, [.ref aS, .int fil, .int opn, .int end_, .int cmp_, .int dif])), (aB, .inl (E.2.1, 16, .inl fB)), (aW, .inl (E.2.1, 176, .inl fW)), (aF, .inl (E.2.1, 16, .inl fF)), (aG, .inl (E.2.1, 16, .inl fG)), (aV, .inl (E.2.1, 16, .inl fV)), (aS, .inl (E.2.1, 16, .inl fE)), (aO, .inl (E.2.1, 16, .inl fO)), (aP, .inl (E.2.1, 16, .inl fP)), (aQ, .inl (E.2.1, 16, .inl fQ))] _ := hP
  have hD : va_D A [(o, .inr (2, [.ref oK, .ref oM, .ref aO, .ref aP, .ref aQ, .int rdy])), (oK, .inr (0, [.ref aB, .ref aW, .ref aF, .ref aG, .ref aV, .int mde])), (oM, .inr (1, [.ref aS, .int fil, .int opn, .int end_, .int cmp_, .int dif])), (aB, .inl (E.2.1, 16, .inl fB)), (aW, .inl (E.2.1, 176, .inl fW)), (aF, .inl (E.2.1, 16, .inl fF)), (aG, .inl (E.2.1, 16, .inl fG)), (aV, .inl (E.2.1, 16, .inl fV)), (aS, .inl (E.2.1, 16, .inl fE)), (aO, .inl (E.2.1, 16, .inl fO)), (aP, .inl (E.2.1, 16, .inl fP)), (aQ, .inl (E.2.1, 16, .inl fQ))] := hD
  refine lv_aload_n hx hb dX2_unchain_0 rfl (lv_at hl 0 rfl) ?_
  refine x_get B hP 0 rfl rfl i_X2 5 (by decide) g_81 rfl dX2_unchain_1 ?_
  refine lv_if_ne (tgt := 9) hx hb dX2_unchain_4 (by decide) (fun c_4 => ?_) (fun c_4 => ?_)
  · refine lv_aload_n hx hb dX2_unchain_9 rfl (lv_at hl 0 rfl) ?_
    refine x_get B hP 0 rfl rfl i_X2 3 (by decide) g_79 rfl dX2_unchain_10 ?_
    refine lv_iconst (v := 0) hx hb dX2_unchain_13 (by decide) ?_
    refine x_Sv (wr := [(o, .inr (2, [.ref oK, .ref oM, .ref aO, .ref aP, .ref aQ, .int rdy])), (oK, .inr (0, [.ref aB, .ref aW, .ref aF, .ref aG, .ref aV, .int mde])), (oM, .inr (1, [.ref aS, .int fil, .int opn, .int end_, .int cmp_, .int dif])), (aB, .inl (E.2.1, 16, .inl fB)), (aW, .inl (E.2.1, 176, .inl fW)), (aF, .inl (E.2.1, 16, .inl fF)), (aG, .inl (E.2.1, 16, .inl fG)), (aV, .inl (E.2.1, 16, .inl fV)), (aS, .inl (E.2.1, 16, .inl fE)), (aO, .inl (E.2.1, 16, .inl fO)), (aQ, .inl (E.2.1, 16, .inl fQ))]) (isC := [10]) (isR := [0, 1, 2, 3, 4, 5, 6, 7, 8, 9, 11]) (As := [.ref aP, .int 0]) B (c_J7_fill_53178 l E aP 16 fP 0 (by decide)) k_J7_fill_53178 g_271 s_J7_fill_53178 ⟨by decide, by decide, rfl, rfl⟩ hP hD hS ⟨rfl, rfl, rfl, rfl, by decide⟩ rfl hl.1 rfl (Nat.le_of_ble_eq_true rfl) dX2_unchain_14 ⟨by decide, by decide⟩ (fun H locs hP hD hS => ?_)
    have hP : va_P E.1 classes [(o, .inr (2, [.ref oK, .ref oM, .ref aO, .ref aP, .ref aQ, .int rdy])), (oK, .inr (0, [.ref aB, .ref aW, .ref aF, .ref aG, .ref aV, .int mde])), (oM, .inr (1, [.ref aS, .int fil, .int opn, .int end_, .int cmp_, .int dif])), (aB, .inl (E.2.1, 16, .inl fB)), (aW, .inl (E.2.1, 176, .inl fW)), (aF, .inl (E.2.1, 16, .inl fF)), (aG, .inl (E.2.1, 16, .inl fG)), (aV, .inl (E.2.1, 16, .inl fV)), (aS, .inl (E.2.1, 16, .inl fE)), (aO, .inl (E.2.1, 16, .inl fO)), (aQ, .inl (E.2.1, 16, .inl fQ)), (aP, .inl (E.2.1, 16, .inl (fillM 0 fP 16)))] _ := hP
    have hD : va_D A [(o, .inr (2, [.ref oK, .ref oM, .ref aO, .ref aP, .ref aQ, .int rdy])), (oK, .inr (0, [.ref aB, .ref aW, .ref aF, .ref aG, .ref aV, .int mde])), (oM, .inr (1, [.ref aS, .int fil, .int opn, .int end_, .int cmp_, .int dif])), (aB, .inl (E.2.1, 16, .inl fB)), (aW, .inl (E.2.1, 176, .inl fW)), (aF, .inl (E.2.1, 16, .inl fF)), (aG, .inl (E.2.1, 16, .inl fG)), (aV, .inl (E.2.1, 16, .inl fV)), (aS, .inl (E.2.1, 16, .inl fE)), (aO, .inl (E.2.1, 16, .inl fO)), (aQ, .inl (E.2.1, 16, .inl fQ)), (aP, .inl (E.2.1, 16, .inl (fillM 0 fP 16)))] := hD
    refine lv_iconst (v := 1) hx hb dX2_unchain_17 (by decide) ?_
    have hP := hP.sub (ws' := [(o, .inr (2, [.ref oK, .ref oM, .ref aO, .ref aP, .ref aQ, .int rdy])), (oK, .inr (0, [.ref aB, .ref aW, .ref aF, .ref aG, .ref aV, .int mde])), (oM, .inr (1, [.ref aS, .int fil, .int opn, .int end_, .int cmp_, .int dif])), (aB, .inl (E.2.1, 16, .inl fB)), (aW, .inl (E.2.1, 176, .inl fW)), (aF, .inl (E.2.1, 16, .inl fF)), (aG, .inl (E.2.1, 16, .inl fG)), (aV, .inl (E.2.1, 16, .inl fV)), (aS, .inl (E.2.1, 16, .inl fE)), (aO, .inl (E.2.1, 16, .inl fO)), (aP, .inl (E.2.1, 16, .inl (fillM 0 fP 16))), (aQ, .inl (E.2.1, 16, .inl fQ))]) [0, 1, 2, 3, 4, 5, 6, 7, 8, 9, 11, 10] rfl
    have hD := hD.sub (ws' := [(o, .inr (2, [.ref oK, .ref oM, .ref aO, .ref aP, .ref aQ, .int rdy])), (oK, .inr (0, [.ref aB, .ref aW, .ref aF, .ref aG, .ref aV, .int mde])), (oM, .inr (1, [.ref aS, .int fil, .int opn, .int end_, .int cmp_, .int dif])), (aB, .inl (E.2.1, 16, .inl fB)), (aW, .inl (E.2.1, 176, .inl fW)), (aF, .inl (E.2.1, 16, .inl fF)), (aG, .inl (E.2.1, 16, .inl fG)), (aV, .inl (E.2.1, 16, .inl fV)), (aS, .inl (E.2.1, 16, .inl fE)), (aO, .inl (E.2.1, 16, .inl fO)), (aP, .inl (E.2.1, 16, .inl (fillM 0 fP 16))), (aQ, .inl (E.2.1, 16, .inl fQ))]) [0, 1, 2, 3, 4, 5, 6, 7, 8, 9, 11, 10] (by decide) rfl
    have hP : va_P E.1 classes [(o, .inr (2, [.ref oK, .ref oM, .ref aO, .ref aP, .ref aQ, .int rdy])), (oK, .inr (0, [.ref aB, .ref aW, .ref aF, .ref aG, .ref aV, .int mde])), (oM, .inr (1, [.ref aS, .int fil, .int opn, .int end_, .int cmp_, .int dif])), (aB, .inl (E.2.1, 16, .inl fB)), (aW, .inl (E.2.1, 176, .inl fW)), (aF, .inl (E.2.1, 16, .inl fF)), (aG, .inl (E.2.1, 16, .inl fG)), (aV, .inl (E.2.1, 16, .inl fV)), (aS, .inl (E.2.1, 16, .inl fE)), (aO, .inl (E.2.1, 16, .inl fO)), (aP, .inl (E.2.1, 16, .inl (fillM 0 fP 16))), (aQ, .inl (E.2.1, 16, .inl fQ))] _ := hP
    have hD : va_D A [(o, .inr (2, [.ref oK, .ref oM, .ref aO, .ref aP, .ref aQ, .int rdy])), (oK, .inr (0, [.ref aB, .ref aW, .ref aF, .ref aG, .ref aV, .int mde])), (oM, .inr (1, [.ref aS, .int fil, .int opn, .int end_, .int cmp_, .int dif])), (aB, .inl (E.2.1, 16, .inl fB)), (aW, .inl (E.2.1, 176, .inl fW)), (aF, .inl (E.2.1, 16, .inl fF)), (aG, .inl (E.2.1, 16, .inl fG)), (aV, .inl (E.2.1, 16, .inl fV)), (aS, .inl (E.2.1, 16, .inl fE)), (aO, .inl (E.2.1, 16, .inl fO)), (aP, .inl (E.2.1, 16, .inl (fillM 0 fP 16))), (aQ, .inl (E.2.1, 16, .inl fQ))] := hD
    exact x_iret B hP hD hS rfl rfl dX2_unchain_18
  · exact absurd c_4 hr
set_option maxHeartbeats 4000000 in
set_option maxRecDepth 100000 in
/-- blockByte -/
theorem c_X2_blockByte_yes (l : Launch) (E : EE) (o oK oM aB aW aF aG aV aS aO aP aQ : Nat) (fB fW fF fG fV fE fO fP fQ : Nat → Int32) (mde fil opn end_ cmp_ dif rdy : Int32) (k : Nat) (p0 : Int32) (hv : p0 = nI k) (hk : k < 16) (hr : ¬ rdy = 0)   : Ci l yX2_blockByte (.code yX2_blockByte cX2_blockByte 2 (some .int)) ({ frames := 1, cells := 0, slots := 0, locals := 20 }) E [.ref o, .int p0] (fO k) [(o, .inr (2, [.ref oK, .ref oM, .ref aO, .ref aP, .ref aQ, .int rdy])), (oK, .inr (0, [.ref aB, .ref aW, .ref aF, .ref aG, .ref aV, .int mde])), (oM, .inr (1, [.ref aS, .int fil, .int opn, .int end_, .int cmp_, .int dif])), (aB, .inl (E.2.1, 16, .inl fB)), (aW, .inl (E.2.1, 176, .inl fW)), (aF, .inl (E.2.1, 16, .inl fF)), (aG, .inl (E.2.1, 16, .inl fG)), (aV, .inl (E.2.1, 16, .inl fV)), (aS, .inl (E.2.1, 16, .inl fE)), (aO, .inl (E.2.1, 16, .inl fO)), (aP, .inl (E.2.1, 16, .inl fP)), (aQ, .inl (E.2.1, 16, .inl fQ))] [(o, .inr (2, [.ref oK, .ref oM, .ref aO, .ref aP, .ref aQ, .int rdy])), (oK, .inr (0, [.ref aB, .ref aW, .ref aF, .ref aG, .ref aV, .int mde])), (oM, .inr (1, [.ref aS, .int fil, .int opn, .int end_, .int cmp_, .int dif])), (aB, .inl (E.2.1, 16, .inl fB)), (aW, .inl (E.2.1, 176, .inl fW)), (aF, .inl (E.2.1, 16, .inl fF)), (aG, .inl (E.2.1, 16, .inl fG)), (aV, .inl (E.2.1, 16, .inl fV)), (aS, .inl (E.2.1, 16, .inl fE)), (aO, .inl (E.2.1, 16, .inl fO)), (aP, .inl (E.2.1, 16, .inl fP)), (aQ, .inl (E.2.1, 16, .inl fQ))] := by
  refine Ci.of (by decide) (Nat.le_of_ble_eq_true rfl) ?_
  intro p e s m below meth c A ls B hP hD hS hl
  have hl : lv_has ls 2 [(0, .ref o), (1, .int p0)] := hl
  have B : Bd p s m _ meth c cX2_blockByte 2 (some .int) RX2 E A := B
  have hx := B.1
  have hb := B.2.1
  have hP : va_P E.1 classes [(o, .inr (2, [.ref oK, .ref oM, .ref aO, .ref aP, .ref aQ, .int rdy])), (oK, .inr (0, [.ref aB, .ref aW, .ref aF, .ref aG, .ref aV, .int mde])), (oM, .inr (1, [.ref aS, .int fil, .int opn, .int end_, .int cmp_, .int dif])), (aB, .inl (E.2.1, 16, .inl fB)), (aW, .inl (E.2.1, 176, .inl fW)), (aF, .inl (E.2.1, 16, .inl fF)), (aG, .inl (E.2.1, 16, .inl fG)), (aV, .inl (E.2.1, 16, .inl fV)), (aS, .inl (E.2.1, 16, .inl fE)), (aO, .inl (E.2.1, 16, .inl fO)), (aP, .inl (E.2.1, 16, .inl fP)), (aQ, .inl (E.2.1, 16, .inl fQ))] _ := hP
  have hD : va_D A [(o, .inr (2, [.ref oK, .ref oM, .ref aO, .ref aP, .ref aQ, .int rdy])), (oK, .inr (0, [.ref aB, .ref aW, .ref aF, .ref aG, .ref aV, .int mde])), (oM, .inr (1, [.ref aS, .int fil, .int opn, .int end_, .int cmp_, .int dif])), (aB, .inl (E.2.1, 16, .inl fB)), (aW, .inl (E.2.1, 176, .inl fW)), (aF, .inl (E.2.1, 16, .inl fF)), (aG, .inl (E.2.1, 16, .inl fG)), (aV, .inl (E.2.1, 16, .inl fV)), (aS, .inl (E.2.1, 16, .inl fE)), (aO, .inl (E.2.1, 16, .inl fO)), (aP, .inl (E.2.1, 16, .inl fP)), (aQ, .inl (E.2.1, 16, .inl fQ))] := hD
  have h1 : ¬ plM p0 = 0 := one_ne (pl_yes hv hk)
  refine lv_aload_n hx hb dX2_blockByte_0 rfl (lv_at hl 0 rfl) ?_
  refine x_get B hP 0 rfl rfl i_X2 5 (by decide) g_81 rfl dX2_blockByte_1 ?_
  refine lv_if_eq (tgt := 23) hx hb dX2_blockByte_4 (by decide) (fun c_4 => ?_) (fun c_4 => ?_)
  · exact absurd c_4 hr
  · refine lv_iload_n hx hb dX2_blockByte_7 rfl (lv_at hl 1 rfl) ?_
    refine x_Si (wr := [(o, .inr (2, [.ref oK, .ref oM, .ref aO, .ref aP, .ref aQ, .int rdy])), (oK, .inr (0, [.ref aB, .ref aW, .ref aF, .ref aG, .ref aV, .int mde])), (oM, .inr (1, [.ref aS, .int fil, .int opn, .int end_, .int cmp_, .int dif])), (aB, .inl (E.2.1, 16, .inl fB)), (aW, .inl (E.2.1, 176, .inl fW)), (aF, .inl (E.2.1, 16, .inl fF)), (aG, .inl (E.2.1, 16, .inl fG)), (aV, .inl (E.2.1, 16, .inl fV)), (aS, .inl (E.2.1, 16, .inl fE)), (aO, .inl (E.2.1, 16, .inl fO)), (aP, .inl (E.2.1, 16, .inl fP)), (aQ, .inl (E.2.1, 16, .inl fQ))]) (isC := []) (isR := [0, 1, 2, 3, 4, 5, 6, 7, 8, 9, 10, 11]) (As := [.int p0]) B (c_X2_isPlace l E p0) k_X2_isPlace g_114 s_X2_isPlace ⟨by decide, by decide, rfl, rfl⟩ hP hD hS ⟨rfl, rfl, rfl, rfl, by decide⟩ rfl hl.1 rfl (Nat.le_of_ble_eq_true rfl) dX2_blockByte_8 ⟨by decide, by decide⟩ (fun H locs hP hD hS => ?_)
    have hP : va_P E.1 classes [(o, .inr (2, [.ref oK, .ref oM, .ref aO, .ref aP, .ref aQ, .int rdy])), (oK, .inr (0, [.ref aB, .ref aW, .ref aF, .ref aG, .ref aV, .int mde])), (oM, .inr (1, [.ref aS, .int fil, .int opn, .int end_, .int cmp_, .int dif])), (aB, .inl (E.2.1, 16, .inl fB)), (aW, .inl (E.2.1, 176, .inl fW)), (aF, .inl (E.2.1, 16, .inl fF)), (aG, .inl (E.2.1, 16, .inl fG)), (aV, .inl (E.2.1, 16, .inl fV)), (aS, .inl (E.2.1, 16, .inl fE)), (aO, .inl (E.2.1, 16, .inl fO)), (aP, .inl (E.2.1, 16, .inl fP)), (aQ, .inl (E.2.1, 16, .inl fQ))] _ := hP
    have hD : va_D A [(o, .inr (2, [.ref oK, .ref oM, .ref aO, .ref aP, .ref aQ, .int rdy])), (oK, .inr (0, [.ref aB, .ref aW, .ref aF, .ref aG, .ref aV, .int mde])), (oM, .inr (1, [.ref aS, .int fil, .int opn, .int end_, .int cmp_, .int dif])), (aB, .inl (E.2.1, 16, .inl fB)), (aW, .inl (E.2.1, 176, .inl fW)), (aF, .inl (E.2.1, 16, .inl fF)), (aG, .inl (E.2.1, 16, .inl fG)), (aV, .inl (E.2.1, 16, .inl fV)), (aS, .inl (E.2.1, 16, .inl fE)), (aO, .inl (E.2.1, 16, .inl fO)), (aP, .inl (E.2.1, 16, .inl fP)), (aQ, .inl (E.2.1, 16, .inl fQ))] := hD
    refine lv_if_eq (tgt := 23) hx hb dX2_blockByte_11 (by decide) (fun c_11 => ?_) (fun c_11 => ?_)
    · exact absurd c_11 h1
    · refine lv_aload_n hx hb dX2_blockByte_14 rfl (lv_at hl 0 rfl) ?_
      refine x_get B hP 0 rfl rfl i_X2 2 (by decide) g_78 rfl dX2_blockByte_15 ?_
      refine lv_iload_n hx hb dX2_blockByte_18 rfl (lv_at hl 1 rfl) ?_
      refine x_ald B hP 9 rfl k hv hk (by decide) dX2_blockByte_19 ?_
      refine lv_goto (tgt := 24) hx hb dX2_blockByte_20 (by decide) ?_
      have hP : va_P E.1 classes [(o, .inr (2, [.ref oK, .ref oM, .ref aO, .ref aP, .ref aQ, .int rdy])), (oK, .inr (0, [.ref aB, .ref aW, .ref aF, .ref aG, .ref aV, .int mde])), (oM, .inr (1, [.ref aS, .int fil, .int opn, .int end_, .int cmp_, .int dif])), (aB, .inl (E.2.1, 16, .inl fB)), (aW, .inl (E.2.1, 176, .inl fW)), (aF, .inl (E.2.1, 16, .inl fF)), (aG, .inl (E.2.1, 16, .inl fG)), (aV, .inl (E.2.1, 16, .inl fV)), (aS, .inl (E.2.1, 16, .inl fE)), (aO, .inl (E.2.1, 16, .inl fO)), (aP, .inl (E.2.1, 16, .inl fP)), (aQ, .inl (E.2.1, 16, .inl fQ))] _ := hP
      have hD : va_D A [(o, .inr (2, [.ref oK, .ref oM, .ref aO, .ref aP, .ref aQ, .int rdy])), (oK, .inr (0, [.ref aB, .ref aW, .ref aF, .ref aG, .ref aV, .int mde])), (oM, .inr (1, [.ref aS, .int fil, .int opn, .int end_, .int cmp_, .int dif])), (aB, .inl (E.2.1, 16, .inl fB)), (aW, .inl (E.2.1, 176, .inl fW)), (aF, .inl (E.2.1, 16, .inl fF)), (aG, .inl (E.2.1, 16, .inl fG)), (aV, .inl (E.2.1, 16, .inl fV)), (aS, .inl (E.2.1, 16, .inl fE)), (aO, .inl (E.2.1, 16, .inl fO)), (aP, .inl (E.2.1, 16, .inl fP)), (aQ, .inl (E.2.1, 16, .inl fQ))] := hD
      exact x_iret B hP hD hS rfl rfl dX2_blockByte_24
set_option maxHeartbeats 4000000 in
set_option maxRecDepth 100000 in
/-- half -/
theorem c_X2_half_yes (l : Launch) (E : EE) (o oK oM aB aW aF aG aV aS aO aP aQ : Nat) (fB fW fF fG fV fE fO fP fQ : Nat → Int32) (mde fil opn end_ cmp_ dif rdy : Int32) (k : Nat) (p0 p1 : Int32) (hv : p1 = nI k) (hk : k < 16) (hm : ¬ mde = 0)   : Ci l yX2_half (.code yX2_half cX2_half 3 (some .int)) ({ frames := 1, cells := 0, slots := 0, locals := 20 }) E [.ref o, .int p0, .int p1] (if p0 = 0 then fF k else if p0 = 1 then fG k else -1) [(o, .inr (2, [.ref oK, .ref oM, .ref aO, .ref aP, .ref aQ, .int rdy])), (oK, .inr (0, [.ref aB, .ref aW, .ref aF, .ref aG, .ref aV, .int mde])), (oM, .inr (1, [.ref aS, .int fil, .int opn, .int end_, .int cmp_, .int dif])), (aB, .inl (E.2.1, 16, .inl fB)), (aW, .inl (E.2.1, 176, .inl fW)), (aF, .inl (E.2.1, 16, .inl fF)), (aG, .inl (E.2.1, 16, .inl fG)), (aV, .inl (E.2.1, 16, .inl fV)), (aS, .inl (E.2.1, 16, .inl fE)), (aO, .inl (E.2.1, 16, .inl fO)), (aP, .inl (E.2.1, 16, .inl fP)), (aQ, .inl (E.2.1, 16, .inl fQ))] [(o, .inr (2, [.ref oK, .ref oM, .ref aO, .ref aP, .ref aQ, .int rdy])), (oK, .inr (0, [.ref aB, .ref aW, .ref aF, .ref aG, .ref aV, .int mde])), (oM, .inr (1, [.ref aS, .int fil, .int opn, .int end_, .int cmp_, .int dif])), (aB, .inl (E.2.1, 16, .inl fB)), (aW, .inl (E.2.1, 176, .inl fW)), (aF, .inl (E.2.1, 16, .inl fF)), (aG, .inl (E.2.1, 16, .inl fG)), (aV, .inl (E.2.1, 16, .inl fV)), (aS, .inl (E.2.1, 16, .inl fE)), (aO, .inl (E.2.1, 16, .inl fO)), (aP, .inl (E.2.1, 16, .inl fP)), (aQ, .inl (E.2.1, 16, .inl fQ))] := by
  refine Ci.of (by decide) (Nat.le_of_ble_eq_true rfl) ?_
  intro p e s m below meth c A ls B hP hD hS hl
  have hl : lv_has ls 3 [(0, .ref o), (1, .int p0), (2, .int p1)] := hl
  have B : Bd p s m _ meth c cX2_half 3 (some .int) RX2 E A := B
  have hx := B.1
  have hb := B.2.1
  have hP : va_P E.1 classes [(o, .inr (2, [.ref oK, .ref oM, .ref aO, .ref aP, .ref aQ, .int rdy])), (oK, .inr (0, [.ref aB, .ref aW, .ref aF, .ref aG, .ref aV, .int mde])), (oM, .inr (1, [.ref aS, .int fil, .int opn, .int end_, .int cmp_, .int dif])), (aB, .inl (E.2.1, 16, .inl fB)), (aW, .inl (E.2.1, 176, .inl fW)), (aF, .inl (E.2.1, 16, .inl fF)), (aG, .inl (E.2.1, 16, .inl fG)), (aV, .inl (E.2.1, 16, .inl fV)), (aS, .inl (E.2.1, 16, .inl fE)), (aO, .inl (E.2.1, 16, .inl fO)), (aP, .inl (E.2.1, 16, .inl fP)), (aQ, .inl (E.2.1, 16, .inl fQ))] _ := hP
  have hD : va_D A [(o, .inr (2, [.ref oK, .ref oM, .ref aO, .ref aP, .ref aQ, .int rdy])), (oK, .inr (0, [.ref aB, .ref aW, .ref aF, .ref aG, .ref aV, .int mde])), (oM, .inr (1, [.ref aS, .int fil, .int opn, .int end_, .int cmp_, .int dif])), (aB, .inl (E.2.1, 16, .inl fB)), (aW, .inl (E.2.1, 176, .inl fW)), (aF, .inl (E.2.1, 16, .inl fF)), (aG, .inl (E.2.1, 16, .inl fG)), (aV, .inl (E.2.1, 16, .inl fV)), (aS, .inl (E.2.1, 16, .inl fE)), (aO, .inl (E.2.1, 16, .inl fO)), (aP, .inl (E.2.1, 16, .inl fP)), (aQ, .inl (E.2.1, 16, .inl fQ))] := hD
  have h1 : ¬ plM p1 = 0 := one_ne (pl_yes hv hk)
  refine lv_aload_n hx hb dX2_half_0 rfl (lv_at hl 0 rfl) ?_
  refine x_get B hP 0 rfl rfl i_X2 0 (by decide) g_76 rfl dX2_half_1 ?_
  refine x_getN B hP 1 rfl rfl i_X0 5 (by decide) n_31 rfl dX2_half_4 ?_
  refine lv_if_eq (tgt := 17) hx hb dX2_half_7 (by decide) (fun c_7 => ?_) (fun c_7 => ?_)
  · exact absurd c_7 hm
  · refine lv_iload_n hx hb dX2_half_10 rfl (lv_at hl 2 rfl) ?_
    refine x_Si (wr := [(o, .inr (2, [.ref oK, .ref oM, .ref aO, .ref aP, .ref aQ, .int rdy])), (oK, .inr (0, [.ref aB, .ref aW, .ref aF, .ref aG, .ref aV, .int mde])), (oM, .inr (1, [.ref aS, .int fil, .int opn, .int end_, .int cmp_, .int dif])), (aB, .inl (E.2.1, 16, .inl fB)), (aW, .inl (E.2.1, 176, .inl fW)), (aF, .inl (E.2.1, 16, .inl fF)), (aG, .inl (E.2.1, 16, .inl fG)), (aV, .inl (E.2.1, 16, .inl fV)), (aS, .inl (E.2.1, 16, .inl fE)), (aO, .inl (E.2.1, 16, .inl fO)), (aP, .inl (E.2.1, 16, .inl fP)), (aQ, .inl (E.2.1, 16, .inl fQ))]) (isC := []) (isR := [0, 1, 2, 3, 4, 5, 6, 7, 8, 9, 10, 11]) (As := [.int p1]) B (c_X2_isPlace l E p1) k_X2_isPlace g_114 s_X2_isPlace ⟨by decide, by decide, rfl, rfl⟩ hP hD hS ⟨rfl, rfl, rfl, rfl, by decide⟩ rfl hl.1 rfl (Nat.le_of_ble_eq_true rfl) dX2_half_11 ⟨by decide, by decide⟩ (fun H locs hP hD hS => ?_)
    have hP : va_P E.1 classes [(o, .inr (2, [.ref oK, .ref oM, .ref aO, .ref aP, .ref aQ, .int rdy])), (oK, .inr (0, [.ref aB, .ref aW, .ref aF, .ref aG, .ref aV, .int mde])), (oM, .inr (1, [.ref aS, .int fil, .int opn, .int end_, .int cmp_, .int dif])), (aB, .inl (E.2.1, 16, .inl fB)), (aW, .inl (E.2.1, 176, .inl fW)), (aF, .inl (E.2.1, 16, .inl fF)), (aG, .inl (E.2.1, 16, .inl fG)), (aV, .inl (E.2.1, 16, .inl fV)), (aS, .inl (E.2.1, 16, .inl fE)), (aO, .inl (E.2.1, 16, .inl fO)), (aP, .inl (E.2.1, 16, .inl fP)), (aQ, .inl (E.2.1, 16, .inl fQ))] _ := hP
    have hD : va_D A [(o, .inr (2, [.ref oK, .ref oM, .ref aO, .ref aP, .ref aQ, .int rdy])), (oK, .inr (0, [.ref aB, .ref aW, .ref aF, .ref aG, .ref aV, .int mde])), (oM, .inr (1, [.ref aS, .int fil, .int opn, .int end_, .int cmp_, .int dif])), (aB, .inl (E.2.1, 16, .inl fB)), (aW, .inl (E.2.1, 176, .inl fW)), (aF, .inl (E.2.1, 16, .inl fF)), (aG, .inl (E.2.1, 16, .inl fG)), (aV, .inl (E.2.1, 16, .inl fV)), (aS, .inl (E.2.1, 16, .inl fE)), (aO, .inl (E.2.1, 16, .inl fO)), (aP, .inl (E.2.1, 16, .inl fP)), (aQ, .inl (E.2.1, 16, .inl fQ))] := hD
    refine lv_if_ne (tgt := 19) hx hb dX2_half_14 (by decide) (fun c_14 => ?_) (fun c_14 => ?_)
    · refine lv_iload_n hx hb dX2_half_19 rfl (lv_at hl 1 rfl) ?_
      refine lv_if_ne (tgt := 33) hx hb dX2_half_20 (by decide) (fun c_20 => ?_) (fun c_20 => ?_)
      · refine lv_iload_n hx hb dX2_half_33 rfl (lv_at hl 1 rfl) ?_
        refine lv_iconst (v := 1) hx hb dX2_half_34 (by decide) ?_
        refine lv_icmp_ne (tgt := 50) hx hb dX2_half_35 (by decide) (fun c_35 => ?_) (fun c_35 => ?_)
        · refine lv_iconst (v := (-1)) hx hb dX2_half_50 (by decide) ?_
          have hP : va_P E.1 classes [(o, .inr (2, [.ref oK, .ref oM, .ref aO, .ref aP, .ref aQ, .int rdy])), (oK, .inr (0, [.ref aB, .ref aW, .ref aF, .ref aG, .ref aV, .int mde])), (oM, .inr (1, [.ref aS, .int fil, .int opn, .int end_, .int cmp_, .int dif])), (aB, .inl (E.2.1, 16, .inl fB)), (aW, .inl (E.2.1, 176, .inl fW)), (aF, .inl (E.2.1, 16, .inl fF)), (aG, .inl (E.2.1, 16, .inl fG)), (aV, .inl (E.2.1, 16, .inl fV)), (aS, .inl (E.2.1, 16, .inl fE)), (aO, .inl (E.2.1, 16, .inl fO)), (aP, .inl (E.2.1, 16, .inl fP)), (aQ, .inl (E.2.1, 16, .inl fQ))] _ := hP
          have hD : va_D A [(o, .inr (2, [.ref oK, .ref oM, .ref aO, .ref aP, .ref aQ, .int rdy])), (oK, .inr (0, [.ref aB, .ref aW, .ref aF, .ref aG, .ref aV, .int mde])), (oM, .inr (1, [.ref aS, .int fil, .int opn, .int end_, .int cmp_, .int dif])), (aB, .inl (E.2.1, 16, .inl fB)), (aW, .inl (E.2.1, 176, .inl fW)), (aF, .inl (E.2.1, 16, .inl fF)), (aG, .inl (E.2.1, 16, .inl fG)), (aV, .inl (E.2.1, 16, .inl fV)), (aS, .inl (E.2.1, 16, .inl fE)), (aO, .inl (E.2.1, 16, .inl fO)), (aP, .inl (E.2.1, 16, .inl fP)), (aQ, .inl (E.2.1, 16, .inl fQ))] := hD
          exact x_iret B hP hD hS rfl (by simp [*]) dX2_half_51
        · refine lv_aload_n hx hb dX2_half_38 rfl (lv_at hl 0 rfl) ?_
          refine x_get B hP 0 rfl rfl i_X2 0 (by decide) g_76 rfl dX2_half_39 ?_
          refine x_getN B hP 1 rfl rfl i_X0 3 (by decide) n_28 rfl dX2_half_42 ?_
          refine lv_iload_n hx hb dX2_half_45 rfl (lv_at hl 2 rfl) ?_
          refine x_ald B hP 6 rfl k hv hk (by decide) dX2_half_46 ?_
          refine lv_goto (tgt := 51) hx hb dX2_half_47 (by decide) ?_
          have hP : va_P E.1 classes [(o, .inr (2, [.ref oK, .ref oM, .ref aO, .ref aP, .ref aQ, .int rdy])), (oK, .inr (0, [.ref aB, .ref aW, .ref aF, .ref aG, .ref aV, .int mde])), (oM, .inr (1, [.ref aS, .int fil, .int opn, .int end_, .int cmp_, .int dif])), (aB, .inl (E.2.1, 16, .inl fB)), (aW, .inl (E.2.1, 176, .inl fW)), (aF, .inl (E.2.1, 16, .inl fF)), (aG, .inl (E.2.1, 16, .inl fG)), (aV, .inl (E.2.1, 16, .inl fV)), (aS, .inl (E.2.1, 16, .inl fE)), (aO, .inl (E.2.1, 16, .inl fO)), (aP, .inl (E.2.1, 16, .inl fP)), (aQ, .inl (E.2.1, 16, .inl fQ))] _ := hP
          have hD : va_D A [(o, .inr (2, [.ref oK, .ref oM, .ref aO, .ref aP, .ref aQ, .int rdy])), (oK, .inr (0, [.ref aB, .ref aW, .ref aF, .ref aG, .ref aV, .int mde])), (oM, .inr (1, [.ref aS, .int fil, .int opn, .int end_, .int cmp_, .int dif])), (aB, .inl (E.2.1, 16, .inl fB)), (aW, .inl (E.2.1, 176, .inl fW)), (aF, .inl (E.2.1, 16, .inl fF)), (aG, .inl (E.2.1, 16, .inl fG)), (aV, .inl (E.2.1, 16, .inl fV)), (aS, .inl (E.2.1, 16, .inl fE)), (aO, .inl (E.2.1, 16, .inl fO)), (aP, .inl (E.2.1, 16, .inl fP)), (aQ, .inl (E.2.1, 16, .inl fQ))] := hD
          exact x_iret B hP hD hS rfl (by simp [*]) dX2_half_51
      · refine lv_aload_n hx hb dX2_half_23 rfl (lv_at hl 0 rfl) ?_
        refine x_get B hP 0 rfl rfl i_X2 0 (by decide) g_76 rfl dX2_half_24 ?_
        refine x_getN B hP 1 rfl rfl i_X0 2 (by decide) n_25 rfl dX2_half_27 ?_
        refine lv_iload_n hx hb dX2_half_30 rfl (lv_at hl 2 rfl) ?_
        refine x_ald B hP 5 rfl k hv hk (by decide) dX2_half_31 ?_
        have hP : va_P E.1 classes [(o, .inr (2, [.ref oK, .ref oM, .ref aO, .ref aP, .ref aQ, .int rdy])), (oK, .inr (0, [.ref aB, .ref aW, .ref aF, .ref aG, .ref aV, .int mde])), (oM, .inr (1, [.ref aS, .int fil, .int opn, .int end_, .int cmp_, .int dif])), (aB, .inl (E.2.1, 16, .inl fB)), (aW, .inl (E.2.1, 176, .inl fW)), (aF, .inl (E.2.1, 16, .inl fF)), (aG, .inl (E.2.1, 16, .inl fG)), (aV, .inl (E.2.1, 16, .inl fV)), (aS, .inl (E.2.1, 16, .inl fE)), (aO, .inl (E.2.1, 16, .inl fO)), (aP, .inl (E.2.1, 16, .inl fP)), (aQ, .inl (E.2.1, 16, .inl fQ))] _ := hP
        have hD : va_D A [(o, .inr (2, [.ref oK, .ref oM, .ref aO, .ref aP, .ref aQ, .int rdy])), (oK, .inr (0, [.ref aB, .ref aW, .ref aF, .ref aG, .ref aV, .int mde])), (oM, .inr (1, [.ref aS, .int fil, .int opn, .int end_, .int cmp_, .int dif])), (aB, .inl (E.2.1, 16, .inl fB)), (aW, .inl (E.2.1, 176, .inl fW)), (aF, .inl (E.2.1, 16, .inl fF)), (aG, .inl (E.2.1, 16, .inl fG)), (aV, .inl (E.2.1, 16, .inl fV)), (aS, .inl (E.2.1, 16, .inl fE)), (aO, .inl (E.2.1, 16, .inl fO)), (aP, .inl (E.2.1, 16, .inl fP)), (aQ, .inl (E.2.1, 16, .inl fQ))] := hD
        exact x_iret B hP hD hS rfl (by simp [*]) dX2_half_32
    · exact absurd c_14 h1
set_option maxHeartbeats 4000000 in
set_option maxRecDepth 100000 in
/-- chainForth -/
theorem c_X2_chainForth (l : Launch) (E : EE) (o oK oM aB aW aF aG aV aS aO aP aQ : Nat) (fB fW fF fG fV fE fO fP fQ : Nat → Int32) (mde fil opn end_ cmp_ dif rdy : Int32) (hB : ∀ i, i < 16 → By (fB i)) (hW : ∀ i, i < 176 → By (fW i)) (hF : ∀ i, i < 16 → By (fF i)) (hG : ∀ i, i < 16 → By (fG i)) (hV : ∀ i, i < 16 → By (fV i)) (hE : ∀ i, i < 16 → By (fE i)) (hO : ∀ i, i < 16 → By (fO i)) (hP0 : ∀ i, i < 16 → By (fP i)) (hQ : ∀ i, i < 16 → By (fQ i)) : Cv l yX2_chainForth (.code yX2_chainForth cX2_chainForth 1 none) ({ frames := 4, cells := 0, slots := 0, locals := 104 }) E [.ref o] [(o, .inr (2, [.ref oK, .ref oM, .ref aO, .ref aP, .ref aQ, .int rdy])), (oK, .inr (0, [.ref aB, .ref aW, .ref aF, .ref aG, .ref aV, .int mde])), (oM, .inr (1, [.ref aS, .int fil, .int opn, .int end_, .int cmp_, .int dif])), (aB, .inl (E.2.1, 16, .inl fB)), (aW, .inl (E.2.1, 176, .inl fW)), (aF, .inl (E.2.1, 16, .inl fF)), (aG, .inl (E.2.1, 16, .inl fG)), (aV, .inl (E.2.1, 16, .inl fV)), (aS, .inl (E.2.1, 16, .inl fE)), (aO, .inl (E.2.1, 16, .inl fO)), (aP, .inl (E.2.1, 16, .inl fP)), (aQ, .inl (E.2.1, 16, .inl fQ))] [(o, .inr (2, [.ref oK, .ref oM, .ref aO, .ref aP, .ref aQ, .int rdy])), (oK, .inr (0, [.ref aB, .ref aW, .ref aF, .ref aG, .ref aV, .int mde])), (oM, .inr (1, [.ref aS, .int fil, .int opn, .int end_, .int cmp_, .int dif])), (aB, .inl (E.2.1, 16, .inl fB)), (aW, .inl (E.2.1, 176, .inl fW)), (aF, .inl (E.2.1, 16, .inl fF)), (aG, .inl (E.2.1, 16, .inl fG)), (aV, .inl (E.2.1, 16, .inl ((forM fW (xorM fP 0 fO 16) fV 10).2))), (aS, .inl (E.2.1, 16, .inl fE)), (aO, .inl (E.2.1, 16, .inl ((forM fW (xorM fP 0 fO 16) fV 10).1))), (aP, .inl (E.2.1, 16, .inl (va_cpy (forM fW (xorM fP 0 fO 16) fV 10).1 fP 0 0 16))), (aQ, .inl (E.2.1, 16, .inl fQ))] := by
  refine Cv.of (by decide) (Nat.le_of_ble_eq_true rfl) ?_
  intro p e s m below meth c A ls B hP hD hS hl
  have hl : lv_has ls 1 [(0, .ref o)] := hl
  have B : Bd p s m _ meth c cX2_chainForth 1 none RX2 E A := B
  have hx := B.1
  have hb := B.2.1
  have hP : va_P E.1 classes [(o, .inr (2, [.ref oK, .ref oM, .ref aO, .ref aP, .ref aQ, .int rdy])), (oK, .inr (0, [.ref aB, .ref aW, .ref aF, .ref aG, .ref aV, .int mde])), (oM, .inr (1, [.ref aS, .int fil, .int opn, .int end_, .int cmp_, .int dif])), (aB, .inl (E.2.1, 16, .inl fB)), (aW, .inl (E.2.1, 176, .inl fW)), (aF, .inl (E.2.1, 16, .inl fF)), (aG, .inl (E.2.1, 16, .inl fG)), (aV, .inl (E.2.1, 16, .inl fV)), (aS, .inl (E.2.1, 16, .inl fE)), (aO, .inl (E.2.1, 16, .inl fO)), (aP, .inl (E.2.1, 16, .inl fP)), (aQ, .inl (E.2.1, 16, .inl fQ))] _ := hP
  have hD : va_D A [(o, .inr (2, [.ref oK, .ref oM, .ref aO, .ref aP, .ref aQ, .int rdy])), (oK, .inr (0, [.ref aB, .ref aW, .ref aF, .ref aG, .ref aV, .int mde])), (oM, .inr (1, [.ref aS, .int fil, .int opn, .int end_, .int cmp_, .int dif])), (aB, .inl (E.2.1, 16, .inl fB)), (aW, .inl (E.2.1, 176, .inl fW)), (aF, .inl (E.2.1, 16, .inl fF)), (aG, .inl (E.2.1, 16, .inl fG)), (aV, .inl (E.2.1, 16, .inl fV)), (aS, .inl (E.2.1, 16, .inl fE)), (aO, .inl (E.2.1, 16, .inl fO)), (aP, .inl (E.2.1, 16, .inl fP)), (aQ, .inl (E.2.1, 16, .inl fQ))] := hD
  refine lv_aload_n hx hb dX2_chainForth_0 rfl (lv_at hl 0 rfl) ?_
  refine x_get B hP 0 rfl rfl i_X2 2 (by decide) g_78 rfl dX2_chainForth_1 ?_
  refine lv_aload_n hx hb dX2_chainForth_4 rfl (lv_at hl 0 rfl) ?_
  refine x_get B hP 0 rfl rfl i_X2 3 (by decide) g_79 rfl dX2_chainForth_5 ?_
  refine lv_iconst (v := 0) hx hb dX2_chainForth_8 (by decide) ?_
  refine x_Sv (wr := [(o, .inr (2, [.ref oK, .ref oM, .ref aO, .ref aP, .ref aQ, .int rdy])), (oK, .inr (0, [.ref aB, .ref aW, .ref aF, .ref aG, .ref aV, .int mde])), (oM, .inr (1, [.ref aS, .int fil, .int opn, .int end_, .int cmp_, .int dif])), (aB, .inl (E.2.1, 16, .inl fB)), (aW, .inl (E.2.1, 176, .inl fW)), (aF, .inl (E.2.1, 16, .inl fF)), (aG, .inl (E.2.1, 16, .inl fG)), (aV, .inl (E.2.1, 16, .inl fV)), (aS, .inl (E.2.1, 16, .inl fE)), (aQ, .inl (E.2.1, 16, .inl fQ))]) (isC := [9, 10]) (isR := [0, 1, 2, 3, 4, 5, 6, 7, 8, 11]) (As := [.ref aO, .ref aP, .int 0]) B (c_X2_xor l E aO aP 16 0 fO fP 0 rfl (by omega) (by decide)) k_X2_xor g_262 s_X2_xor ⟨by decide, by decide, rfl, rfl⟩ hP hD hS ⟨rfl, rfl, rfl, rfl, by decide⟩ rfl hl.1 rfl (Nat.le_of_ble_eq_true rfl) dX2_chainForth_9 ⟨by decide, by decide⟩ (fun H locs hP hD hS => ?_)
  have hP : va_P E.1 classes [(o, .inr (2, [.ref oK, .ref oM, .ref aO, .ref aP, .ref aQ, .int rdy])), (oK, .inr (0, [.ref aB, .ref aW, .ref aF, .ref aG, .ref aV, .int mde])), (oM, .inr (1, [.ref aS, .int fil, .int opn, .int end_, .int cmp_, .int dif])), (aB, .inl (E.2.1, 16, .inl fB)), (aW, .inl (E.2.1, 176, .inl fW)), (aF, .inl (E.2.1, 16, .inl fF)), (aG, .inl (E.2.1, 16, .inl fG)), (aV, .inl (E.2.1, 16, .inl fV)), (aS, .inl (E.2.1, 16, .inl fE)), (aQ, .inl (E.2.1, 16, .inl fQ)), (aO, .inl (E.2.1, 16, .inl (xorM fP 0 fO 16))), (aP, .inl (E.2.1, 16, .inl fP))] _ := hP
  have hD : va_D A [(o, .inr (2, [.ref oK, .ref oM, .ref aO, .ref aP, .ref aQ, .int rdy])), (oK, .inr (0, [.ref aB, .ref aW, .ref aF, .ref aG, .ref aV, .int mde])), (oM, .inr (1, [.ref aS, .int fil, .int opn, .int end_, .int cmp_, .int dif])), (aB, .inl (E.2.1, 16, .inl fB)), (aW, .inl (E.2.1, 176, .inl fW)), (aF, .inl (E.2.1, 16, .inl fF)), (aG, .inl (E.2.1, 16, .inl fG)), (aV, .inl (E.2.1, 16, .inl fV)), (aS, .inl (E.2.1, 16, .inl fE)), (aQ, .inl (E.2.1, 16, .inl fQ)), (aO, .inl (E.2.1, 16, .inl (xorM fP 0 fO 16))), (aP, .inl (E.2.1, 16, .inl fP))] := hD
  refine lv_aload_n hx hb dX2_chainForth_12 rfl (lv_at hl 0 rfl) ?_
  refine x_get B hP 0 rfl rfl i_X2 0 (by decide) g_76 rfl dX2_chainForth_13 ?_
  refine lv_aload_n hx hb dX2_chainForth_16 rfl (lv_at hl 0 rfl) ?_
  refine x_get B hP 0 rfl rfl i_X2 2 (by decide) g_78 rfl dX2_chainForth_17 ?_
  refine x_Vv (wr := [(o, .inr (2, [.ref oK, .ref oM, .ref aO, .ref aP, .ref aQ, .int rdy])), (oM, .inr (1, [.ref aS, .int fil, .int opn, .int end_, .int cmp_, .int dif])), (aB, .inl (E.2.1, 16, .inl fB)), (aF, .inl (E.2.1, 16, .inl fF)), (aG, .inl (E.2.1, 16, .inl fG)), (aS, .inl (E.2.1, 16, .inl fE)), (aQ, .inl (E.2.1, 16, .inl fQ)), (aP, .inl (E.2.1, 16, .inl fP))]) (isC := [1, 4, 7, 10]) (isR := [0, 2, 3, 5, 6, 8, 9, 11]) (As := [.ref aO]) B (c_X0_goForth l E oK aB aW aF aG aV aO fW (xorM fP 0 fO 16) fV mde hW (xorM_by hP0 hO 16 (by decide) (by omega)) hV) k_X0_goForth g_235 s_X0_goForth ⟨by decide, by decide, rfl, rfl⟩ rfl 1 rfl hP hD hS ⟨rfl, rfl, rfl, rfl, by decide⟩ rfl hl.1 rfl (Nat.le_of_ble_eq_true rfl) dX2_chainForth_20 ⟨by decide, by decide⟩ (fun H locs hP hD hS => ?_)
  have hP : va_P E.1 classes [(o, .inr (2, [.ref oK, .ref oM, .ref aO, .ref aP, .ref aQ, .int rdy])), (oM, .inr (1, [.ref aS, .int fil, .int opn, .int end_, .int cmp_, .int dif])), (aB, .inl (E.2.1, 16, .inl fB)), (aF, .inl (E.2.1, 16, .inl fF)), (aG, .inl (E.2.1, 16, .inl fG)), (aS, .inl (E.2.1, 16, .inl fE)), (aQ, .inl (E.2.1, 16, .inl fQ)), (aP, .inl (E.2.1, 16, .inl fP)), (oK, .inr (0, [.ref aB, .ref aW, .ref aF, .ref aG, .ref aV, .int mde])), (aW, .inl (E.2.1, 176, .inl fW)), (aV, .inl (E.2.1, 16, .inl ((forM fW (xorM fP 0 fO 16) fV 10).2))), (aO, .inl (E.2.1, 16, .inl ((forM fW (xorM fP 0 fO 16) fV 10).1)))] _ := hP
  have hD : va_D A [(o, .inr (2, [.ref oK, .ref oM, .ref aO, .ref aP, .ref aQ, .int rdy])), (oM, .inr (1, [.ref aS, .int fil, .int opn, .int end_, .int cmp_, .int dif])), (aB, .inl (E.2.1, 16, .inl fB)), (aF, .inl (E.2.1, 16, .inl fF)), (aG, .inl (E.2.1, 16, .inl fG)), (aS, .inl (E.2.1, 16, .inl fE)), (aQ, .inl (E.2.1, 16, .inl fQ)), (aP, .inl (E.2.1, 16, .inl fP)), (oK, .inr (0, [.ref aB, .ref aW, .ref aF, .ref aG, .ref aV, .int mde])), (aW, .inl (E.2.1, 176, .inl fW)), (aV, .inl (E.2.1, 16, .inl ((forM fW (xorM fP 0 fO 16) fV 10).2))), (aO, .inl (E.2.1, 16, .inl ((forM fW (xorM fP 0 fO 16) fV 10).1)))] := hD
  refine lv_aload_n hx hb dX2_chainForth_23 rfl (lv_at hl 0 rfl) ?_
  refine x_get B hP 0 rfl rfl i_X2 2 (by decide) g_78 rfl dX2_chainForth_24 ?_
  refine lv_iconst (v := 0) hx hb dX2_chainForth_27 (by decide) ?_
  refine lv_aload_n hx hb dX2_chainForth_28 rfl (lv_at hl 0 rfl) ?_
  refine x_get B hP 0 rfl rfl i_X2 3 (by decide) g_79 rfl dX2_chainForth_29 ?_
  refine lv_iconst (v := 0) hx hb dX2_chainForth_32 (by decide) ?_
  refine lv_bipush (v := 16) hx hb dX2_chainForth_33 (by decide) ?_
  refine x_copy B hP hD hS g_261 w_copy hl.1 11 7 rfl rfl 16 rfl (by decide) (by decide) (by decide) (by decide) (Nat.le_of_ble_eq_true rfl) dX2_chainForth_35 (fun H locs hP hD hS => ?_)
  have hP : va_P E.1 classes [(o, .inr (2, [.ref oK, .ref oM, .ref aO, .ref aP, .ref aQ, .int rdy])), (oM, .inr (1, [.ref aS, .int fil, .int opn, .int end_, .int cmp_, .int dif])), (aB, .inl (E.2.1, 16, .inl fB)), (aF, .inl (E.2.1, 16, .inl fF)), (aG, .inl (E.2.1, 16, .inl fG)), (aS, .inl (E.2.1, 16, .inl fE)), (aQ, .inl (E.2.1, 16, .inl fQ)), (aP, .inl (E.2.1, 16, .inl (va_cpy ((forM fW (xorM fP 0 fO 16) fV 10).1) fP 0 0 16))), (oK, .inr (0, [.ref aB, .ref aW, .ref aF, .ref aG, .ref aV, .int mde])), (aW, .inl (E.2.1, 176, .inl fW)), (aV, .inl (E.2.1, 16, .inl ((forM fW (xorM fP 0 fO 16) fV 10).2))), (aO, .inl (E.2.1, 16, .inl ((forM fW (xorM fP 0 fO 16) fV 10).1)))] _ := hP
  have hD : va_D A [(o, .inr (2, [.ref oK, .ref oM, .ref aO, .ref aP, .ref aQ, .int rdy])), (oM, .inr (1, [.ref aS, .int fil, .int opn, .int end_, .int cmp_, .int dif])), (aB, .inl (E.2.1, 16, .inl fB)), (aF, .inl (E.2.1, 16, .inl fF)), (aG, .inl (E.2.1, 16, .inl fG)), (aS, .inl (E.2.1, 16, .inl fE)), (aQ, .inl (E.2.1, 16, .inl fQ)), (aP, .inl (E.2.1, 16, .inl (va_cpy ((forM fW (xorM fP 0 fO 16) fV 10).1) fP 0 0 16))), (oK, .inr (0, [.ref aB, .ref aW, .ref aF, .ref aG, .ref aV, .int mde])), (aW, .inl (E.2.1, 176, .inl fW)), (aV, .inl (E.2.1, 16, .inl ((forM fW (xorM fP 0 fO 16) fV 10).2))), (aO, .inl (E.2.1, 16, .inl ((forM fW (xorM fP 0 fO 16) fV 10).1)))] := hD
  have hP := hP.sub (ws' := [(o, .inr (2, [.ref oK, .ref oM, .ref aO, .ref aP, .ref aQ, .int rdy])), (oK, .inr (0, [.ref aB, .ref aW, .ref aF, .ref aG, .ref aV, .int mde])), (oM, .inr (1, [.ref aS, .int fil, .int opn, .int end_, .int cmp_, .int dif])), (aB, .inl (E.2.1, 16, .inl fB)), (aW, .inl (E.2.1, 176, .inl fW)), (aF, .inl (E.2.1, 16, .inl fF)), (aG, .inl (E.2.1, 16, .inl fG)), (aV, .inl (E.2.1, 16, .inl ((forM fW (xorM fP 0 fO 16) fV 10).2))), (aS, .inl (E.2.1, 16, .inl fE)), (aO, .inl (E.2.1, 16, .inl ((forM fW (xorM fP 0 fO 16) fV 10).1))), (aP, .inl (E.2.1, 16, .inl (va_cpy ((forM fW (xorM fP 0 fO 16) fV 10).1) fP 0 0 16))), (aQ, .inl (E.2.1, 16, .inl fQ))]) [0, 8, 1, 2, 9, 3, 4, 10, 5, 11, 7, 6] rfl
  have hD := hD.sub (ws' := [(o, .inr (2, [.ref oK, .ref oM, .ref aO, .ref aP, .ref aQ, .int rdy])), (oK, .inr (0, [.ref aB, .ref aW, .ref aF, .ref aG, .ref aV, .int mde])), (oM, .inr (1, [.ref aS, .int fil, .int opn, .int end_, .int cmp_, .int dif])), (aB, .inl (E.2.1, 16, .inl fB)), (aW, .inl (E.2.1, 176, .inl fW)), (aF, .inl (E.2.1, 16, .inl fF)), (aG, .inl (E.2.1, 16, .inl fG)), (aV, .inl (E.2.1, 16, .inl ((forM fW (xorM fP 0 fO 16) fV 10).2))), (aS, .inl (E.2.1, 16, .inl fE)), (aO, .inl (E.2.1, 16, .inl ((forM fW (xorM fP 0 fO 16) fV 10).1))), (aP, .inl (E.2.1, 16, .inl (va_cpy ((forM fW (xorM fP 0 fO 16) fV 10).1) fP 0 0 16))), (aQ, .inl (E.2.1, 16, .inl fQ))]) [0, 8, 1, 2, 9, 3, 4, 10, 5, 11, 7, 6] (by decide) rfl
  have hP : va_P E.1 classes [(o, .inr (2, [.ref oK, .ref oM, .ref aO, .ref aP, .ref aQ, .int rdy])), (oK, .inr (0, [.ref aB, .ref aW, .ref aF, .ref aG, .ref aV, .int mde])), (oM, .inr (1, [.ref aS, .int fil, .int opn, .int end_, .int cmp_, .int dif])), (aB, .inl (E.2.1, 16, .inl fB)), (aW, .inl (E.2.1, 176, .inl fW)), (aF, .inl (E.2.1, 16, .inl fF)), (aG, .inl (E.2.1, 16, .inl fG)), (aV, .inl (E.2.1, 16, .inl ((forM fW (xorM fP 0 fO 16) fV 10).2))), (aS, .inl (E.2.1, 16, .inl fE)), (aO, .inl (E.2.1, 16, .inl ((forM fW (xorM fP 0 fO 16) fV 10).1))), (aP, .inl (E.2.1, 16, .inl (va_cpy (forM fW (xorM fP 0 fO 16) fV 10).1 fP 0 0 16))), (aQ, .inl (E.2.1, 16, .inl fQ))] _ := hP
  have hD : va_D A [(o, .inr (2, [.ref oK, .ref oM, .ref aO, .ref aP, .ref aQ, .int rdy])), (oK, .inr (0, [.ref aB, .ref aW, .ref aF, .ref aG, .ref aV, .int mde])), (oM, .inr (1, [.ref aS, .int fil, .int opn, .int end_, .int cmp_, .int dif])), (aB, .inl (E.2.1, 16, .inl fB)), (aW, .inl (E.2.1, 176, .inl fW)), (aF, .inl (E.2.1, 16, .inl fF)), (aG, .inl (E.2.1, 16, .inl fG)), (aV, .inl (E.2.1, 16, .inl ((forM fW (xorM fP 0 fO 16) fV 10).2))), (aS, .inl (E.2.1, 16, .inl fE)), (aO, .inl (E.2.1, 16, .inl ((forM fW (xorM fP 0 fO 16) fV 10).1))), (aP, .inl (E.2.1, 16, .inl (va_cpy (forM fW (xorM fP 0 fO 16) fV 10).1 fP 0 0 16))), (aQ, .inl (E.2.1, 16, .inl fQ))] := hD
  exact x_vret B hP hD hS dX2_chainForth_38
set_option maxHeartbeats 4000000 in
set_option maxRecDepth 100000 in
/-- chainBack -/
theorem c_X2_chainBack (l : Launch) (E : EE) (o oK oM aB aW aF aG aV aS aO aP aQ : Nat) (fB fW fF fG fV fE fO fP fQ : Nat → Int32) (mde fil opn end_ cmp_ dif rdy : Int32) (hB : ∀ i, i < 16 → By (fB i)) (hW : ∀ i, i < 176 → By (fW i)) (hF : ∀ i, i < 16 → By (fF i)) (hG : ∀ i, i < 16 → By (fG i)) (hV : ∀ i, i < 16 → By (fV i)) (hE : ∀ i, i < 16 → By (fE i)) (hO : ∀ i, i < 16 → By (fO i)) (hP0 : ∀ i, i < 16 → By (fP i)) (hQ : ∀ i, i < 16 → By (fQ i)) : Cv l yX2_chainBack (.code yX2_chainBack cX2_chainBack 1 none) ({ frames := 5, cells := 0, slots := 0, locals := 110 }) E [.ref o] [(o, .inr (2, [.ref oK, .ref oM, .ref aO, .ref aP, .ref aQ, .int rdy])), (oK, .inr (0, [.ref aB, .ref aW, .ref aF, .ref aG, .ref aV, .int mde])), (oM, .inr (1, [.ref aS, .int fil, .int opn, .int end_, .int cmp_, .int dif])), (aB, .inl (E.2.1, 16, .inl fB)), (aW, .inl (E.2.1, 176, .inl fW)), (aF, .inl (E.2.1, 16, .inl fF)), (aG, .inl (E.2.1, 16, .inl fG)), (aV, .inl (E.2.1, 16, .inl fV)), (aS, .inl (E.2.1, 16, .inl fE)), (aO, .inl (E.2.1, 16, .inl fO)), (aP, .inl (E.2.1, 16, .inl fP)), (aQ, .inl (E.2.1, 16, .inl fQ))] [(o, .inr (2, [.ref oK, .ref oM, .ref aO, .ref aP, .ref aQ, .int rdy])), (oK, .inr (0, [.ref aB, .ref aW, .ref aF, .ref aG, .ref aV, .int mde])), (oM, .inr (1, [.ref aS, .int fil, .int opn, .int end_, .int cmp_, .int dif])), (aB, .inl (E.2.1, 16, .inl fB)), (aW, .inl (E.2.1, 176, .inl fW)), (aF, .inl (E.2.1, 16, .inl fF)), (aG, .inl (E.2.1, 16, .inl fG)), (aV, .inl (E.2.1, 16, .inl ((bckM fW fO fV 10).2))), (aS, .inl (E.2.1, 16, .inl fE)), (aO, .inl (E.2.1, 16, .inl (xorM fP 0 (bckW fW fO fV) 16))), (aP, .inl (E.2.1, 16, .inl (va_cpy (va_cpy fO fQ 0 0 16) fP 0 0 16))), (aQ, .inl (E.2.1, 16, .inl (va_cpy fO fQ 0 0 16)))] := by
  refine Cv.of (by decide) (Nat.le_of_ble_eq_true rfl) ?_
  intro p e s m below meth c A ls B hP hD hS hl
  have hl : lv_has ls 1 [(0, .ref o)] := hl
  have B : Bd p s m _ meth c cX2_chainBack 1 none RX2 E A := B
  have hx := B.1
  have hb := B.2.1
  have hP : va_P E.1 classes [(o, .inr (2, [.ref oK, .ref oM, .ref aO, .ref aP, .ref aQ, .int rdy])), (oK, .inr (0, [.ref aB, .ref aW, .ref aF, .ref aG, .ref aV, .int mde])), (oM, .inr (1, [.ref aS, .int fil, .int opn, .int end_, .int cmp_, .int dif])), (aB, .inl (E.2.1, 16, .inl fB)), (aW, .inl (E.2.1, 176, .inl fW)), (aF, .inl (E.2.1, 16, .inl fF)), (aG, .inl (E.2.1, 16, .inl fG)), (aV, .inl (E.2.1, 16, .inl fV)), (aS, .inl (E.2.1, 16, .inl fE)), (aO, .inl (E.2.1, 16, .inl fO)), (aP, .inl (E.2.1, 16, .inl fP)), (aQ, .inl (E.2.1, 16, .inl fQ))] _ := hP
  have hD : va_D A [(o, .inr (2, [.ref oK, .ref oM, .ref aO, .ref aP, .ref aQ, .int rdy])), (oK, .inr (0, [.ref aB, .ref aW, .ref aF, .ref aG, .ref aV, .int mde])), (oM, .inr (1, [.ref aS, .int fil, .int opn, .int end_, .int cmp_, .int dif])), (aB, .inl (E.2.1, 16, .inl fB)), (aW, .inl (E.2.1, 176, .inl fW)), (aF, .inl (E.2.1, 16, .inl fF)), (aG, .inl (E.2.1, 16, .inl fG)), (aV, .inl (E.2.1, 16, .inl fV)), (aS, .inl (E.2.1, 16, .inl fE)), (aO, .inl (E.2.1, 16, .inl fO)), (aP, .inl (E.2.1, 16, .inl fP)), (aQ, .inl (E.2.1, 16, .inl fQ))] := hD
  refine lv_aload_n hx hb dX2_chainBack_0 rfl (lv_at hl 0 rfl) ?_
  refine x_get B hP 0 rfl rfl i_X2 2 (by decide) g_78 rfl dX2_chainBack_1 ?_
  refine lv_iconst (v := 0) hx hb dX2_chainBack_4 (by decide) ?_
  refine lv_aload_n hx hb dX2_chainBack_5 rfl (lv_at hl 0 rfl) ?_
  refine x_get B hP 0 rfl rfl i_X2 4 (by decide) g_80 rfl dX2_chainBack_6 ?_
  refine lv_iconst (v := 0) hx hb dX2_chainBack_9 (by decide) ?_
  refine lv_bipush (v := 16) hx hb dX2_chainBack_10 (by decide) ?_
  refine x_copy B hP hD hS g_261 w_copy hl.1 9 11 rfl rfl 16 rfl (by decide) (by decide) (by decide) (by decide) (Nat.le_of_ble_eq_true rfl) dX2_chainBack_12 (fun H locs hP hD hS => ?_)
  have hP : va_P E.1 classes [(o, .inr (2, [.ref oK, .ref oM, .ref aO, .ref aP, .ref aQ, .int rdy])), (oK, .inr (0, [.ref aB, .ref aW, .ref aF, .ref aG, .ref aV, .int mde])), (oM, .inr (1, [.ref aS, .int fil, .int opn, .int end_, .int cmp_, .int dif])), (aB, .inl (E.2.1, 16, .inl fB)), (aW, .inl (E.2.1, 176, .inl fW)), (aF, .inl (E.2.1, 16, .inl fF)), (aG, .inl (E.2.1, 16, .inl fG)), (aV, .inl (E.2.1, 16, .inl fV)), (aS, .inl (E.2.1, 16, .inl fE)), (aO, .inl (E.2.1, 16, .inl fO)), (aP, .inl (E.2.1, 16, .inl fP)), (aQ, .inl (E.2.1, 16, .inl (va_cpy fO fQ 0 0 16)))] _ := hP
  have hD : va_D A [(o, .inr (2, [.ref oK, .ref oM, .ref aO, .ref aP, .ref aQ, .int rdy])), (oK, .inr (0, [.ref aB, .ref aW, .ref aF, .ref aG, .ref aV, .int mde])), (oM, .inr (1, [.ref aS, .int fil, .int opn, .int end_, .int cmp_, .int dif])), (aB, .inl (E.2.1, 16, .inl fB)), (aW, .inl (E.2.1, 176, .inl fW)), (aF, .inl (E.2.1, 16, .inl fF)), (aG, .inl (E.2.1, 16, .inl fG)), (aV, .inl (E.2.1, 16, .inl fV)), (aS, .inl (E.2.1, 16, .inl fE)), (aO, .inl (E.2.1, 16, .inl fO)), (aP, .inl (E.2.1, 16, .inl fP)), (aQ, .inl (E.2.1, 16, .inl (va_cpy fO fQ 0 0 16)))] := hD
  refine lv_aload_n hx hb dX2_chainBack_15 rfl (lv_at hl 0 rfl) ?_
  refine x_get B hP 0 rfl rfl i_X2 0 (by decide) g_76 rfl dX2_chainBack_16 ?_
  refine lv_aload_n hx hb dX2_chainBack_19 rfl (lv_at hl 0 rfl) ?_
  refine x_get B hP 0 rfl rfl i_X2 2 (by decide) g_78 rfl dX2_chainBack_20 ?_
  refine x_Vv (wr := [(o, .inr (2, [.ref oK, .ref oM, .ref aO, .ref aP, .ref aQ, .int rdy])), (oM, .inr (1, [.ref aS, .int fil, .int opn, .int end_, .int cmp_, .int dif])), (aB, .inl (E.2.1, 16, .inl fB)), (aF, .inl (E.2.1, 16, .inl fF)), (aG, .inl (E.2.1, 16, .inl fG)), (aS, .inl (E.2.1, 16, .inl fE)), (aP, .inl (E.2.1, 16, .inl fP)), (aQ, .inl (E.2.1, 16, .inl (va_cpy fO fQ 0 0 16)))]) (isC := [1, 4, 7, 9]) (isR := [0, 2, 3, 5, 6, 8, 10, 11]) (As := [.ref aO]) B (c_X0_goBack l E oK aB aW aF aG aV aO fW fO fV mde hW hO hV) k_X0_goBack g_240 s_X0_goBack ⟨by decide, by decide, rfl, rfl⟩ rfl 1 rfl hP hD hS ⟨rfl, rfl, rfl, rfl, by decide⟩ rfl hl.1 rfl (Nat.le_of_ble_eq_true rfl) dX2_chainBack_23 ⟨by decide, by decide⟩ (fun H locs hP hD hS => ?_)
  have hP : va_P E.1 classes [(o, .inr (2, [.ref oK, .ref oM, .ref aO, .ref aP, .ref aQ, .int rdy])), (oM, .inr (1, [.ref aS, .int fil, .int opn, .int end_, .int cmp_, .int dif])), (aB, .inl (E.2.1, 16, .inl fB)), (aF, .inl (E.2.1, 16, .inl fF)), (aG, .inl (E.2.1, 16, .inl fG)), (aS, .inl (E.2.1, 16, .inl fE)), (aP, .inl (E.2.1, 16, .inl fP)), (aQ, .inl (E.2.1, 16, .inl (va_cpy fO fQ 0 0 16))), (oK, .inr (0, [.ref aB, .ref aW, .ref aF, .ref aG, .ref aV, .int mde])), (aW, .inl (E.2.1, 176, .inl fW)), (aV, .inl (E.2.1, 16, .inl ((bckM fW fO fV 10).2))), (aO, .inl (E.2.1, 16, .inl (bckW fW fO fV)))] _ := hP
  have hD : va_D A [(o, .inr (2, [.ref oK, .ref oM, .ref aO, .ref aP, .ref aQ, .int rdy])), (oM, .inr (1, [.ref aS, .int fil, .int opn, .int end_, .int cmp_, .int dif])), (aB, .inl (E.2.1, 16, .inl fB)), (aF, .inl (E.2.1, 16, .inl fF)), (aG, .inl (E.2.1, 16, .inl fG)), (aS, .inl (E.2.1, 16, .inl fE)), (aP, .inl (E.2.1, 16, .inl fP)), (aQ, .inl (E.2.1, 16, .inl (va_cpy fO fQ 0 0 16))), (oK, .inr (0, [.ref aB, .ref aW, .ref aF, .ref aG, .ref aV, .int mde])), (aW, .inl (E.2.1, 176, .inl fW)), (aV, .inl (E.2.1, 16, .inl ((bckM fW fO fV 10).2))), (aO, .inl (E.2.1, 16, .inl (bckW fW fO fV)))] := hD
  refine lv_aload_n hx hb dX2_chainBack_26 rfl (lv_at hl 0 rfl) ?_
  refine x_get B hP 0 rfl rfl i_X2 2 (by decide) g_78 rfl dX2_chainBack_27 ?_
  refine lv_aload_n hx hb dX2_chainBack_30 rfl (lv_at hl 0 rfl) ?_
  refine x_get B hP 0 rfl rfl i_X2 3 (by decide) g_79 rfl dX2_chainBack_31 ?_
  refine lv_iconst (v := 0) hx hb dX2_chainBack_34 (by decide) ?_
  refine x_Sv (wr := [(o, .inr (2, [.ref oK, .ref oM, .ref aO, .ref aP, .ref aQ, .int rdy])), (oM, .inr (1, [.ref aS, .int fil, .int opn, .int end_, .int cmp_, .int dif])), (aB, .inl (E.2.1, 16, .inl fB)), (aF, .inl (E.2.1, 16, .inl fF)), (aG, .inl (E.2.1, 16, .inl fG)), (aS, .inl (E.2.1, 16, .inl fE)), (aQ, .inl (E.2.1, 16, .inl (va_cpy fO fQ 0 0 16))), (oK, .inr (0, [.ref aB, .ref aW, .ref aF, .ref aG, .ref aV, .int mde])), (aW, .inl (E.2.1, 176, .inl fW)), (aV, .inl (E.2.1, 16, .inl ((bckM fW fO fV 10).2)))]) (isC := [11, 6]) (isR := [0, 1, 2, 3, 4, 5, 7, 8, 9, 10]) (As := [.ref aO, .ref aP, .int 0]) B (c_X2_xor l E aO aP 16 0 (bckW fW fO fV) fP 0 rfl (by omega) (by decide)) k_X2_xor g_262 s_X2_xor ⟨by decide, by decide, rfl, rfl⟩ hP hD hS ⟨rfl, rfl, rfl, rfl, by decide⟩ rfl hl.1 rfl (Nat.le_of_ble_eq_true rfl) dX2_chainBack_35 ⟨by decide, by decide⟩ (fun H locs hP hD hS => ?_)
  have hP : va_P E.1 classes [(o, .inr (2, [.ref oK, .ref oM, .ref aO, .ref aP, .ref aQ, .int rdy])), (oM, .inr (1, [.ref aS, .int fil, .int opn, .int end_, .int cmp_, .int dif])), (aB, .inl (E.2.1, 16, .inl fB)), (aF, .inl (E.2.1, 16, .inl fF)), (aG, .inl (E.2.1, 16, .inl fG)), (aS, .inl (E.2.1, 16, .inl fE)), (aQ, .inl (E.2.1, 16, .inl (va_cpy fO fQ 0 0 16))), (oK, .inr (0, [.ref aB, .ref aW, .ref aF, .ref aG, .ref aV, .int mde])), (aW, .inl (E.2.1, 176, .inl fW)), (aV, .inl (E.2.1, 16, .inl ((bckM fW fO fV 10).2))), (aO, .inl (E.2.1, 16, .inl (xorM fP 0 (bckW fW fO fV) 16))), (aP, .inl (E.2.1, 16, .inl fP))] _ := hP
  have hD : va_D A [(o, .inr (2, [.ref oK, .ref oM, .ref aO, .ref aP, .ref aQ, .int rdy])), (oM, .inr (1, [.ref aS, .int fil, .int opn, .int end_, .int cmp_, .int dif])), (aB, .inl (E.2.1, 16, .inl fB)), (aF, .inl (E.2.1, 16, .inl fF)), (aG, .inl (E.2.1, 16, .inl fG)), (aS, .inl (E.2.1, 16, .inl fE)), (aQ, .inl (E.2.1, 16, .inl (va_cpy fO fQ 0 0 16))), (oK, .inr (0, [.ref aB, .ref aW, .ref aF, .ref aG, .ref aV, .int mde])), (aW, .inl (E.2.1, 176, .inl fW)), (aV, .inl (E.2.1, 16, .inl ((bckM fW fO fV 10).2))), (aO, .inl (E.2.1, 16, .inl (xorM fP 0 (bckW fW fO fV) 16))), (aP, .inl (E.2.1, 16, .inl fP))] := hD
  refine lv_aload_n hx hb dX2_chainBack_38 rfl (lv_at hl 0 rfl) ?_
  refine x_get B hP 0 rfl rfl i_X2 4 (by decide) g_80 rfl dX2_chainBack_39 ?_
  refine lv_iconst (v := 0) hx hb dX2_chainBack_42 (by decide) ?_
  refine lv_aload_n hx hb dX2_chainBack_43 rfl (lv_at hl 0 rfl) ?_
  refine x_get B hP 0 rfl rfl i_X2 3 (by decide) g_79 rfl dX2_chainBack_44 ?_
  refine lv_iconst (v := 0) hx hb dX2_chainBack_47 (by decide) ?_
  refine lv_bipush (v := 16) hx hb dX2_chainBack_48 (by decide) ?_
  refine x_copy B hP hD hS g_261 w_copy hl.1 6 11 rfl rfl 16 rfl (by decide) (by decide) (by decide) (by decide) (Nat.le_of_ble_eq_true rfl) dX2_chainBack_50 (fun H locs hP hD hS => ?_)
  have hP : va_P E.1 classes [(o, .inr (2, [.ref oK, .ref oM, .ref aO, .ref aP, .ref aQ, .int rdy])), (oM, .inr (1, [.ref aS, .int fil, .int opn, .int end_, .int cmp_, .int dif])), (aB, .inl (E.2.1, 16, .inl fB)), (aF, .inl (E.2.1, 16, .inl fF)), (aG, .inl (E.2.1, 16, .inl fG)), (aS, .inl (E.2.1, 16, .inl fE)), (aQ, .inl (E.2.1, 16, .inl (va_cpy fO fQ 0 0 16))), (oK, .inr (0, [.ref aB, .ref aW, .ref aF, .ref aG, .ref aV, .int mde])), (aW, .inl (E.2.1, 176, .inl fW)), (aV, .inl (E.2.1, 16, .inl ((bckM fW fO fV 10).2))), (aO, .inl (E.2.1, 16, .inl (xorM fP 0 (bckW fW fO fV) 16))), (aP, .inl (E.2.1, 16, .inl (va_cpy (va_cpy fO fQ 0 0 16) fP 0 0 16)))] _ := hP
  have hD : va_D A [(o, .inr (2, [.ref oK, .ref oM, .ref aO, .ref aP, .ref aQ, .int rdy])), (oM, .inr (1, [.ref aS, .int fil, .int opn, .int end_, .int cmp_, .int dif])), (aB, .inl (E.2.1, 16, .inl fB)), (aF, .inl (E.2.1, 16, .inl fF)), (aG, .inl (E.2.1, 16, .inl fG)), (aS, .inl (E.2.1, 16, .inl fE)), (aQ, .inl (E.2.1, 16, .inl (va_cpy fO fQ 0 0 16))), (oK, .inr (0, [.ref aB, .ref aW, .ref aF, .ref aG, .ref aV, .int mde])), (aW, .inl (E.2.1, 176, .inl fW)), (aV, .inl (E.2.1, 16, .inl ((bckM fW fO fV 10).2))), (aO, .inl (E.2.1, 16, .inl (xorM fP 0 (bckW fW fO fV) 16))), (aP, .inl (E.2.1, 16, .inl (va_cpy (va_cpy fO fQ 0 0 16) fP 0 0 16)))] := hD
  have hP := hP.sub (ws' := [(o, .inr (2, [.ref oK, .ref oM, .ref aO, .ref aP, .ref aQ, .int rdy])), (oK, .inr (0, [.ref aB, .ref aW, .ref aF, .ref aG, .ref aV, .int mde])), (oM, .inr (1, [.ref aS, .int fil, .int opn, .int end_, .int cmp_, .int dif])), (aB, .inl (E.2.1, 16, .inl fB)), (aW, .inl (E.2.1, 176, .inl fW)), (aF, .inl (E.2.1, 16, .inl fF)), (aG, .inl (E.2.1, 16, .inl fG)), (aV, .inl (E.2.1, 16, .inl ((bckM fW fO fV 10).2))), (aS, .inl (E.2.1, 16, .inl fE)), (aO, .inl (E.2.1, 16, .inl (xorM fP 0 (bckW fW fO fV) 16))), (aP, .inl (E.2.1, 16, .inl (va_cpy (va_cpy fO fQ 0 0 16) fP 0 0 16))), (aQ, .inl (E.2.1, 16, .inl (va_cpy fO fQ 0 0 16)))]) [0, 7, 1, 2, 8, 3, 4, 9, 5, 10, 11, 6] rfl
  have hD := hD.sub (ws' := [(o, .inr (2, [.ref oK, .ref oM, .ref aO, .ref aP, .ref aQ, .int rdy])), (oK, .inr (0, [.ref aB, .ref aW, .ref aF, .ref aG, .ref aV, .int mde])), (oM, .inr (1, [.ref aS, .int fil, .int opn, .int end_, .int cmp_, .int dif])), (aB, .inl (E.2.1, 16, .inl fB)), (aW, .inl (E.2.1, 176, .inl fW)), (aF, .inl (E.2.1, 16, .inl fF)), (aG, .inl (E.2.1, 16, .inl fG)), (aV, .inl (E.2.1, 16, .inl ((bckM fW fO fV 10).2))), (aS, .inl (E.2.1, 16, .inl fE)), (aO, .inl (E.2.1, 16, .inl (xorM fP 0 (bckW fW fO fV) 16))), (aP, .inl (E.2.1, 16, .inl (va_cpy (va_cpy fO fQ 0 0 16) fP 0 0 16))), (aQ, .inl (E.2.1, 16, .inl (va_cpy fO fQ 0 0 16)))]) [0, 7, 1, 2, 8, 3, 4, 9, 5, 10, 11, 6] (by decide) rfl
  have hP : va_P E.1 classes [(o, .inr (2, [.ref oK, .ref oM, .ref aO, .ref aP, .ref aQ, .int rdy])), (oK, .inr (0, [.ref aB, .ref aW, .ref aF, .ref aG, .ref aV, .int mde])), (oM, .inr (1, [.ref aS, .int fil, .int opn, .int end_, .int cmp_, .int dif])), (aB, .inl (E.2.1, 16, .inl fB)), (aW, .inl (E.2.1, 176, .inl fW)), (aF, .inl (E.2.1, 16, .inl fF)), (aG, .inl (E.2.1, 16, .inl fG)), (aV, .inl (E.2.1, 16, .inl ((bckM fW fO fV 10).2))), (aS, .inl (E.2.1, 16, .inl fE)), (aO, .inl (E.2.1, 16, .inl (xorM fP 0 (bckW fW fO fV) 16))), (aP, .inl (E.2.1, 16, .inl (va_cpy (va_cpy fO fQ 0 0 16) fP 0 0 16))), (aQ, .inl (E.2.1, 16, .inl (va_cpy fO fQ 0 0 16)))] _ := hP
  have hD : va_D A [(o, .inr (2, [.ref oK, .ref oM, .ref aO, .ref aP, .ref aQ, .int rdy])), (oK, .inr (0, [.ref aB, .ref aW, .ref aF, .ref aG, .ref aV, .int mde])), (oM, .inr (1, [.ref aS, .int fil, .int opn, .int end_, .int cmp_, .int dif])), (aB, .inl (E.2.1, 16, .inl fB)), (aW, .inl (E.2.1, 176, .inl fW)), (aF, .inl (E.2.1, 16, .inl fF)), (aG, .inl (E.2.1, 16, .inl fG)), (aV, .inl (E.2.1, 16, .inl ((bckM fW fO fV 10).2))), (aS, .inl (E.2.1, 16, .inl fE)), (aO, .inl (E.2.1, 16, .inl (xorM fP 0 (bckW fW fO fV) 16))), (aP, .inl (E.2.1, 16, .inl (va_cpy (va_cpy fO fQ 0 0 16) fP 0 0 16))), (aQ, .inl (E.2.1, 16, .inl (va_cpy fO fQ 0 0 16)))] := hD
  exact x_vret B hP hD hS dX2_chainBack_53
set_option maxHeartbeats 4000000 in
set_option maxRecDepth 100000 in
/-- chain -/
theorem c_X2_chain_forth (l : Launch) (E : EE) (o oK oM aB aW aF aG aV aS aO aP aQ : Nat) (fB fW fF fG fV fE fO fP fQ : Nat → Int32) (mde fil opn end_ cmp_ dif rdy : Int32) (p0 : Int32) (hz : p0 = 0) (hm : ¬ mde = 0) (hB : ∀ i, i < 16 → By (fB i)) (hW : ∀ i, i < 176 → By (fW i)) (hF : ∀ i, i < 16 → By (fF i)) (hG : ∀ i, i < 16 → By (fG i)) (hV : ∀ i, i < 16 → By (fV i)) (hE : ∀ i, i < 16 → By (fE i)) (hO : ∀ i, i < 16 → By (fO i)) (hP0 : ∀ i, i < 16 → By (fP i)) (hQ : ∀ i, i < 16 → By (fQ i))  : Ci l yX2_chain (.code yX2_chain cX2_chain 2 (some .boolean)) ({ frames := 6, cells := 0, slots := 0, locals := 130 }) E [.ref o, .int p0] 1 [(o, .inr (2, [.ref oK, .ref oM, .ref aO, .ref aP, .ref aQ, .int rdy])), (oK, .inr (0, [.ref aB, .ref aW, .ref aF, .ref aG, .ref aV, .int mde])), (oM, .inr (1, [.ref aS, .int fil, .int opn, .int end_, .int cmp_, .int dif])), (aB, .inl (E.2.1, 16, .inl fB)), (aW, .inl (E.2.1, 176, .inl fW)), (aF, .inl (E.2.1, 16, .inl fF)), (aG, .inl (E.2.1, 16, .inl fG)), (aV, .inl (E.2.1, 16, .inl fV)), (aS, .inl (E.2.1, 16, .inl fE)), (aO, .inl (E.2.1, 16, .inl fO)), (aP, .inl (E.2.1, 16, .inl fP)), (aQ, .inl (E.2.1, 16, .inl fQ))] [(o, .inr (2, [.ref oK, .ref oM, .ref aO, .ref aP, .ref aQ, .int rdy])), (oK, .inr (0, [.ref aB, .ref aW, .ref aF, .ref aG, .ref aV, .int mde])), (oM, .inr (1, [.ref aS, .int fil, .int opn, .int end_, .int cmp_, .int dif])), (aB, .inl (E.2.1, 16, .inl fB)), (aW, .inl (E.2.1, 176, .inl fW)), (aF, .inl (E.2.1, 16, .inl fF)), (aG, .inl (E.2.1, 16, .inl fG)), (aV, .inl (E.2.1, 16, .inl ((forM fW (xorM fP 0 fO 16) fV 10).2))), (aS, .inl (E.2.1, 16, .inl fE)), (aO, .inl (E.2.1, 16, .inl ((forM fW (xorM fP 0 fO 16) fV 10).1))), (aP, .inl (E.2.1, 16, .inl (va_cpy (forM fW (xorM fP 0 fO 16) fV 10).1 fP 0 0 16))), (aQ, .inl (E.2.1, 16, .inl fQ))] := by
  refine Ci.of (by decide) (Nat.le_of_ble_eq_true rfl) ?_
  intro p e s m below meth c A ls B hP hD hS hl
  have hl : lv_has ls 2 [(0, .ref o), (1, .int p0)] := hl
  have B : Bd p s m _ meth c cX2_chain 2 (some .boolean) RX2 E A := B
  have hx := B.1
  have hb := B.2.1
  have hP : va_P E.1 classes [(o, .inr (2, [.ref oK, .ref oM, .ref aO, .ref aP, .ref aQ, .int rdy])), (oK, .inr (0, [.ref aB, .ref aW, .ref aF, .ref aG, .ref aV, .int mde])), (oM, .inr (1, [.ref aS, .int fil, .int opn, .int end_, .int cmp_, .int dif])), (aB, .inl (E.2.1, 16, .inl fB)), (aW, .inl (E.2.1, 176, .inl fW)), (aF, .inl (E.2.1, 16, .inl fF)), (aG, .inl (E.2.1, 16, .inl fG)), (aV, .inl (E.2.1, 16, .inl fV)), (aS, .inl (E.2.1, 16, .inl fE)), (aO, .inl (E.2.1, 16, .inl fO)), (aP, .inl (E.2.1, 16, .inl fP)), (aQ, .inl (E.2.1, 16, .inl fQ))] _ := hP
  have hD : va_D A [(o, .inr (2, [.ref oK, .ref oM, .ref aO, .ref aP, .ref aQ, .int rdy])), (oK, .inr (0, [.ref aB, .ref aW, .ref aF, .ref aG, .ref aV, .int mde])), (oM, .inr (1, [.ref aS, .int fil, .int opn, .int end_, .int cmp_, .int dif])), (aB, .inl (E.2.1, 16, .inl fB)), (aW, .inl (E.2.1, 176, .inl fW)), (aF, .inl (E.2.1, 16, .inl fF)), (aG, .inl (E.2.1, 16, .inl fG)), (aV, .inl (E.2.1, 16, .inl fV)), (aS, .inl (E.2.1, 16, .inl fE)), (aO, .inl (E.2.1, 16, .inl fO)), (aP, .inl (E.2.1, 16, .inl fP)), (aQ, .inl (E.2.1, 16, .inl fQ))] := hD
  refine lv_aload_n hx hb dX2_chain_0 rfl (lv_at hl 0 rfl) ?_
  refine x_get B hP 0 rfl rfl i_X2 0 (by decide) g_76 rfl dX2_chain_1 ?_
  refine x_getN B hP 1 rfl rfl i_X0 5 (by decide) n_31 rfl dX2_chain_4 ?_
  refine lv_if_ne (tgt := 12) hx hb dX2_chain_7 (by decide) (fun c_7 => ?_) (fun c_7 => ?_)
  · refine lv_iload_n hx hb dX2_chain_12 rfl (lv_at hl 1 rfl) ?_
    refine lv_if_eq (tgt := 23) hx hb dX2_chain_13 (by decide) (fun c_13 => ?_) (fun c_13 => ?_)
    · refine lv_aload_n hx hb dX2_chain_23 rfl (lv_at hl 0 rfl) ?_
      refine x_Vv (wr := []) (isC := [0, 1, 2, 3, 4, 5, 6, 7, 8, 9, 10, 11]) (isR := []) (As := []) B (c_X2_chainForth l E o oK oM aB aW aF aG aV aS aO aP aQ fB fW fF fG fV fE fO fP fQ mde fil opn end_ cmp_ dif rdy hB hW hF hG hV hE hO hP0 hQ) k_X2_chainForth g_263 s_X2_chainForth ⟨by decide, by decide, rfl, rfl⟩ rfl 0 rfl hP hD hS ⟨rfl, rfl, rfl, rfl, by decide⟩ rfl hl.1 rfl (Nat.le_of_ble_eq_true rfl) dX2_chain_24 ⟨by decide, by decide⟩ (fun H locs hP hD hS => ?_)
      have hP : va_P E.1 classes [(o, .inr (2, [.ref oK, .ref oM, .ref aO, .ref aP, .ref aQ, .int rdy])), (oK, .inr (0, [.ref aB, .ref aW, .ref aF, .ref aG, .ref aV, .int mde])), (oM, .inr (1, [.ref aS, .int fil, .int opn, .int end_, .int cmp_, .int dif])), (aB, .inl (E.2.1, 16, .inl fB)), (aW, .inl (E.2.1, 176, .inl fW)), (aF, .inl (E.2.1, 16, .inl fF)), (aG, .inl (E.2.1, 16, .inl fG)), (aV, .inl (E.2.1, 16, .inl ((forM fW (xorM fP 0 fO 16) fV 10).2))), (aS, .inl (E.2.1, 16, .inl fE)), (aO, .inl (E.2.1, 16, .inl ((forM fW (xorM fP 0 fO 16) fV 10).1))), (aP, .inl (E.2.1, 16, .inl (va_cpy (forM fW (xorM fP 0 fO 16) fV 10).1 fP 0 0 16))), (aQ, .inl (E.2.1, 16, .inl fQ))] _ := hP
      have hD : va_D A [(o, .inr (2, [.ref oK, .ref oM, .ref aO, .ref aP, .ref aQ, .int rdy])), (oK, .inr (0, [.ref aB, .ref aW, .ref aF, .ref aG, .ref aV, .int mde])), (oM, .inr (1, [.ref aS, .int fil, .int opn, .int end_, .int cmp_, .int dif])), (aB, .inl (E.2.1, 16, .inl fB)), (aW, .inl (E.2.1, 176, .inl fW)), (aF, .inl (E.2.1, 16, .inl fF)), (aG, .inl (E.2.1, 16, .inl fG)), (aV, .inl (E.2.1, 16, .inl ((forM fW (xorM fP 0 fO 16) fV 10).2))), (aS, .inl (E.2.1, 16, .inl fE)), (aO, .inl (E.2.1, 16, .inl ((forM fW (xorM fP 0 fO 16) fV 10).1))), (aP, .inl (E.2.1, 16, .inl (va_cpy (forM fW (xorM fP 0 fO 16) fV 10).1 fP 0 0 16))), (aQ, .inl (E.2.1, 16, .inl fQ))] := hD
      refine lv_iconst (v := 1) hx hb dX2_chain_27 (by decide) ?_
      have hP : va_P E.1 classes [(o, .inr (2, [.ref oK, .ref oM, .ref aO, .ref aP, .ref aQ, .int rdy])), (oK, .inr (0, [.ref aB, .ref aW, .ref aF, .ref aG, .ref aV, .int mde])), (oM, .inr (1, [.ref aS, .int fil, .int opn, .int end_, .int cmp_, .int dif])), (aB, .inl (E.2.1, 16, .inl fB)), (aW, .inl (E.2.1, 176, .inl fW)), (aF, .inl (E.2.1, 16, .inl fF)), (aG, .inl (E.2.1, 16, .inl fG)), (aV, .inl (E.2.1, 16, .inl ((forM fW (xorM fP 0 fO 16) fV 10).2))), (aS, .inl (E.2.1, 16, .inl fE)), (aO, .inl (E.2.1, 16, .inl ((forM fW (xorM fP 0 fO 16) fV 10).1))), (aP, .inl (E.2.1, 16, .inl (va_cpy (forM fW (xorM fP 0 fO 16) fV 10).1 fP 0 0 16))), (aQ, .inl (E.2.1, 16, .inl fQ))] _ := hP
      have hD : va_D A [(o, .inr (2, [.ref oK, .ref oM, .ref aO, .ref aP, .ref aQ, .int rdy])), (oK, .inr (0, [.ref aB, .ref aW, .ref aF, .ref aG, .ref aV, .int mde])), (oM, .inr (1, [.ref aS, .int fil, .int opn, .int end_, .int cmp_, .int dif])), (aB, .inl (E.2.1, 16, .inl fB)), (aW, .inl (E.2.1, 176, .inl fW)), (aF, .inl (E.2.1, 16, .inl fF)), (aG, .inl (E.2.1, 16, .inl fG)), (aV, .inl (E.2.1, 16, .inl ((forM fW (xorM fP 0 fO 16) fV 10).2))), (aS, .inl (E.2.1, 16, .inl fE)), (aO, .inl (E.2.1, 16, .inl ((forM fW (xorM fP 0 fO 16) fV 10).1))), (aP, .inl (E.2.1, 16, .inl (va_cpy (forM fW (xorM fP 0 fO 16) fV 10).1 fP 0 0 16))), (aQ, .inl (E.2.1, 16, .inl fQ))] := hD
      exact x_iret B hP hD hS rfl rfl dX2_chain_28
    · exact absurd hz c_13
  · exact absurd c_7 hm
set_option maxHeartbeats 4000000 in
set_option maxRecDepth 100000 in
/-- chain -/
theorem c_X2_chain_back (l : Launch) (E : EE) (o oK oM aB aW aF aG aV aS aO aP aQ : Nat) (fB fW fF fG fV fE fO fP fQ : Nat → Int32) (mde fil opn end_ cmp_ dif rdy : Int32) (p0 : Int32) (hz : ¬ p0 = 0) (hm : ¬ mde = 0) (hB : ∀ i, i < 16 → By (fB i)) (hW : ∀ i, i < 176 → By (fW i)) (hF : ∀ i, i < 16 → By (fF i)) (hG : ∀ i, i < 16 → By (fG i)) (hV : ∀ i, i < 16 → By (fV i)) (hE : ∀ i, i < 16 → By (fE i)) (hO : ∀ i, i < 16 → By (fO i)) (hP0 : ∀ i, i < 16 → By (fP i)) (hQ : ∀ i, i < 16 → By (fQ i))  : Ci l yX2_chain (.code yX2_chain cX2_chain 2 (some .boolean)) ({ frames := 6, cells := 0, slots := 0, locals := 130 }) E [.ref o, .int p0] 1 [(o, .inr (2, [.ref oK, .ref oM, .ref aO, .ref aP, .ref aQ, .int rdy])), (oK, .inr (0, [.ref aB, .ref aW, .ref aF, .ref aG, .ref aV, .int mde])), (oM, .inr (1, [.ref aS, .int fil, .int opn, .int end_, .int cmp_, .int dif])), (aB, .inl (E.2.1, 16, .inl fB)), (aW, .inl (E.2.1, 176, .inl fW)), (aF, .inl (E.2.1, 16, .inl fF)), (aG, .inl (E.2.1, 16, .inl fG)), (aV, .inl (E.2.1, 16, .inl fV)), (aS, .inl (E.2.1, 16, .inl fE)), (aO, .inl (E.2.1, 16, .inl fO)), (aP, .inl (E.2.1, 16, .inl fP)), (aQ, .inl (E.2.1, 16, .inl fQ))] [(o, .inr (2, [.ref oK, .ref oM, .ref aO, .ref aP, .ref aQ, .int rdy])), (oK, .inr (0, [.ref aB, .ref aW, .ref aF, .ref aG, .ref aV, .int mde])), (oM, .inr (1, [.ref aS, .int fil, .int opn, .int end_, .int cmp_, .int dif])), (aB, .inl (E.2.1, 16, .inl fB)), (aW, .inl (E.2.1, 176, .inl fW)), (aF, .inl (E.2.1, 16, .inl fF)), (aG, .inl (E.2.1, 16, .inl fG)), (aV, .inl (E.2.1, 16, .inl ((bckM fW fO fV 10).2))), (aS, .inl (E.2.1, 16, .inl fE)), (aO, .inl (E.2.1, 16, .inl (xorM fP 0 (bckW fW fO fV) 16))), (aP, .inl (E.2.1, 16, .inl (va_cpy (va_cpy fO fQ 0 0 16) fP 0 0 16))), (aQ, .inl (E.2.1, 16, .inl (va_cpy fO fQ 0 0 16)))] := by
  refine Ci.of (by decide) (Nat.le_of_ble_eq_true rfl) ?_
  intro p e s m below meth c A ls B hP hD hS hl
  have hl : lv_has ls 2 [(0, .ref o), (1, .int p0)] := hl
  have B : Bd p s m _ meth c cX2_chain 2 (some .boolean) RX2 E A := B
  have hx := B.1
  have hb := B.2.1
  have hP : va_P E.1 classes [(o, .inr (2, [.ref oK, .ref oM, .ref aO, .ref aP, .ref aQ, .int rdy])), (oK, .inr (0, [.ref aB, .ref aW, .ref aF, .ref aG, .ref aV, .int mde])), (oM, .inr (1, [.ref aS, .int fil, .int opn, .int end_, .int cmp_, .int dif])), (aB, .inl (E.2.1, 16, .inl fB)), (aW, .inl (E.2.1, 176, .inl fW)), (aF, .inl (E.2.1, 16, .inl fF)), (aG, .inl (E.2.1, 16, .inl fG)), (aV, .inl (E.2.1, 16, .inl fV)), (aS, .inl (E.2.1, 16, .inl fE)), (aO, .inl (E.2.1, 16, .inl fO)), (aP, .inl (E.2.1, 16, .inl fP)), (aQ, .inl (E.2.1, 16, .inl fQ))] _ := hP
  have hD : va_D A [(o, .inr (2, [.ref oK, .ref oM, .ref aO, .ref aP, .ref aQ, .int rdy])), (oK, .inr (0, [.ref aB, .ref aW, .ref aF, .ref aG, .ref aV, .int mde])), (oM, .inr (1, [.ref aS, .int fil, .int opn, .int end_, .int cmp_, .int dif])), (aB, .inl (E.2.1, 16, .inl fB)), (aW, .inl (E.2.1, 176, .inl fW)), (aF, .inl (E.2.1, 16, .inl fF)), (aG, .inl (E.2.1, 16, .inl fG)), (aV, .inl (E.2.1, 16, .inl fV)), (aS, .inl (E.2.1, 16, .inl fE)), (aO, .inl (E.2.1, 16, .inl fO)), (aP, .inl (E.2.1, 16, .inl fP)), (aQ, .inl (E.2.1, 16, .inl fQ))] := hD
  refine lv_aload_n hx hb dX2_chain_0 rfl (lv_at hl 0 rfl) ?_
  refine x_get B hP 0 rfl rfl i_X2 0 (by decide) g_76 rfl dX2_chain_1 ?_
  refine x_getN B hP 1 rfl rfl i_X0 5 (by decide) n_31 rfl dX2_chain_4 ?_
  refine lv_if_ne (tgt := 12) hx hb dX2_chain_7 (by decide) (fun c_7 => ?_) (fun c_7 => ?_)
  · refine lv_iload_n hx hb dX2_chain_12 rfl (lv_at hl 1 rfl) ?_
    refine lv_if_eq (tgt := 23) hx hb dX2_chain_13 (by decide) (fun c_13 => ?_) (fun c_13 => ?_)
    · exact absurd c_13 hz
    · refine lv_aload_n hx hb dX2_chain_16 rfl (lv_at hl 0 rfl) ?_
      refine x_Vv (wr := []) (isC := [0, 1, 2, 3, 4, 5, 6, 7, 8, 9, 10, 11]) (isR := []) (As := []) B (c_X2_chainBack l E o oK oM aB aW aF aG aV aS aO aP aQ fB fW fF fG fV fE fO fP fQ mde fil opn end_ cmp_ dif rdy hB hW hF hG hV hE hO hP0 hQ) k_X2_chainBack g_257 s_X2_chainBack ⟨by decide, by decide, rfl, rfl⟩ rfl 0 rfl hP hD hS ⟨rfl, rfl, rfl, rfl, by decide⟩ rfl hl.1 rfl (Nat.le_of_ble_eq_true rfl) dX2_chain_17 ⟨by decide, by decide⟩ (fun H locs hP hD hS => ?_)
      have hP : va_P E.1 classes [(o, .inr (2, [.ref oK, .ref oM, .ref aO, .ref aP, .ref aQ, .int rdy])), (oK, .inr (0, [.ref aB, .ref aW, .ref aF, .ref aG, .ref aV, .int mde])), (oM, .inr (1, [.ref aS, .int fil, .int opn, .int end_, .int cmp_, .int dif])), (aB, .inl (E.2.1, 16, .inl fB)), (aW, .inl (E.2.1, 176, .inl fW)), (aF, .inl (E.2.1, 16, .inl fF)), (aG, .inl (E.2.1, 16, .inl fG)), (aV, .inl (E.2.1, 16, .inl ((bckM fW fO fV 10).2))), (aS, .inl (E.2.1, 16, .inl fE)), (aO, .inl (E.2.1, 16, .inl (xorM fP 0 (bckW fW fO fV) 16))), (aP, .inl (E.2.1, 16, .inl (va_cpy (va_cpy fO fQ 0 0 16) fP 0 0 16))), (aQ, .inl (E.2.1, 16, .inl (va_cpy fO fQ 0 0 16)))] _ := hP
      have hD : va_D A [(o, .inr (2, [.ref oK, .ref oM, .ref aO, .ref aP, .ref aQ, .int rdy])), (oK, .inr (0, [.ref aB, .ref aW, .ref aF, .ref aG, .ref aV, .int mde])), (oM, .inr (1, [.ref aS, .int fil, .int opn, .int end_, .int cmp_, .int dif])), (aB, .inl (E.2.1, 16, .inl fB)), (aW, .inl (E.2.1, 176, .inl fW)), (aF, .inl (E.2.1, 16, .inl fF)), (aG, .inl (E.2.1, 16, .inl fG)), (aV, .inl (E.2.1, 16, .inl ((bckM fW fO fV 10).2))), (aS, .inl (E.2.1, 16, .inl fE)), (aO, .inl (E.2.1, 16, .inl (xorM fP 0 (bckW fW fO fV) 16))), (aP, .inl (E.2.1, 16, .inl (va_cpy (va_cpy fO fQ 0 0 16) fP 0 0 16))), (aQ, .inl (E.2.1, 16, .inl (va_cpy fO fQ 0 0 16)))] := hD
      refine lv_goto (tgt := 27) hx hb dX2_chain_20 (by decide) ?_
      refine lv_iconst (v := 1) hx hb dX2_chain_27 (by decide) ?_
      have hP : va_P E.1 classes [(o, .inr (2, [.ref oK, .ref oM, .ref aO, .ref aP, .ref aQ, .int rdy])), (oK, .inr (0, [.ref aB, .ref aW, .ref aF, .ref aG, .ref aV, .int mde])), (oM, .inr (1, [.ref aS, .int fil, .int opn, .int end_, .int cmp_, .int dif])), (aB, .inl (E.2.1, 16, .inl fB)), (aW, .inl (E.2.1, 176, .inl fW)), (aF, .inl (E.2.1, 16, .inl fF)), (aG, .inl (E.2.1, 16, .inl fG)), (aV, .inl (E.2.1, 16, .inl ((bckM fW fO fV 10).2))), (aS, .inl (E.2.1, 16, .inl fE)), (aO, .inl (E.2.1, 16, .inl (xorM fP 0 (bckW fW fO fV) 16))), (aP, .inl (E.2.1, 16, .inl (va_cpy (va_cpy fO fQ 0 0 16) fP 0 0 16))), (aQ, .inl (E.2.1, 16, .inl (va_cpy fO fQ 0 0 16)))] _ := hP
      have hD : va_D A [(o, .inr (2, [.ref oK, .ref oM, .ref aO, .ref aP, .ref aQ, .int rdy])), (oK, .inr (0, [.ref aB, .ref aW, .ref aF, .ref aG, .ref aV, .int mde])), (oM, .inr (1, [.ref aS, .int fil, .int opn, .int end_, .int cmp_, .int dif])), (aB, .inl (E.2.1, 16, .inl fB)), (aW, .inl (E.2.1, 176, .inl fW)), (aF, .inl (E.2.1, 16, .inl fF)), (aG, .inl (E.2.1, 16, .inl fG)), (aV, .inl (E.2.1, 16, .inl ((bckM fW fO fV 10).2))), (aS, .inl (E.2.1, 16, .inl fE)), (aO, .inl (E.2.1, 16, .inl (xorM fP 0 (bckW fW fO fV) 16))), (aP, .inl (E.2.1, 16, .inl (va_cpy (va_cpy fO fQ 0 0 16) fP 0 0 16))), (aQ, .inl (E.2.1, 16, .inl (va_cpy fO fQ 0 0 16)))] := hD
      exact x_iret B hP hD hS rfl rfl dX2_chain_28
  · exact absurd c_7 hm
/-- v, v + step, .. -/
def nvM (v st : Int32) : Nat → Int32
  | 0 => v
  | j + 1 => nvM v st j + st
/-- n bytes more -/
def ftM (w : Nat → Int32) (t : (Nat → Int32) × (Nat → Int32) × Nat) (v st : Int32) : Nat → (Nat → Int32) × (Nat → Int32) × Nat
  | 0 => t
  | j + 1 => tkM w (ftM w t v st j) (nvM v st j &&& 255)
theorem ftM_ok {w : Nat → Int32} {t : (Nat → Int32) × (Nat → Int32) × Nat} {v st : Int32} (hw : ∀ i, i < 176 → By (w i)) (h : tkOk t) : ∀ j, tkOk (ftM w t v st j)
  | 0 => h
  | j + 1 => tkM_ok hw (and255_by _) (ftM_ok hw h j)
set_option maxHeartbeats 4000000 in
set_option maxRecDepth 100000 in
theorem lp_fill2 {p : Program} {l : Launch} {e : Env} {R : Room} {s : State} {m : MethodId} {args : Array Value} {below : List Frame} {meth : Method} {c : Code} {cells slots : Nat} {Q : State → Prop} {E : EE} {A : Nat → Prop} {o oK oM aB aW aF aG aV aS aO aP aQ n kf : Nat} {fB fW fF fG fV fE fO fP fQ : Nat → Int32} {mde opn end_ cmp_ dif rdy nv v st : Int32} (B : Bd p s m args meth c cX2_macFill 6 (some .boolean) RX2 E A) (hf : cells ≤ R.cells ∧ slots ≤ R.slots) (hR : 5 ≤ R.frames ∧ 126 ≤ R.locals) (hn : nv = nI n) (hN : n ≤ 10000) (hW : ∀ i, i < 176 → By (fW i)) (ht : tkOk (fE, fV, kf))
    (kk : ∀ (H : Heap) (locs : List Loc) (ls : Array Slot), va_P E.1 classes [(o, .inr (2, [.ref oK, .ref oM, .ref aO, .ref aP, .ref aQ, .int rdy])), (oK, .inr (0, [.ref aB, .ref aW, .ref aF, .ref aG, .ref aV, .int mde])), (oM, .inr (1, [.ref aS, .int (nI (ftM fW (fE, fV, kf) v st n).2.2), .int opn, .int end_, .int cmp_, .int dif])), (aB, .inl (E.2.1, 16, .inl fB)), (aW, .inl (E.2.1, 176, .inl fW)), (aF, .inl (E.2.1, 16, .inl fF)), (aG, .inl (E.2.1, 16, .inl fG)), (aV, .inl (E.2.1, 16, .inl ((ftM fW (fE, fV, kf) v st n).2.1))), (aS, .inl (E.2.1, 16, .inl ((ftM fW (fE, fV, kf) v st n).1))), (aO, .inl (E.2.1, 16, .inl fO)), (aP, .inl (E.2.1, 16, .inl fP)), (aQ, .inl (E.2.1, 16, .inl fQ))] H → va_D A [(o, .inr (2, [.ref oK, .ref oM, .ref aO, .ref aP, .ref aQ, .int rdy])), (oK, .inr (0, [.ref aB, .ref aW, .ref aF, .ref aG, .ref aV, .int mde])), (oM, .inr (1, [.ref aS, .int (nI (ftM fW (fE, fV, kf) v st n).2.2), .int opn, .int end_, .int cmp_, .int dif])), (aB, .inl (E.2.1, 16, .inl fB)), (aW, .inl (E.2.1, 176, .inl fW)), (aF, .inl (E.2.1, 16, .inl fF)), (aG, .inl (E.2.1, 16, .inl fG)), (aV, .inl (E.2.1, 16, .inl ((ftM fW (fE, fV, kf) v st n).2.1))), (aS, .inl (E.2.1, 16, .inl ((ftM fW (fE, fV, kf) v st n).1))), (aO, .inl (E.2.1, 16, .inl fO)), (aP, .inl (E.2.1, 16, .inl fP)), (aQ, .inl (E.2.1, 16, .inl fQ))] → va_S A s.heap H locs → lv_has ls 6 [(5, .int (nI n)), (4, .int (nvM v st n)), (0, .ref o), (1, .int nv), (2, .int v), (3, .int st)] → W p l e R s m args below meth c H locs cells slots Q (F0 m 64 ls [])) :
    ∀ (fu i : Nat), i ≤ n → n < i + fu → ∀ (H : Heap) (locs : List Loc) (ls : Array Slot), va_P E.1 classes [(o, .inr (2, [.ref oK, .ref oM, .ref aO, .ref aP, .ref aQ, .int rdy])), (oK, .inr (0, [.ref aB, .ref aW, .ref aF, .ref aG, .ref aV, .int mde])), (oM, .inr (1, [.ref aS, .int (nI (ftM fW (fE, fV, kf) v st i).2.2), .int opn, .int end_, .int cmp_, .int dif])), (aB, .inl (E.2.1, 16, .inl fB)), (aW, .inl (E.2.1, 176, .inl fW)), (aF, .inl (E.2.1, 16, .inl fF)), (aG, .inl (E.2.1, 16, .inl fG)), (aV, .inl (E.2.1, 16, .inl ((ftM fW (fE, fV, kf) v st i).2.1))), (aS, .inl (E.2.1, 16, .inl ((ftM fW (fE, fV, kf) v st i).1))), (aO, .inl (E.2.1, 16, .inl fO)), (aP, .inl (E.2.1, 16, .inl fP)), (aQ, .inl (E.2.1, 16, .inl fQ))] H → va_D A [(o, .inr (2, [.ref oK, .ref oM, .ref aO, .ref aP, .ref aQ, .int rdy])), (oK, .inr (0, [.ref aB, .ref aW, .ref aF, .ref aG, .ref aV, .int mde])), (oM, .inr (1, [.ref aS, .int (nI (ftM fW (fE, fV, kf) v st i).2.2), .int opn, .int end_, .int cmp_, .int dif])), (aB, .inl (E.2.1, 16, .inl fB)), (aW, .inl (E.2.1, 176, .inl fW)), (aF, .inl (E.2.1, 16, .inl fF)), (aG, .inl (E.2.1, 16, .inl fG)), (aV, .inl (E.2.1, 16, .inl ((ftM fW (fE, fV, kf) v st i).2.1))), (aS, .inl (E.2.1, 16, .inl ((ftM fW (fE, fV, kf) v st i).1))), (aO, .inl (E.2.1, 16, .inl fO)), (aP, .inl (E.2.1, 16, .inl fP)), (aQ, .inl (E.2.1, 16, .inl fQ))] → va_S A s.heap H locs → lv_has ls 6 [(5, .int (nI i)), (4, .int (nvM v st i)), (0, .ref o), (1, .int nv), (2, .int v), (3, .int st)] → W p l e R s m args below meth c H locs cells slots Q (F0 m 29 ls []) := by
  have hx := B.1
  have hb := B.2.1
  intro fu
  induction fu with
  | zero =>
    intro i h1 h2
    exact absurd h2 (by omega)
  | succ fu ih =>
    intro i hi hin H locs ls hP hD hS hl
    refine lv_iload hx hb dX2_macFill_29 (lv_at hl 0 rfl) ?_
    refine lv_iload_n hx hb dX2_macFill_31 rfl (lv_at hl 3 rfl) ?_
    refine lv_icmp_ge (tgt := 64) hx hb dX2_macFill_32 (by decide) (fun c_32 => ?_) (fun c_32 => ?_)
    · have hj : i = n := by have := ge_t (b := n) (by rw [hn] at c_32; exact c_32) (by omega) (by omega); omega
      subst hj
      exact kk _ _ _ hP hD hS hl
    · have hj : i < n := by have := ge_f (b := n) (by rw [hn] at c_32; exact c_32) (by omega) (by omega); omega
      refine lv_aload_n hx hb dX2_macFill_35 rfl (lv_at hl 2 rfl) ?_
      refine x_get B hP 0 rfl rfl i_X2 1 (by decide) g_77 rfl dX2_macFill_36 ?_
      refine lv_iload hx hb dX2_macFill_39 (lv_at hl 1 rfl) ?_
      refine lv_sipush (v := 255) hx hb dX2_macFill_41 (by decide) ?_
      refine lv_iand hx hb dX2_macFill_44 ?_
      refine lv_aload_n hx hb dX2_macFill_45 rfl (lv_at hl 2 rfl) ?_
      refine x_get B hP 0 rfl rfl i_X2 0 (by decide) g_76 rfl dX2_macFill_46 ?_
      refine x_Vv (wr := [(o, .inr (2, [.ref oK, .ref oM, .ref aO, .ref aP, .ref aQ, .int rdy])), (aB, .inl (E.2.1, 16, .inl fB)), (aF, .inl (E.2.1, 16, .inl fF)), (aG, .inl (E.2.1, 16, .inl fG)), (aO, .inl (E.2.1, 16, .inl fO)), (aP, .inl (E.2.1, 16, .inl fP)), (aQ, .inl (E.2.1, 16, .inl fQ))]) (isC := [2, 8, 1, 4, 7]) (isR := [0, 3, 5, 6, 9, 10, 11]) (As := [.int ((nvM v st i) &&& 255), .ref oK]) B (c_X1_take l E oM aS oK aB aW aF aG aV ((ftM fW (fE, fV, kf) v st i).1) fW ((ftM fW (fE, fV, kf) v st i).2.1) ((ftM fW (fE, fV, kf) v st i).2.2) ((nvM v st i) &&& 255) opn end_ cmp_ dif mde hW (and255_by _) (ftM_ok hW ht i)) k_X1_take g_192 s_X1_take ⟨Nat.le_trans (by decide) hR.1, Nat.le_trans (by decide) hR.2, rfl, rfl⟩ rfl 2 rfl hP hD hS ⟨rfl, rfl, rfl, rfl, by decide⟩ rfl hl.1 rfl (Nat.le_of_ble_eq_true rfl) dX2_macFill_49 hf (fun H locs hP hD hS => ?_)
      have hP : va_P E.1 classes [(o, .inr (2, [.ref oK, .ref oM, .ref aO, .ref aP, .ref aQ, .int rdy])), (aB, .inl (E.2.1, 16, .inl fB)), (aF, .inl (E.2.1, 16, .inl fF)), (aG, .inl (E.2.1, 16, .inl fG)), (aO, .inl (E.2.1, 16, .inl fO)), (aP, .inl (E.2.1, 16, .inl fP)), (aQ, .inl (E.2.1, 16, .inl fQ)), (oM, .inr (1, [.ref aS, .int (nI (tkM fW (ftM fW (fE, fV, kf) v st i) ((nvM v st i) &&& 255)).2.2), .int opn, .int end_, .int cmp_, .int dif])), (aS, .inl (E.2.1, 16, .inl ((tkM fW (ftM fW (fE, fV, kf) v st i) ((nvM v st i) &&& 255)).1))), (oK, .inr (0, [.ref aB, .ref aW, .ref aF, .ref aG, .ref aV, .int mde])), (aW, .inl (E.2.1, 176, .inl fW)), (aV, .inl (E.2.1, 16, .inl ((tkM fW (ftM fW (fE, fV, kf) v st i) ((nvM v st i) &&& 255)).2.1)))] _ := hP
      have hD : va_D A [(o, .inr (2, [.ref oK, .ref oM, .ref aO, .ref aP, .ref aQ, .int rdy])), (aB, .inl (E.2.1, 16, .inl fB)), (aF, .inl (E.2.1, 16, .inl fF)), (aG, .inl (E.2.1, 16, .inl fG)), (aO, .inl (E.2.1, 16, .inl fO)), (aP, .inl (E.2.1, 16, .inl fP)), (aQ, .inl (E.2.1, 16, .inl fQ)), (oM, .inr (1, [.ref aS, .int (nI (tkM fW (ftM fW (fE, fV, kf) v st i) ((nvM v st i) &&& 255)).2.2), .int opn, .int end_, .int cmp_, .int dif])), (aS, .inl (E.2.1, 16, .inl ((tkM fW (ftM fW (fE, fV, kf) v st i) ((nvM v st i) &&& 255)).1))), (oK, .inr (0, [.ref aB, .ref aW, .ref aF, .ref aG, .ref aV, .int mde])), (aW, .inl (E.2.1, 176, .inl fW)), (aV, .inl (E.2.1, 16, .inl ((tkM fW (ftM fW (fE, fV, kf) v st i) ((nvM v st i) &&& 255)).2.1)))] := hD
      refine lv_iload hx hb dX2_macFill_52 (lv_at hl 1 rfl) ?_
      refine lv_iload_n hx hb dX2_macFill_54 rfl (lv_at hl 5 rfl) ?_
      refine lv_iadd hx hb dX2_macFill_55 ?_
      refine lv_istore (lv' := [(4, .int ((nvM v st i) + st)), (5, .int (nI i)), (0, .ref o), (1, .int nv), (2, .int v), (3, .int st)]) hx hb dX2_macFill_56 hl (by decide) rfl (fun ls hl => ?_)
      refine lv_iinc (v := (nI (i + 1))) (lv' := [(5, .int (nI (i + 1))), (4, .int ((nvM v st i) + st)), (0, .ref o), (1, .int nv), (2, .int v), (3, .int st)]) hx hb dX2_macFill_58 hl (k := 1) rfl (ii_1 i) (by decide) rfl (fun ls hl => ?_)
      refine lv_goto (tgt := 29) hx hb dX2_macFill_61 (by decide) ?_
      have hP := hP.sub (ws' := [(o, .inr (2, [.ref oK, .ref oM, .ref aO, .ref aP, .ref aQ, .int rdy])), (oK, .inr (0, [.ref aB, .ref aW, .ref aF, .ref aG, .ref aV, .int mde])), (oM, .inr (1, [.ref aS, .int (nI (tkM fW (ftM fW (fE, fV, kf) v st i) ((nvM v st i) &&& 255)).2.2), .int opn, .int end_, .int cmp_, .int dif])), (aB, .inl (E.2.1, 16, .inl fB)), (aW, .inl (E.2.1, 176, .inl fW)), (aF, .inl (E.2.1, 16, .inl fF)), (aG, .inl (E.2.1, 16, .inl fG)), (aV, .inl (E.2.1, 16, .inl ((tkM fW (ftM fW (fE, fV, kf) v st i) ((nvM v st i) &&& 255)).2.1))), (aS, .inl (E.2.1, 16, .inl ((tkM fW (ftM fW (fE, fV, kf) v st i) ((nvM v st i) &&& 255)).1))), (aO, .inl (E.2.1, 16, .inl fO)), (aP, .inl (E.2.1, 16, .inl fP)), (aQ, .inl (E.2.1, 16, .inl fQ))]) [0, 9, 7, 1, 10, 2, 3, 11, 8, 4, 5, 6] rfl
      have hD := hD.sub (ws' := [(o, .inr (2, [.ref oK, .ref oM, .ref aO, .ref aP, .ref aQ, .int rdy])), (oK, .inr (0, [.ref aB, .ref aW, .ref aF, .ref aG, .ref aV, .int mde])), (oM, .inr (1, [.ref aS, .int (nI (tkM fW (ftM fW (fE, fV, kf) v st i) ((nvM v st i) &&& 255)).2.2), .int opn, .int end_, .int cmp_, .int dif])), (aB, .inl (E.2.1, 16, .inl fB)), (aW, .inl (E.2.1, 176, .inl fW)), (aF, .inl (E.2.1, 16, .inl fF)), (aG, .inl (E.2.1, 16, .inl fG)), (aV, .inl (E.2.1, 16, .inl ((tkM fW (ftM fW (fE, fV, kf) v st i) ((nvM v st i) &&& 255)).2.1))), (aS, .inl (E.2.1, 16, .inl ((tkM fW (ftM fW (fE, fV, kf) v st i) ((nvM v st i) &&& 255)).1))), (aO, .inl (E.2.1, 16, .inl fO)), (aP, .inl (E.2.1, 16, .inl fP)), (aQ, .inl (E.2.1, 16, .inl fQ))]) [0, 9, 7, 1, 10, 2, 3, 11, 8, 4, 5, 6] (by decide) rfl
      have hP : va_P E.1 classes [(o, .inr (2, [.ref oK, .ref oM, .ref aO, .ref aP, .ref aQ, .int rdy])), (oK, .inr (0, [.ref aB, .ref aW, .ref aF, .ref aG, .ref aV, .int mde])), (oM, .inr (1, [.ref aS, .int (nI (ftM fW (fE, fV, kf) v st (i + 1)).2.2), .int opn, .int end_, .int cmp_, .int dif])), (aB, .inl (E.2.1, 16, .inl fB)), (aW, .inl (E.2.1, 176, .inl fW)), (aF, .inl (E.2.1, 16, .inl fF)), (aG, .inl (E.2.1, 16, .inl fG)), (aV, .inl (E.2.1, 16, .inl ((ftM fW (fE, fV, kf) v st (i + 1)).2.1))), (aS, .inl (E.2.1, 16, .inl ((ftM fW (fE, fV, kf) v st (i + 1)).1))), (aO, .inl (E.2.1, 16, .inl fO)), (aP, .inl (E.2.1, 16, .inl fP)), (aQ, .inl (E.2.1, 16, .inl fQ))] _ := hP
      have hD : va_D A [(o, .inr (2, [.ref oK, .ref oM, .ref aO, .ref aP, .ref aQ, .int rdy])), (oK, .inr (0, [.ref aB, .ref aW, .ref aF, .ref aG, .ref aV, .int mde])), (oM, .inr (1, [.ref aS, .int (nI (ftM fW (fE, fV, kf) v st (i + 1)).2.2), .int opn, .int end_, .int cmp_, .int dif])), (aB, .inl (E.2.1, 16, .inl fB)), (aW, .inl (E.2.1, 176, .inl fW)), (aF, .inl (E.2.1, 16, .inl fF)), (aG, .inl (E.2.1, 16, .inl fG)), (aV, .inl (E.2.1, 16, .inl ((ftM fW (fE, fV, kf) v st (i + 1)).2.1))), (aS, .inl (E.2.1, 16, .inl ((ftM fW (fE, fV, kf) v st (i + 1)).1))), (aO, .inl (E.2.1, 16, .inl fO)), (aP, .inl (E.2.1, 16, .inl fP)), (aQ, .inl (E.2.1, 16, .inl fQ))] := hD
      exact ih (i + 1) (by omega) (by omega) _ _ _ hP hD hS (lv_sub hl [0, 1, 2, 3, 4, 5] rfl)
set_option maxHeartbeats 4000000 in
set_option maxRecDepth 100000 in
/-- macFill -/
theorem c_X2_macFill_yes (l : Launch) (E : EE) (o oK oM aB aW aF aG aV aS aO aP aQ : Nat) (fB fW fF fG fV fE fO fP fQ : Nat → Int32) (mde opn end_ cmp_ dif rdy : Int32) (kf : Nat) (hkf : kf ≤ 16) (n : Nat) (nv v st : Int32) (hn : nv = nI n) (hN : n ≤ 10000) (ho : ¬ opn = 0) (hB : ∀ i, i < 16 → By (fB i)) (hW : ∀ i, i < 176 → By (fW i)) (hF : ∀ i, i < 16 → By (fF i)) (hG : ∀ i, i < 16 → By (fG i)) (hV : ∀ i, i < 16 → By (fV i)) (hE : ∀ i, i < 16 → By (fE i)) (hO : ∀ i, i < 16 → By (fO i)) (hP0 : ∀ i, i < 16 → By (fP i)) (hQ : ∀ i, i < 16 → By (fQ i))  : Ci l yX2_macFill (.code yX2_macFill cX2_macFill 6 (some .boolean)) ({ frames := 5, cells := 0, slots := 0, locals := 126 }) E [.ref o, .int nv, .int v, .int st] 1 [(o, .inr (2, [.ref oK, .ref oM, .ref aO, .ref aP, .ref aQ, .int rdy])), (oK, .inr (0, [.ref aB, .ref aW, .ref aF, .ref aG, .ref aV, .int mde])), (oM, .inr (1, [.ref aS, .int (nI kf), .int opn, .int end_, .int cmp_, .int dif])), (aB, .inl (E.2.1, 16, .inl fB)), (aW, .inl (E.2.1, 176, .inl fW)), (aF, .inl (E.2.1, 16, .inl fF)), (aG, .inl (E.2.1, 16, .inl fG)), (aV, .inl (E.2.1, 16, .inl fV)), (aS, .inl (E.2.1, 16, .inl fE)), (aO, .inl (E.2.1, 16, .inl fO)), (aP, .inl (E.2.1, 16, .inl fP)), (aQ, .inl (E.2.1, 16, .inl fQ))] [(o, .inr (2, [.ref oK, .ref oM, .ref aO, .ref aP, .ref aQ, .int rdy])), (oK, .inr (0, [.ref aB, .ref aW, .ref aF, .ref aG, .ref aV, .int mde])), (oM, .inr (1, [.ref aS, .int (nI (ftM fW (fE, fV, kf) v st n).2.2), .int opn, .int end_, .int cmp_, .int dif])), (aB, .inl (E.2.1, 16, .inl fB)), (aW, .inl (E.2.1, 176, .inl fW)), (aF, .inl (E.2.1, 16, .inl fF)), (aG, .inl (E.2.1, 16, .inl fG)), (aV, .inl (E.2.1, 16, .inl ((ftM fW (fE, fV, kf) v st n).2.1))), (aS, .inl (E.2.1, 16, .inl ((ftM fW (fE, fV, kf) v st n).1))), (aO, .inl (E.2.1, 16, .inl fO)), (aP, .inl (E.2.1, 16, .inl fP)), (aQ, .inl (E.2.1, 16, .inl fQ))] := by
  refine Ci.of (by decide) (Nat.le_of_ble_eq_true rfl) ?_
  intro p e s m below meth c A ls B hP hD hS hl
  have hl : lv_has ls 6 [(0, .ref o), (1, .int nv), (2, .int v), (3, .int st)] := hl
  have B : Bd p s m _ meth c cX2_macFill 6 (some .boolean) RX2 E A := B
  have hx := B.1
  have hb := B.2.1
  have hP : va_P E.1 classes [(o, .inr (2, [.ref oK, .ref oM, .ref aO, .ref aP, .ref aQ, .int rdy])), (oK, .inr (0, [.ref aB, .ref aW, .ref aF, .ref aG, .ref aV, .int mde])), (oM, .inr (1, [.ref aS, .int (nI kf), .int opn, .int end_, .int cmp_, .int dif])), (aB, .inl (E.2.1, 16, .inl fB)), (aW, .inl (E.2.1, 176, .inl fW)), (aF, .inl (E.2.1, 16, .inl fF)), (aG, .inl (E.2.1, 16, .inl fG)), (aV, .inl (E.2.1, 16, .inl fV)), (aS, .inl (E.2.1, 16, .inl fE)), (aO, .inl (E.2.1, 16, .inl fO)), (aP, .inl (E.2.1, 16, .inl fP)), (aQ, .inl (E.2.1, 16, .inl fQ))] _ := hP
  have hD : va_D A [(o, .inr (2, [.ref oK, .ref oM, .ref aO, .ref aP, .ref aQ, .int rdy])), (oK, .inr (0, [.ref aB, .ref aW, .ref aF, .ref aG, .ref aV, .int mde])), (oM, .inr (1, [.ref aS, .int (nI kf), .int opn, .int end_, .int cmp_, .int dif])), (aB, .inl (E.2.1, 16, .inl fB)), (aW, .inl (E.2.1, 176, .inl fW)), (aF, .inl (E.2.1, 16, .inl fF)), (aG, .inl (E.2.1, 16, .inl fG)), (aV, .inl (E.2.1, 16, .inl fV)), (aS, .inl (E.2.1, 16, .inl fE)), (aO, .inl (E.2.1, 16, .inl fO)), (aP, .inl (E.2.1, 16, .inl fP)), (aQ, .inl (E.2.1, 16, .inl fQ))] := hD
  refine lv_aload_n hx hb dX2_macFill_0 rfl (lv_at hl 0 rfl) ?_
  refine x_get B hP 0 rfl rfl i_X2 1 (by decide) g_77 rfl dX2_macFill_1 ?_
  refine x_getN B hP 2 rfl rfl i_X1 2 (by decide) n_56 rfl dX2_macFill_4 ?_
  refine lv_if_eq (tgt := 21) hx hb dX2_macFill_7 (by decide) (fun c_7 => ?_) (fun c_7 => ?_)
  · exact absurd c_7 ho
  · refine lv_iload_n hx hb dX2_macFill_10 rfl (lv_at hl 1 rfl) ?_
    refine lv_if_lt (tgt := 21) hx hb dX2_macFill_11 (by decide) (fun c_11 => ?_) (fun c_11 => ?_)
    · exact absurd c_11 (by rw [hn]; exact nI_pos (by omega))
    · refine lv_iload_n hx hb dX2_macFill_14 rfl (lv_at hl 1 rfl) ?_
      refine lv_sipush (v := 10000) hx hb dX2_macFill_15 (by decide) ?_
      refine lv_icmp_le (tgt := 23) hx hb dX2_macFill_18 (by decide) (fun c_18 => ?_) (fun c_18 => ?_)
      · refine lv_iload_n hx hb dX2_macFill_23 rfl (lv_at hl 2 rfl) ?_
        refine lv_istore (lv' := [(4, .int v), (0, .ref o), (1, .int nv), (2, .int v), (3, .int st)]) hx hb dX2_macFill_24 hl (by decide) rfl (fun ls hl => ?_)
        refine lv_iconst (v := 0) hx hb dX2_macFill_26 (by decide) ?_
        refine lv_istore (lv' := [(5, .int 0), (4, .int v), (0, .ref o), (1, .int nv), (2, .int v), (3, .int st)]) hx hb dX2_macFill_27 hl (by decide) rfl (fun ls hl => ?_)
        have hP : va_P E.1 classes [(o, .inr (2, [.ref oK, .ref oM, .ref aO, .ref aP, .ref aQ, .int rdy])), (oK, .inr (0, [.ref aB, .ref aW, .ref aF, .ref aG, .ref aV, .int mde])), (oM, .inr (1, [.ref aS, .int (nI (ftM fW (fE, fV, kf) v st 0).2.2), .int opn, .int end_, .int cmp_, .int dif])), (aB, .inl (E.2.1, 16, .inl fB)), (aW, .inl (E.2.1, 176, .inl fW)), (aF, .inl (E.2.1, 16, .inl fF)), (aG, .inl (E.2.1, 16, .inl fG)), (aV, .inl (E.2.1, 16, .inl ((ftM fW (fE, fV, kf) v st 0).2.1))), (aS, .inl (E.2.1, 16, .inl ((ftM fW (fE, fV, kf) v st 0).1))), (aO, .inl (E.2.1, 16, .inl fO)), (aP, .inl (E.2.1, 16, .inl fP)), (aQ, .inl (E.2.1, 16, .inl fQ))] _ := hP
        have hD : va_D A [(o, .inr (2, [.ref oK, .ref oM, .ref aO, .ref aP, .ref aQ, .int rdy])), (oK, .inr (0, [.ref aB, .ref aW, .ref aF, .ref aG, .ref aV, .int mde])), (oM, .inr (1, [.ref aS, .int (nI (ftM fW (fE, fV, kf) v st 0).2.2), .int opn, .int end_, .int cmp_, .int dif])), (aB, .inl (E.2.1, 16, .inl fB)), (aW, .inl (E.2.1, 176, .inl fW)), (aF, .inl (E.2.1, 16, .inl fF)), (aG, .inl (E.2.1, 16, .inl fG)), (aV, .inl (E.2.1, 16, .inl ((ftM fW (fE, fV, kf) v st 0).2.1))), (aS, .inl (E.2.1, 16, .inl ((ftM fW (fE, fV, kf) v st 0).1))), (aO, .inl (E.2.1, 16, .inl fO)), (aP, .inl (E.2.1, 16, .inl fP)), (aQ, .inl (E.2.1, 16, .inl fQ))] := hD
        refine lp_fill2 B ⟨by decide, by decide⟩ ⟨by decide, by decide⟩ hn hN hW ⟨hE, hV, hkf⟩ (fun H locs ls hP hD hS hl => ?_) (n + 1) 0 (by omega) (by omega) _ _ _ hP hD hS (lv_sub hl [0, 1, 2, 3, 4, 5] rfl)
        refine lv_iconst (v := 1) hx hb dX2_macFill_64 (by decide) ?_
        have hP : va_P E.1 classes [(o, .inr (2, [.ref oK, .ref oM, .ref aO, .ref aP, .ref aQ, .int rdy])), (oK, .inr (0, [.ref aB, .ref aW, .ref aF, .ref aG, .ref aV, .int mde])), (oM, .inr (1, [.ref aS, .int (nI (ftM fW (fE, fV, kf) v st n).2.2), .int opn, .int end_, .int cmp_, .int dif])), (aB, .inl (E.2.1, 16, .inl fB)), (aW, .inl (E.2.1, 176, .inl fW)), (aF, .inl (E.2.1, 16, .inl fF)), (aG, .inl (E.2.1, 16, .inl fG)), (aV, .inl (E.2.1, 16, .inl ((ftM fW (fE, fV, kf) v st n).2.1))), (aS, .inl (E.2.1, 16, .inl ((ftM fW (fE, fV, kf) v st n).1))), (aO, .inl (E.2.1, 16, .inl fO)), (aP, .inl (E.2.1, 16, .inl fP)), (aQ, .inl (E.2.1, 16, .inl fQ))] _ := hP
        have hD : va_D A [(o, .inr (2, [.ref oK, .ref oM, .ref aO, .ref aP, .ref aQ, .int rdy])), (oK, .inr (0, [.ref aB, .ref aW, .ref aF, .ref aG, .ref aV, .int mde])), (oM, .inr (1, [.ref aS, .int (nI (ftM fW (fE, fV, kf) v st n).2.2), .int opn, .int end_, .int cmp_, .int dif])), (aB, .inl (E.2.1, 16, .inl fB)), (aW, .inl (E.2.1, 176, .inl fW)), (aF, .inl (E.2.1, 16, .inl fF)), (aG, .inl (E.2.1, 16, .inl fG)), (aV, .inl (E.2.1, 16, .inl ((ftM fW (fE, fV, kf) v st n).2.1))), (aS, .inl (E.2.1, 16, .inl ((ftM fW (fE, fV, kf) v st n).1))), (aO, .inl (E.2.1, 16, .inl fO)), (aP, .inl (E.2.1, 16, .inl fP)), (aQ, .inl (E.2.1, 16, .inl fQ))] := hD
        exact x_iret B hP hD hS rfl rfl dX2_macFill_65
      · exact absurd (by rw [hn]; exact nI_le (b := 10000) hN (by decide)) c_18
