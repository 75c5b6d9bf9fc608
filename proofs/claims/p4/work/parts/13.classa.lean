set_option maxHeartbeats 4000000 in
set_option maxRecDepth 100000 in
theorem lp_xor {p : Program} {l : Launch} {e : Env} {R : Room} {s : State} {m : MethodId} {args : Array Value} {below : List Frame} {meth : Method} {c : Code} {cells slots : Nat} {Q : State → Prop} {E : EE} {A : Nat → Prop} {a b n fr : Nat} {f g : Nat → Int32} {v : Int32} (B : Bd p s m args meth c cX2_xor 4 none RX2 E A) (hf : cells ≤ R.cells ∧ slots ≤ R.slots) (hv : v = nI fr) (hn : fr + 16 ≤ n) (hN : n < 2 ^ 31)
    (kk : ∀ (H : Heap) (locs : List Loc) (ls : Array Slot), va_P E.1 classes [(a, .inl (E.2.1, 16, .inl (xorM g fr f 16))), (b, .inl (E.2.1, n, .inl g))] H → va_D A [(a, .inl (E.2.1, 16, .inl (xorM g fr f 16))), (b, .inl (E.2.1, n, .inl g))] → va_S A s.heap H locs → lv_has ls 4 [(3, .int (nI 16)), (0, .ref a), (1, .ref b), (2, .int v)] → W p l e R s m args below meth c H locs cells slots Q (F0 m 25 ls [])) :
    ∀ (fu i : Nat), i ≤ 16 → 16 < i + fu → ∀ (H : Heap) (locs : List Loc) (ls : Array Slot), va_P E.1 classes [(a, .inl (E.2.1, 16, .inl (xorM g fr f i))), (b, .inl (E.2.1, n, .inl g))] H → va_D A [(a, .inl (E.2.1, 16, .inl (xorM g fr f i))), (b, .inl (E.2.1, n, .inl g))] → va_S A s.heap H locs → lv_has ls 4 [(3, .int (nI i)), (0, .ref a), (1, .ref b), (2, .int v)] → W p l e R s m args below meth c H locs cells slots Q (F0 m 2 ls []) := by
  have hx := B.1
  have hb := B.2.1
  intro fu
  induction fu with
  | zero =>
    intro i h1 h2
    exact absurd h2 (by omega)
  | succ fu ih =>
    intro i hi hin H locs ls hP hD hS hl
    refine lv_iload_n hx hb dX2_xor_2 rfl (lv_at hl 0 rfl) ?_
    refine lv_bipush (v := 16) hx hb dX2_xor_3 (by decide) ?_
    refine lv_icmp_ge (tgt := 25) hx hb dX2_xor_5 (by decide) (fun c_5 => ?_) (fun c_5 => ?_)
    · have hj : i = 16 := by have := ge_t (b := 16) c_5 (by omega) (by omega); omega
      subst hj
      exact kk _ _ _ hP hD hS hl
    · have hj : i < 16 := by have := ge_f (b := 16) c_5 (by omega) (by omega); omega
      refine lv_aload_n hx hb dX2_xor_8 rfl (lv_at hl 1 rfl) ?_
      refine lv_iload_n hx hb dX2_xor_9 rfl (lv_at hl 0 rfl) ?_
      refine lv_dup2_11 hx hb dX2_xor_10 rfl rfl ?_
      refine x_ald B hP 0 rfl i rfl (by omega) (by decide) dX2_xor_11 ?_
      refine lv_aload_n hx hb dX2_xor_12 rfl (lv_at hl 2 rfl) ?_
      refine lv_iload_n hx hb dX2_xor_13 rfl (lv_at hl 3 rfl) ?_
      refine lv_iload_n hx hb dX2_xor_14 rfl (lv_at hl 0 rfl) ?_
      refine lv_iadd hx hb dX2_xor_15 ?_
      refine x_ald B hP 1 rfl (fr + i) (na_add hv rfl) (by omega) (by omega) dX2_xor_16 ?_
      refine lv_ixor hx hb dX2_xor_17 ?_
      refine x_ast B hP hD hS 0 rfl i rfl (by omega) (by decide) dX2_xor_18 (fun H locs hP hD hS => ?_)
      have hP : va_P E.1 classes [(a, .inl (E.2.1, 16, .inl (upd (xorM g fr f i) i (((xorM g fr f i) i) ^^^ (g (fr + i)))))), (b, .inl (E.2.1, n, .inl g))] _ := hP
      have hD : va_D A [(a, .inl (E.2.1, 16, .inl (upd (xorM g fr f i) i (((xorM g fr f i) i) ^^^ (g (fr + i)))))), (b, .inl (E.2.1, n, .inl g))] := hD
      refine lv_iinc (v := (nI (i + 1))) (lv' := [(3, .int (nI (i + 1))), (0, .ref a), (1, .ref b), (2, .int v)]) hx hb dX2_xor_19 hl (k := 0) rfl (ii_1 i) (by decide) rfl (fun ls hl => ?_)
      refine lv_goto (tgt := 2) hx hb dX2_xor_22 (by decide) ?_
      have hP : va_P E.1 classes [(a, .inl (E.2.1, 16, .inl (xorM g fr f (i + 1)))), (b, .inl (E.2.1, n, .inl g))] _ := hP
      have hD : va_D A [(a, .inl (E.2.1, 16, .inl (xorM g fr f (i + 1)))), (b, .inl (E.2.1, n, .inl g))] := hD
      exact ih (i + 1) (by omega) (by omega) _ _ _ hP hD hS (lv_sub hl [0, 1, 2, 3] rfl)
set_option maxHeartbeats 4000000 in
set_option maxRecDepth 100000 in
/-- xor -/
theorem c_X2_xor (l : Launch) (E : EE) (a b n fr : Nat) (f g : Nat → Int32) (v : Int32) (hv : v = nI fr) (hn : fr + 16 ≤ n) (hN : n < 2 ^ 31) : Cv l yX2_xor (.code yX2_xor cX2_xor 4 none) ({ frames := 0, cells := 0, slots := 0, locals := 0 }) E [.ref a, .ref b, .int v] [(a, .inl (E.2.1, 16, .inl f)), (b, .inl (E.2.1, n, .inl g))] [(a, .inl (E.2.1, 16, .inl (xorM g fr f 16))), (b, .inl (E.2.1, n, .inl g))] := by
  refine Cv.of (by decide) (Nat.le_of_ble_eq_true rfl) ?_
  intro p e s m below meth c A ls B hP hD hS hl
  have hl : lv_has ls 4 [(0, .ref a), (1, .ref b), (2, .int v)] := hl
  have B : Bd p s m _ meth c cX2_xor 4 none RX2 E A := B
  have hx := B.1
  have hb := B.2.1
  have hP : va_P E.1 classes [(a, .inl (E.2.1, 16, .inl f)), (b, .inl (E.2.1, n, .inl g))] _ := hP
  have hD : va_D A [(a, .inl (E.2.1, 16, .inl f)), (b, .inl (E.2.1, n, .inl g))] := hD
  refine lv_iconst (v := 0) hx hb dX2_xor_0 (by decide) ?_
  refine lv_istore_n (lv' := [(3, .int 0), (0, .ref a), (1, .ref b), (2, .int v)]) hx hb dX2_xor_1 rfl hl (by decide) rfl (fun ls hl => ?_)
  have hP : va_P E.1 classes [(a, .inl (E.2.1, 16, .inl (xorM g fr f 0))), (b, .inl (E.2.1, n, .inl g))] _ := hP
  have hD : va_D A [(a, .inl (E.2.1, 16, .inl (xorM g fr f 0))), (b, .inl (E.2.1, n, .inl g))] := hD
  refine lp_xor B ⟨by decide, by decide⟩ hv hn hN (fun H locs ls hP hD hS hl => ?_) 17 0 (by omega) (by omega) _ _ _ hP hD hS (lv_sub hl [0, 1, 2, 3] rfl)
  have hP : va_P E.1 classes [(a, .inl (E.2.1, 16, .inl (xorM g fr f 16))), (b, .inl (E.2.1, n, .inl g))] _ := hP
  have hD : va_D A [(a, .inl (E.2.1, 16, .inl (xorM g fr f 16))), (b, .inl (E.2.1, n, .inl g))] := hD
  exact x_vret B hP hD hS dX2_xor_25
set_option maxHeartbeats 4000000 in
set_option maxRecDepth 100000 in
/-- twice -/
theorem c_X0_twice (l : Launch) (E : EE) (a : Int32) : Ci l yX0_twice (.code yX0_twice cX0_twice 1 (some .int)) ({ frames := 0, cells := 0, slots := 0, locals := 0 }) E [.int a] (twM a) [] [] := by
  refine Ci.of (by decide) (Nat.le_of_ble_eq_true rfl) ?_
  intro p e s m below meth c A ls B hP hD hS hl
  have hl : lv_has ls 1 [(0, .int a)] := hl
  have B : Bd p s m _ meth c cX0_twice 1 (some .int) RX0 E A := B
  have hx := B.1
  have hb := B.2.1
  have hP : va_P E.1 classes [] _ := hP
  have hD : va_D A [] := hD
  refine lv_iload_n hx hb dX0_twice_0 rfl (lv_at hl 0 rfl) ?_
  refine lv_sipush (v := 128) hx hb dX0_twice_1 (by decide) ?_
  refine lv_icmp_ge (tgt := 13) hx hb dX0_twice_4 (by decide) (fun c_4 => ?_) (fun c_4 => ?_)
  · refine lv_iload_n hx hb dX0_twice_13 rfl (lv_at hl 0 rfl) ?_
    refine lv_iconst (v := 1) hx hb dX0_twice_14 (by decide) ?_
    refine lv_ishl hx hb dX0_twice_15 ?_
    refine lv_sipush (v := 283) hx hb dX0_twice_16 (by decide) ?_
    refine lv_ixor hx hb dX0_twice_19 ?_
    have hP : va_P E.1 classes [] _ := hP
    have hD : va_D A [] := hD
    exact x_iret B hP hD hS rfl (by unfold twM; first | exact (if_pos c_4).symm | exact (if_neg c_4).symm) dX0_twice_20
  · refine lv_iload_n hx hb dX0_twice_7 rfl (lv_at hl 0 rfl) ?_
    refine lv_iconst (v := 1) hx hb dX0_twice_8 (by decide) ?_
    refine lv_ishl hx hb dX0_twice_9 ?_
    refine lv_goto (tgt := 20) hx hb dX0_twice_10 (by decide) ?_
    have hP : va_P E.1 classes [] _ := hP
    have hD : va_D A [] := hD
    exact x_iret B hP hD hS rfl (by unfold twM; first | exact (if_pos c_4).symm | exact (if_neg c_4).symm) dX0_twice_20
set_option maxHeartbeats 4000000 in
set_option maxRecDepth 100000 in
/-- mixed -/
theorem c_X0_mixed (l : Launch) (E : EE) (x1 x2 x3 x4 : Int32) : Ci l yX0_mixed (.code yX0_mixed cX0_mixed 4 (some .int)) ({ frames := 1, cells := 0, slots := 0, locals := 20 }) E [.int x1, .int x2, .int x3, .int x4] (mxE x1 x2 x3 x4) [] [] := by
  refine Ci.of (by decide) (Nat.le_of_ble_eq_true rfl) ?_
  intro p e s m below meth c A ls B hP hD hS hl
  have hl : lv_has ls 4 [(0, .int x1), (1, .int x2), (2, .int x3), (3, .int x4)] := hl
  have B : Bd p s m _ meth c cX0_mixed 4 (some .int) RX0 E A := B
  have hx := B.1
  have hb := B.2.1
  have hP : va_P E.1 classes [] _ := hP
  have hD : va_D A [] := hD
  refine lv_iload_n hx hb dX0_mixed_0 rfl (lv_at hl 0 rfl) ?_
  refine lv_iload_n hx hb dX0_mixed_1 rfl (lv_at hl 1 rfl) ?_
  refine lv_ixor hx hb dX0_mixed_2 ?_
  refine x_Si (wr := []) (isC := []) (isR := []) (As := [.int (x1 ^^^ x2)]) B (c_X0_twice l E (x1 ^^^ x2)) k_X0_twice g_145 s_X0_twice ⟨by decide, by decide, rfl, rfl⟩ hP hD hS ⟨rfl, rfl, rfl, rfl, by decide⟩ rfl hl.1 rfl (Nat.le_of_ble_eq_true rfl) dX0_mixed_3 ⟨by decide, by decide⟩ (fun H locs hP hD hS => ?_)
  have hP : va_P E.1 classes [] _ := hP
  have hD : va_D A [] := hD
  refine lv_iload_n hx hb dX0_mixed_6 rfl (lv_at hl 1 rfl) ?_
  refine lv_ixor hx hb dX0_mixed_7 ?_
  refine lv_iload_n hx hb dX0_mixed_8 rfl (lv_at hl 2 rfl) ?_
  refine lv_ixor hx hb dX0_mixed_9 ?_
  refine lv_iload_n hx hb dX0_mixed_10 rfl (lv_at hl 3 rfl) ?_
  refine lv_ixor hx hb dX0_mixed_11 ?_
  have hP : va_P E.1 classes [] _ := hP
  have hD : va_D A [] := hD
  exact x_iret B hP hD hS rfl rfl dX0_mixed_12
set_option maxHeartbeats 4000000 in
set_option maxRecDepth 100000 in
/-- source -/
theorem c_X0_source (l : Launch) (E : EE) (k : Nat) (v : Int32) (hv : v = nI k) (hk : k < 16) : Ci l yX0_source (.code yX0_source cX0_source 1 (some .int)) ({ frames := 0, cells := 0, slots := 0, locals := 0 }) E [.int v] (nI (srcM k)) [] [] := by
  refine Ci.of (by decide) (Nat.le_of_ble_eq_true rfl) ?_
  intro p e s m below meth c A ls B hP hD hS hl
  have hl : lv_has ls 1 [(0, .int v)] := hl
  have B : Bd p s m _ meth c cX0_source 1 (some .int) RX0 E A := B
  have hx := B.1
  have hb := B.2.1
  have hP : va_P E.1 classes [] _ := hP
  have hD : va_D A [] := hD
  refine lv_iload_n hx hb dX0_source_0 rfl (lv_at hl 0 rfl) ?_
  refine lv_iconst (v := 4) hx hb dX0_source_1 (by decide) ?_
  refine lv_iload_n hx hb dX0_source_2 rfl (lv_at hl 0 rfl) ?_
  refine lv_iconst (v := 4) hx hb dX0_source_3 (by decide) ?_
  refine lv_irem hx hb dX0_source_4 (by decide) ?_
  refine lv_imul hx hb dX0_source_5 ?_
  refine lv_iadd hx hb dX0_source_6 ?_
  refine lv_bipush (v := 16) hx hb dX0_source_7 (by decide) ?_
  refine lv_irem hx hb dX0_source_9 (by decide) ?_
  have hP : va_P E.1 classes [] _ := hP
  have hD : va_D A [] := hD
  exact x_iret B hP hD hS rfl (na_rem (na_add hv (na_mul rfl (na_rem hv rfl (by omega) (by decide) (by decide)))) rfl (by omega) (by decide) (by decide)) dX0_source_10
set_option maxHeartbeats 4000000 in
set_option maxRecDepth 100000 in
theorem lp_mix {p : Program} {l : Launch} {e : Env} {R : Room} {s : State} {m : MethodId} {args : Array Value} {below : List Frame} {meth : Method} {c : Code} {cells slots : Nat} {Q : State → Prop} {E : EE} {A : Nat → Prop} {a : Nat} {f : Nat → Int32} (B : Bd p s m args meth c cX0_mix 6 none RX0 E A) (hf : cells ≤ R.cells ∧ slots ≤ R.slots) (hR : 2 ≤ R.frames ∧ 43 ≤ R.locals) (hF : ∀ i, i < 16 → By (f i))
    (kk : ∀ (H : Heap) (locs : List Loc) (ls : Array Slot), va_P E.1 classes [(a, .inl (E.2.1, 16, .inl (mixM f 4)))] H → va_D A [(a, .inl (E.2.1, 16, .inl (mixM f 4)))] → va_S A s.heap H locs → lv_has ls 6 [(1, .int (nI (4 * 4))), (0, .ref a)] → W p l e R s m args below meth c H locs cells slots Q (F0 m 92 ls [])) :
    ∀ (fu i : Nat), i ≤ 4 → 4 < i + fu → ∀ (H : Heap) (locs : List Loc) (ls : Array Slot), va_P E.1 classes [(a, .inl (E.2.1, 16, .inl (mixM f i)))] H → va_D A [(a, .inl (E.2.1, 16, .inl (mixM f i)))] → va_S A s.heap H locs → lv_has ls 6 [(1, .int (nI (4 * i))), (0, .ref a)] → W p l e R s m args below meth c H locs cells slots Q (F0 m 2 ls []) := by
  have hx := B.1
  have hb := B.2.1
  intro fu
  induction fu with
  | zero =>
    intro i h1 h2
    exact absurd h2 (by omega)
  | succ fu ih =>
    intro i hi hin H locs ls hP hD hS hl
    refine lv_iload_n hx hb dX0_mix_2 rfl (lv_at hl 0 rfl) ?_
    refine lv_bipush (v := 16) hx hb dX0_mix_3 (by decide) ?_
    refine lv_icmp_ge (tgt := 92) hx hb dX0_mix_5 (by decide) (fun c_5 => ?_) (fun c_5 => ?_)
    · have hj : i = 4 := by have := ge_t (b := 16) c_5 (by omega) (by omega); omega
      subst hj
      exact kk _ _ _ hP hD hS hl
    · have hj : i < 4 := by have := ge_f (b := 16) c_5 (by omega) (by omega); omega
      refine lv_aload_n hx hb dX0_mix_8 rfl (lv_at hl 1 rfl) ?_
      refine lv_iload_n hx hb dX0_mix_9 rfl (lv_at hl 0 rfl) ?_
      refine x_ald B hP 0 rfl (4 * i) rfl (by omega) (by decide) dX0_mix_10 ?_
      refine lv_istore_n (lv' := [(2, .int ((mixM f i) (4 * i))), (1, .int (nI (4 * i))), (0, .ref a)]) hx hb dX0_mix_11 rfl hl (by decide) rfl (fun ls hl => ?_)
      refine lv_aload_n hx hb dX0_mix_12 rfl (lv_at hl 2 rfl) ?_
      refine lv_iload_n hx hb dX0_mix_13 rfl (lv_at hl 1 rfl) ?_
      refine lv_iconst (v := 1) hx hb dX0_mix_14 (by decide) ?_
      refine lv_iadd hx hb dX0_mix_15 ?_
      refine x_ald B hP 0 rfl ((4 * i) + 1) (na_add rfl rfl) (by omega) (by decide) dX0_mix_16 ?_
      refine lv_istore_n (lv' := [(3, .int ((mixM f i) ((4 * i) + 1))), (2, .int ((mixM f i) (4 * i))), (1, .int (nI (4 * i))), (0, .ref a)]) hx hb dX0_mix_17 rfl hl (by decide) rfl (fun ls hl => ?_)
      refine lv_aload_n hx hb dX0_mix_18 rfl (lv_at hl 3 rfl) ?_
      refine lv_iload_n hx hb dX0_mix_19 rfl (lv_at hl 2 rfl) ?_
      refine lv_iconst (v := 2) hx hb dX0_mix_20 (by decide) ?_
      refine lv_iadd hx hb dX0_mix_21 ?_
      refine x_ald B hP 0 rfl ((4 * i) + 2) (na_add rfl rfl) (by omega) (by decide) dX0_mix_22 ?_
      refine lv_istore (lv' := [(4, .int ((mixM f i) ((4 * i) + 2))), (3, .int ((mixM f i) ((4 * i) + 1))), (2, .int ((mixM f i) (4 * i))), (1, .int (nI (4 * i))), (0, .ref a)]) hx hb dX0_mix_23 hl (by decide) rfl (fun ls hl => ?_)
      refine lv_aload_n hx hb dX0_mix_25 rfl (lv_at hl 4 rfl) ?_
      refine lv_iload_n hx hb dX0_mix_26 rfl (lv_at hl 3 rfl) ?_
      refine lv_iconst (v := 3) hx hb dX0_mix_27 (by decide) ?_
      refine lv_iadd hx hb dX0_mix_28 ?_
      refine x_ald B hP 0 rfl ((4 * i) + 3) (na_add rfl rfl) (by omega) (by decide) dX0_mix_29 ?_
      refine lv_istore (lv' := [(5, .int ((mixM f i) ((4 * i) + 3))), (4, .int ((mixM f i) ((4 * i) + 2))), (3, .int ((mixM f i) ((4 * i) + 1))), (2, .int ((mixM f i) (4 * i))), (1, .int (nI (4 * i))), (0, .ref a)]) hx hb dX0_mix_30 hl (by decide) rfl (fun ls hl => ?_)
      refine lv_aload_n hx hb dX0_mix_32 rfl (lv_at hl 5 rfl) ?_
      refine lv_iload_n hx hb dX0_mix_33 rfl (lv_at hl 4 rfl) ?_
      refine lv_iload_n hx hb dX0_mix_34 rfl (lv_at hl 3 rfl) ?_
      refine lv_iload_n hx hb dX0_mix_35 rfl (lv_at hl 2 rfl) ?_
      refine lv_iload hx hb dX0_mix_36 (lv_at hl 1 rfl) ?_
      refine lv_iload hx hb dX0_mix_38 (lv_at hl 0 rfl) ?_
      refine x_Si (wr := [(a, .inl (E.2.1, 16, .inl (mixM f i)))]) (isC := []) (isR := [0]) (As := [.int ((mixM f i) (4 * i)), .int ((mixM f i) ((4 * i) + 1)), .int ((mixM f i) ((4 * i) + 2)), .int ((mixM f i) ((4 * i) + 3))]) B (c_X0_mixed l E ((mixM f i) (4 * i)) ((mixM f i) ((4 * i) + 1)) ((mixM f i) ((4 * i) + 2)) ((mixM f i) ((4 * i) + 3))) k_X0_mixed g_173 s_X0_mixed ⟨Nat.le_trans (by decide) hR.1, Nat.le_trans (by decide) hR.2, rfl, rfl⟩ hP hD hS ⟨rfl, rfl, rfl, rfl, by decide⟩ rfl hl.1 rfl (Nat.le_of_ble_eq_true rfl) dX0_mix_40 hf (fun H locs hP hD hS => ?_)
      have hP : va_P E.1 classes [(a, .inl (E.2.1, 16, .inl (mixM f i)))] _ := hP
      have hD : va_D A [(a, .inl (E.2.1, 16, .inl (mixM f i)))] := hD
      refine x_ast B hP hD hS 0 rfl (4 * i) rfl (by omega) (by decide) dX0_mix_43 (fun H locs hP hD hS => ?_)
      have hP : va_P E.1 classes [(a, .inl (E.2.1, 16, .inl (upd (mixM f i) (4 * i) (mxE ((mixM f i) (4 * i)) ((mixM f i) ((4 * i) + 1)) ((mixM f i) ((4 * i) + 2)) ((mixM f i) ((4 * i) + 3))))))] _ := hP
      have hD : va_D A [(a, .inl (E.2.1, 16, .inl (upd (mixM f i) (4 * i) (mxE ((mixM f i) (4 * i)) ((mixM f i) ((4 * i) + 1)) ((mixM f i) ((4 * i) + 2)) ((mixM f i) ((4 * i) + 3))))))] := hD
      refine lv_aload_n hx hb dX0_mix_44 rfl (lv_at hl 5 rfl) ?_
      refine lv_iload_n hx hb dX0_mix_45 rfl (lv_at hl 4 rfl) ?_
      refine lv_iconst (v := 1) hx hb dX0_mix_46 (by decide) ?_
      refine lv_iadd hx hb dX0_mix_47 ?_
      refine lv_iload_n hx hb dX0_mix_48 rfl (lv_at hl 2 rfl) ?_
      refine lv_iload hx hb dX0_mix_49 (lv_at hl 1 rfl) ?_
      refine lv_iload hx hb dX0_mix_51 (lv_at hl 0 rfl) ?_
      refine lv_iload_n hx hb dX0_mix_53 rfl (lv_at hl 3 rfl) ?_
      refine x_Si (wr := [(a, .inl (E.2.1, 16, .inl (upd (mixM f i) (4 * i) (mxE ((mixM f i) (4 * i)) ((mixM f i) ((4 * i) + 1)) ((mixM f i) ((4 * i) + 2)) ((mixM f i) ((4 * i) + 3))))))]) (isC := []) (isR := [0]) (As := [.int ((mixM f i) ((4 * i) + 1)), .int ((mixM f i) ((4 * i) + 2)), .int ((mixM f i) ((4 * i) + 3)), .int ((mixM f i) (4 * i))]) B (c_X0_mixed l E ((mixM f i) ((4 * i) + 1)) ((mixM f i) ((4 * i) + 2)) ((mixM f i) ((4 * i) + 3)) ((mixM f i) (4 * i))) k_X0_mixed g_173 s_X0_mixed ⟨Nat.le_trans (by decide) hR.1, Nat.le_trans (by decide) hR.2, rfl, rfl⟩ hP hD hS ⟨rfl, rfl, rfl, rfl, by decide⟩ rfl hl.1 rfl (Nat.le_of_ble_eq_true rfl) dX0_mix_54 hf (fun H locs hP hD hS => ?_)
      have hP : va_P E.1 classes [(a, .inl (E.2.1, 16, .inl (upd (mixM f i) (4 * i) (mxE ((mixM f i) (4 * i)) ((mixM f i) ((4 * i) + 1)) ((mixM f i) ((4 * i) + 2)) ((mixM f i) ((4 * i) + 3))))))] _ := hP
      have hD : va_D A [(a, .inl (E.2.1, 16, .inl (upd (mixM f i) (4 * i) (mxE ((mixM f i) (4 * i)) ((mixM f i) ((4 * i) + 1)) ((mixM f i) ((4 * i) + 2)) ((mixM f i) ((4 * i) + 3))))))] := hD
      refine x_ast B hP hD hS 0 rfl ((4 * i) + 1) (na_add rfl rfl) (by omega) (by decide) dX0_mix_57 (fun H locs hP hD hS => ?_)
      have hP : va_P E.1 classes [(a, .inl (E.2.1, 16, .inl (upd (upd (mixM f i) (4 * i) (mxE ((mixM f i) (4 * i)) ((mixM f i) ((4 * i) + 1)) ((mixM f i) ((4 * i) + 2)) ((mixM f i) ((4 * i) + 3)))) ((4 * i) + 1) (mxE ((mixM f i) ((4 * i) + 1)) ((mixM f i) ((4 * i) + 2)) ((mixM f i) ((4 * i) + 3)) ((mixM f i) (4 * i))))))] _ := hP
      have hD : va_D A [(a, .inl (E.2.1, 16, .inl (upd (upd (mixM f i) (4 * i) (mxE ((mixM f i) (4 * i)) ((mixM f i) ((4 * i) + 1)) ((mixM f i) ((4 * i) + 2)) ((mixM f i) ((4 * i) + 3)))) ((4 * i) + 1) (mxE ((mixM f i) ((4 * i) + 1)) ((mixM f i) ((4 * i) + 2)) ((mixM f i) ((4 * i) + 3)) ((mixM f i) (4 * i))))))] := hD
      refine lv_aload_n hx hb dX0_mix_58 rfl (lv_at hl 5 rfl) ?_
      refine lv_iload_n hx hb dX0_mix_59 rfl (lv_at hl 4 rfl) ?_
      refine lv_iconst (v := 2) hx hb dX0_mix_60 (by decide) ?_
      refine lv_iadd hx hb dX0_mix_61 ?_
      refine lv_iload hx hb dX0_mix_62 (lv_at hl 1 rfl) ?_
      refine lv_iload hx hb dX0_mix_64 (lv_at hl 0 rfl) ?_
      refine lv_iload_n hx hb dX0_mix_66 rfl (lv_at hl 3 rfl) ?_
      refine lv_iload_n hx hb dX0_mix_67 rfl (lv_at hl 2 rfl) ?_
      refine x_Si (wr := [(a, .inl (E.2.1, 16, .inl (upd (upd (mixM f i) (4 * i) (mxE ((mixM f i) (4 * i)) ((mixM f i) ((4 * i) + 1)) ((mixM f i) ((4 * i) + 2)) ((mixM f i) ((4 * i) + 3)))) ((4 * i) + 1) (mxE ((mixM f i) ((4 * i) + 1)) ((mixM f i) ((4 * i) + 2)) ((mixM f i) ((4 * i) + 3)) ((mixM f i) (4 * i))))))]) (isC := []) (isR := [0]) (As := [.int ((mixM f i) ((4 * i) + 2)), .int ((mixM f i) ((4 * i) + 3)), .int ((mixM f i) (4 * i)), .int ((mixM f i) ((4 * i) + 1))]) B (c_X0_mixed l E ((mixM f i) ((4 * i) + 2)) ((mixM f i) ((4 * i) + 3)) ((mixM f i) (4 * i)) ((mixM f i) ((4 * i) + 1))) k_X0_mixed g_173 s_X0_mixed ⟨Nat.le_trans (by decide) hR.1, Nat.le_trans (by decide) hR.2, rfl, rfl⟩ hP hD hS ⟨rfl, rfl, rfl, rfl, by decide⟩ rfl hl.1 rfl (Nat.le_of_ble_eq_true rfl) dX0_mix_68 hf (fun H locs hP hD hS => ?_)
      have hP : va_P E.1 classes [(a, .inl (E.2.1, 16, .inl (upd (upd (mixM f i) (4 * i) (mxE ((mixM f i) (4 * i)) ((mixM f i) ((4 * i) + 1)) ((mixM f i) ((4 * i) + 2)) ((mixM f i) ((4 * i) + 3)))) ((4 * i) + 1) (mxE ((mixM f i) ((4 * i) + 1)) ((mixM f i) ((4 * i) + 2)) ((mixM f i) ((4 * i) + 3)) ((mixM f i) (4 * i))))))] _ := hP
      have hD : va_D A [(a, .inl (E.2.1, 16, .inl (upd (upd (mixM f i) (4 * i) (mxE ((mixM f i) (4 * i)) ((mixM f i) ((4 * i) + 1)) ((mixM f i) ((4 * i) + 2)) ((mixM f i) ((4 * i) + 3)))) ((4 * i) + 1) (mxE ((mixM f i) ((4 * i) + 1)) ((mixM f i) ((4 * i) + 2)) ((mixM f i) ((4 * i) + 3)) ((mixM f i) (4 * i))))))] := hD
      refine x_ast B hP hD hS 0 rfl ((4 * i) + 2) (na_add rfl rfl) (by omega) (by decide) dX0_mix_71 (fun H locs hP hD hS => ?_)
      have hP : va_P E.1 classes [(a, .inl (E.2.1, 16, .inl (upd (upd (upd (mixM f i) (4 * i) (mxE ((mixM f i) (4 * i)) ((mixM f i) ((4 * i) + 1)) ((mixM f i) ((4 * i) + 2)) ((mixM f i) ((4 * i) + 3)))) ((4 * i) + 1) (mxE ((mixM f i) ((4 * i) + 1)) ((mixM f i) ((4 * i) + 2)) ((mixM f i) ((4 * i) + 3)) ((mixM f i) (4 * i)))) ((4 * i) + 2) (mxE ((mixM f i) ((4 * i) + 2)) ((mixM f i) ((4 * i) + 3)) ((mixM f i) (4 * i)) ((mixM f i) ((4 * i) + 1))))))] _ := hP
      have hD : va_D A [(a, .inl (E.2.1, 16, .inl (upd (upd (upd (mixM f i) (4 * i) (mxE ((mixM f i) (4 * i)) ((mixM f i) ((4 * i) + 1)) ((mixM f i) ((4 * i) + 2)) ((mixM f i) ((4 * i) + 3)))) ((4 * i) + 1) (mxE ((mixM f i) ((4 * i) + 1)) ((mixM f i) ((4 * i) + 2)) ((mixM f i) ((4 * i) + 3)) ((mixM f i) (4 * i)))) ((4 * i) + 2) (mxE ((mixM f i) ((4 * i) + 2)) ((mixM f i) ((4 * i) + 3)) ((mixM f i) (4 * i)) ((mixM f i) ((4 * i) + 1))))))] := hD
      refine lv_aload_n hx hb dX0_mix_72 rfl (lv_at hl 5 rfl) ?_
      refine lv_iload_n hx hb dX0_mix_73 rfl (lv_at hl 4 rfl) ?_
      refine lv_iconst (v := 3) hx hb dX0_mix_74 (by decide) ?_
      refine lv_iadd hx hb dX0_mix_75 ?_
      refine lv_iload hx hb dX0_mix_76 (lv_at hl 0 rfl) ?_
      refine lv_iload_n hx hb dX0_mix_78 rfl (lv_at hl 3 rfl) ?_
      refine lv_iload_n hx hb dX0_mix_79 rfl (lv_at hl 2 rfl) ?_
      refine lv_iload hx hb dX0_mix_80 (lv_at hl 1 rfl) ?_
      refine x_Si (wr := [(a, .inl (E.2.1, 16, .inl (upd (upd (upd (mixM f i) (4 * i) (mxE ((mixM f i) (4 * i)) ((mixM f i) ((4 * i) + 1)) ((mixM f i) ((4 * i) + 2)) ((mixM f i) ((4 * i) + 3)))) ((4 * i) + 1) (mxE ((mixM f i) ((4 * i) + 1)) ((mixM f i) ((4 * i) + 2)) ((mixM f i) ((4 * i) + 3)) ((mixM f i) (4 * i)))) ((4 * i) + 2) (mxE ((mixM f i) ((4 * i) + 2)) ((mixM f i) ((4 * i) + 3)) ((mixM f i) (4 * i)) ((mixM f i) ((4 * i) + 1))))))]) (isC := []) (isR := [0]) (As := [.int ((mixM f i) ((4 * i) + 3)), .int ((mixM f i) (4 * i)), .int ((mixM f i) ((4 * i) + 1)), .int ((mixM f i) ((4 * i) + 2))]) B (c_X0_mixed l E ((mixM f i) ((4 * i) + 3)) ((mixM f i) (4 * i)) ((mixM f i) ((4 * i) + 1)) ((mixM f i) ((4 * i) + 2))) k_X0_mixed g_173 s_X0_mixed ⟨Nat.le_trans (by decide) hR.1, Nat.le_trans (by decide) hR.2, rfl, rfl⟩ hP hD hS ⟨rfl, rfl, rfl, rfl, by decide⟩ rfl hl.1 rfl (Nat.le_of_ble_eq_true rfl) dX0_mix_82 hf (fun H locs hP hD hS => ?_)
      have hP : va_P E.1 classes [(a, .inl (E.2.1, 16, .inl (upd (upd (upd (mixM f i) (4 * i) (mxE ((mixM f i) (4 * i)) ((mixM f i) ((4 * i) + 1)) ((mixM f i) ((4 * i) + 2)) ((mixM f i) ((4 * i) + 3)))) ((4 * i) + 1) (mxE ((mixM f i) ((4 * i) + 1)) ((mixM f i) ((4 * i) + 2)) ((mixM f i) ((4 * i) + 3)) ((mixM f i) (4 * i)))) ((4 * i) + 2) (mxE ((mixM f i) ((4 * i) + 2)) ((mixM f i) ((4 * i) + 3)) ((mixM f i) (4 * i)) ((mixM f i) ((4 * i) + 1))))))] _ := hP
      have hD : va_D A [(a, .inl (E.2.1, 16, .inl (upd (upd (upd (mixM f i) (4 * i) (mxE ((mixM f i) (4 * i)) ((mixM f i) ((4 * i) + 1)) ((mixM f i) ((4 * i) + 2)) ((mixM f i) ((4 * i) + 3)))) ((4 * i) + 1) (mxE ((mixM f i) ((4 * i) + 1)) ((mixM f i) ((4 * i) + 2)) ((mixM f i) ((4 * i) + 3)) ((mixM f i) (4 * i)))) ((4 * i) + 2) (mxE ((mixM f i) ((4 * i) + 2)) ((mixM f i) ((4 * i) + 3)) ((mixM f i) (4 * i)) ((mixM f i) ((4 * i) + 1))))))] := hD
      refine x_ast B hP hD hS 0 rfl ((4 * i) + 3) (na_add rfl rfl) (by omega) (by decide) dX0_mix_85 (fun H locs hP hD hS => ?_)
      have hP : va_P E.1 classes [(a, .inl (E.2.1, 16, .inl (upd (upd (upd (upd (mixM f i) (4 * i) (mxE ((mixM f i) (4 * i)) ((mixM f i) ((4 * i) + 1)) ((mixM f i) ((4 * i) + 2)) ((mixM f i) ((4 * i) + 3)))) ((4 * i) + 1) (mxE ((mixM f i) ((4 * i) + 1)) ((mixM f i) ((4 * i) + 2)) ((mixM f i) ((4 * i) + 3)) ((mixM f i) (4 * i)))) ((4 * i) + 2) (mxE ((mixM f i) ((4 * i) + 2)) ((mixM f i) ((4 * i) + 3)) ((mixM f i) (4 * i)) ((mixM f i) ((4 * i) + 1)))) ((4 * i) + 3) (mxE ((mixM f i) ((4 * i) + 3)) ((mixM f i) (4 * i)) ((mixM f i) ((4 * i) + 1)) ((mixM f i) ((4 * i) + 2))))))] _ := hP
      have hD : va_D A [(a, .inl (E.2.1, 16, .inl (upd (upd (upd (upd (mixM f i) (4 * i) (mxE ((mixM f i) (4 * i)) ((mixM f i) ((4 * i) + 1)) ((mixM f i) ((4 * i) + 2)) ((mixM f i) ((4 * i) + 3)))) ((4 * i) + 1) (mxE ((mixM f i) ((4 * i) + 1)) ((mixM f i) ((4 * i) + 2)) ((mixM f i) ((4 * i) + 3)) ((mixM f i) (4 * i)))) ((4 * i) + 2) (mxE ((mixM f i) ((4 * i) + 2)) ((mixM f i) ((4 * i) + 3)) ((mixM f i) (4 * i)) ((mixM f i) ((4 * i) + 1)))) ((4 * i) + 3) (mxE ((mixM f i) ((4 * i) + 3)) ((mixM f i) (4 * i)) ((mixM f i) ((4 * i) + 1)) ((mixM f i) ((4 * i) + 2))))))] := hD
      refine lv_iinc (v := (nI ((4 * i) + 4))) (lv' := [(1, .int (nI ((4 * i) + 4))), (5, .int ((mixM f i) ((4 * i) + 3))), (4, .int ((mixM f i) ((4 * i) + 2))), (3, .int ((mixM f i) ((4 * i) + 1))), (2, .int ((mixM f i) (4 * i))), (0, .ref a)]) hx hb dX0_mix_86 hl (k := 4) rfl (ii_n 4 (4 * i) rfl) (by decide) rfl (fun ls hl => ?_)
      refine lv_goto (tgt := 2) hx hb dX0_mix_89 (by decide) ?_
      have hP : va_P E.1 classes [(a, .inl (E.2.1, 16, .inl (mixM f (i + 1))))] _ := hP
      have hD : va_D A [(a, .inl (E.2.1, 16, .inl (mixM f (i + 1))))] := hD
      exact ih (i + 1) (by omega) (by omega) _ _ _ hP hD hS (lv_sub hl [0, 5] rfl)
set_option maxHeartbeats 4000000 in
set_option maxRecDepth 100000 in
/-- mix -/
theorem c_X0_mix (l : Launch) (E : EE) (a : Nat) (f : Nat → Int32) (hF : ∀ i, i < 16 → By (f i)) : Cv l yX0_mix (.code yX0_mix cX0_mix 6 none) ({ frames := 2, cells := 0, slots := 0, locals := 43 }) E [.ref a] [(a, .inl (E.2.1, 16, .inl f))] [(a, .inl (E.2.1, 16, .inl (mixM f 4)))] := by
  refine Cv.of (by decide) (Nat.le_of_ble_eq_true rfl) ?_
  intro p e s m below meth c A ls B hP hD hS hl
  have hl : lv_has ls 6 [(0, .ref a)] := hl
  have B : Bd p s m _ meth c cX0_mix 6 none RX0 E A := B
  have hx := B.1
  have hb := B.2.1
  have hP : va_P E.1 classes [(a, .inl (E.2.1, 16, .inl f))] _ := hP
  have hD : va_D A [(a, .inl (E.2.1, 16, .inl f))] := hD
  refine lv_iconst (v := 0) hx hb dX0_mix_0 (by decide) ?_
  refine lv_istore_n (lv' := [(1, .int 0), (0, .ref a)]) hx hb dX0_mix_1 rfl hl (by decide) rfl (fun ls hl => ?_)
  have hP : va_P E.1 classes [(a, .inl (E.2.1, 16, .inl (mixM f 0)))] _ := hP
  have hD : va_D A [(a, .inl (E.2.1, 16, .inl (mixM f 0)))] := hD
  refine lp_mix B ⟨by decide, by decide⟩ ⟨by decide, by decide⟩ hF (fun H locs ls hP hD hS hl => ?_) 5 0 (by omega) (by omega) _ _ _ hP hD hS (lv_sub hl [0, 1] rfl)
  have hP : va_P E.1 classes [(a, .inl (E.2.1, 16, .inl (mixM f 4)))] _ := hP
  have hD : va_D A [(a, .inl (E.2.1, 16, .inl (mixM f 4)))] := hD
  exact x_vret B hP hD hS dX0_mix_92
set_option maxHeartbeats 4000000 in
set_option maxRecDepth 100000 in
/-- unmix -/
theorem c_X0_unmix (l : Launch) (E : EE) (a : Nat) (f : Nat → Int32) (hF : ∀ i, i < 16 → By (f i)) : Cv l yX0_unmix (.code yX0_unmix cX0_unmix 1 none) ({ frames := 3, cells := 0, slots := 0, locals := 68 }) E [.ref a] [(a, .inl (E.2.1, 16, .inl f))] [(a, .inl (E.2.1, 16, .inl (mixW (mixW (mixW f)))))] := by
  refine Cv.of (by decide) (Nat.le_of_ble_eq_true rfl) ?_
  intro p e s m below meth c A ls B hP hD hS hl
  have hl : lv_has ls 1 [(0, .ref a)] := hl
  have B : Bd p s m _ meth c cX0_unmix 1 none RX0 E A := B
  have hx := B.1
  have hb := B.2.1
  have hP : va_P E.1 classes [(a, .inl (E.2.1, 16, .inl f))] _ := hP
  have hD : va_D A [(a, .inl (E.2.1, 16, .inl f))] := hD
  refine lv_aload_n hx hb dX0_unmix_0 rfl (lv_at hl 0 rfl) ?_
  refine x_Sv (wr := []) (isC := [0]) (isR := []) (As := [.ref a]) B (c_X0_mix l E a f hF) k_X0_mix g_170 s_X0_mix ⟨by decide, by decide, rfl, rfl⟩ hP hD hS ⟨rfl, rfl, rfl, rfl, by decide⟩ rfl hl.1 rfl (Nat.le_of_ble_eq_true rfl) dX0_unmix_1 ⟨by decide, by decide⟩ (fun H locs hP hD hS => ?_)
  have hP : va_P E.1 classes [(a, .inl (E.2.1, 16, .inl (mixW f)))] _ := hP
  have hD : va_D A [(a, .inl (E.2.1, 16, .inl (mixW f)))] := hD
  refine lv_aload_n hx hb dX0_unmix_4 rfl (lv_at hl 0 rfl) ?_
  refine x_Sv (wr := []) (isC := [0]) (isR := []) (As := [.ref a]) B (c_X0_mix l E a (mixW f) (mixM_by hF 4 (by decide))) k_X0_mix g_170 s_X0_mix ⟨by decide, by decide, rfl, rfl⟩ hP hD hS ⟨rfl, rfl, rfl, rfl, by decide⟩ rfl hl.1 rfl (Nat.le_of_ble_eq_true rfl) dX0_unmix_5 ⟨by decide, by decide⟩ (fun H locs hP hD hS => ?_)
  have hP : va_P E.1 classes [(a, .inl (E.2.1, 16, .inl (mixW (mixW f))))] _ := hP
  have hD : va_D A [(a, .inl (E.2.1, 16, .inl (mixW (mixW f))))] := hD
  refine lv_aload_n hx hb dX0_unmix_8 rfl (lv_at hl 0 rfl) ?_
  refine x_Sv (wr := []) (isC := [0]) (isR := []) (As := [.ref a]) B (c_X0_mix l E a (mixW (mixW f)) (mixM_by (mixM_by hF 4 (by decide)) 4 (by decide))) k_X0_mix g_170 s_X0_mix ⟨by decide, by decide, rfl, rfl⟩ hP hD hS ⟨rfl, rfl, rfl, rfl, by decide⟩ rfl hl.1 rfl (Nat.le_of_ble_eq_true rfl) dX0_unmix_9 ⟨by decide, by decide⟩ (fun H locs hP hD hS => ?_)
  have hP : va_P E.1 classes [(a, .inl (E.2.1, 16, .inl (mixW (mixW (mixW f)))))] _ := hP
  have hD : va_D A [(a, .inl (E.2.1, 16, .inl (mixW (mixW (mixW f)))))] := hD
  have hP : va_P E.1 classes [(a, .inl (E.2.1, 16, .inl (mixW (mixW (mixW f)))))] _ := hP
  have hD : va_D A [(a, .inl (E.2.1, 16, .inl (mixW (mixW (mixW f)))))] := hD
  exact x_vret B hP hD hS dX0_unmix_12
