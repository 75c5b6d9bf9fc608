/-- Arrays.fill -/
def fillM (x : Int32) (f : Nat → Int32) : Nat → Nat → Int32
  | 0 => f
  | i + 1 => upd (fillM x f i) i x
set_option maxHeartbeats 4000000 in
set_option maxRecDepth 100000 in
theorem lp_fill {p : Program} {l : Launch} {e : Env} {R : Room} {s : State} {m : MethodId} {args : Array Value} {below : List Frame} {meth : Method} {c : Code} {cells slots : Nat} {Q : State → Prop} {E : EE} {A : Nat → Prop} {a n : Nat} {f : Nat → Int32} {x : Int32} (B : Bd p s m args meth c cJ7_fill_53178 4 none RJ7 E A) (hf : cells ≤ R.cells ∧ slots ≤ R.slots) (hn : n < 2 ^ 31)
    (kk : ∀ (H : Heap) (locs : List Loc) (ls : Array Slot), va_P E.1 classes [(a, .inl (E.2.1, n, .inl (fillM x f n)))] H → va_D A [(a, .inl (E.2.1, n, .inl (fillM x f n)))] → va_S A s.heap H locs → lv_has ls 4 [(2, .int (nI n)), (0, .ref a), (1, .int x), (3, .int (nI n))] → W p l e R s m args below meth c H locs cells slots Q (F0 m 20 ls [])) :
    ∀ (fu i : Nat), i ≤ n → n < i + fu → ∀ (H : Heap) (locs : List Loc) (ls : Array Slot), va_P E.1 classes [(a, .inl (E.2.1, n, .inl (fillM x f i)))] H → va_D A [(a, .inl (E.2.1, n, .inl (fillM x f i)))] → va_S A s.heap H locs → lv_has ls 4 [(2, .int (nI i)), (0, .ref a), (1, .int x), (3, .int (nI n))] → W p l e R s m args below meth c H locs cells slots Q (F0 m 5 ls []) := by
  have hx := B.1
  have hb := B.2.1
  intro fu
  induction fu with
  | zero =>
    intro i h1 h2
    exact absurd h2 (by omega)
  | succ fu ih =>
    intro i hi hin H locs ls hP hD hS hl
    refine lv_iload_n hx hb dJ7_fill_53178_5 rfl (lv_at hl 0 rfl) ?_
    refine lv_iload_n hx hb dJ7_fill_53178_6 rfl (lv_at hl 3 rfl) ?_
    refine lv_icmp_ge (tgt := 20) hx hb dJ7_fill_53178_7 (by decide) (fun c_7 => ?_) (fun c_7 => ?_)
    · have hj : i = n := by have := ge_t c_7 (by omega) (by omega); omega
      subst hj
      exact kk _ _ _ hP hD hS hl
    · have hj : i < n := ge_f c_7 (by omega) (by omega)
      refine lv_aload_n hx hb dJ7_fill_53178_10 rfl (lv_at hl 1 rfl) ?_
      refine lv_iload_n hx hb dJ7_fill_53178_11 rfl (lv_at hl 0 rfl) ?_
      refine lv_iload_n hx hb dJ7_fill_53178_12 rfl (lv_at hl 2 rfl) ?_
      refine x_ast B hP hD hS 0 rfl i rfl (by omega) (by omega) dJ7_fill_53178_13 (fun H locs hP hD hS => ?_)
      have hP : va_P E.1 classes [(a, .inl (E.2.1, n, .inl (upd (fillM x f i) i x)))] _ := hP
      have hD : va_D A [(a, .inl (E.2.1, n, .inl (upd (fillM x f i) i x)))] := hD
      refine lv_iinc (v := (nI (i + 1))) (lv' := [(2, .int (nI (i + 1))), (0, .ref a), (1, .int x), (3, .int (nI n))]) hx hb dJ7_fill_53178_14 hl (k := 0) rfl (ii_1 i) (by decide) rfl (fun ls hl => ?_)
      refine lv_goto (tgt := 5) hx hb dJ7_fill_53178_17 (by decide) ?_
      have hP : va_P E.1 classes [(a, .inl (E.2.1, n, .inl (fillM x f (i + 1))))] _ := hP
      have hD : va_D A [(a, .inl (E.2.1, n, .inl (fillM x f (i + 1))))] := hD
      exact ih (i + 1) (by omega) (by omega) _ _ _ hP hD hS (lv_sub hl [0, 1, 2, 3] rfl)
set_option maxHeartbeats 4000000 in
set_option maxRecDepth 100000 in
/-- Arrays.fill -/
theorem c_J7_fill_53178 (l : Launch) (E : EE) (a n : Nat) (f : Nat → Int32) (x : Int32) (hn : n < 2 ^ 31) : Cv l yJ7_fill_53178 (.code yJ7_fill_53178 cJ7_fill_53178 4 none) ({ frames := 0, cells := 0, slots := 0, locals := 0 }) E [.ref a, .int x] [(a, .inl (E.2.1, n, .inl f))] [(a, .inl (E.2.1, n, .inl (fillM x f n)))] := by
  refine Cv.of (by decide) (Nat.le_of_ble_eq_true rfl) ?_
  intro p e s m below meth c A ls B hP hD hS hl
  have hl : lv_has ls 4 [(0, .ref a), (1, .int x)] := hl
  have B : Bd p s m _ meth c cJ7_fill_53178 4 none RJ7 E A := B
  have hx := B.1
  have hb := B.2.1
  have hP : va_P E.1 classes [(a, .inl (E.2.1, n, .inl f))] _ := hP
  have hD : va_D A [(a, .inl (E.2.1, n, .inl f))] := hD
  refine lv_iconst (v := 0) hx hb dJ7_fill_53178_0 (by decide) ?_
  refine lv_istore_n (lv' := [(2, .int 0), (0, .ref a), (1, .int x)]) hx hb dJ7_fill_53178_1 rfl hl (by decide) rfl (fun ls hl => ?_)
  refine lv_aload_n hx hb dJ7_fill_53178_2 rfl (lv_at hl 1 rfl) ?_
  refine x_alen B hP 0 rfl dJ7_fill_53178_3 ?_
  refine lv_istore_n (lv' := [(3, .int (nI n)), (2, .int 0), (0, .ref a), (1, .int x)]) hx hb dJ7_fill_53178_4 rfl hl (by decide) rfl (fun ls hl => ?_)
  refine lp_fill B ⟨by decide, by decide⟩ hn (fun H locs ls hP hD hS hl => ?_) (n + 1) 0 (by omega) (by omega) _ _ _ hP hD hS (lv_sub hl [1, 2, 3, 0] rfl)
  have hP : va_P E.1 classes [(a, .inl (E.2.1, n, .inl (fillM x f n)))] _ := hP
  have hD : va_D A [(a, .inl (E.2.1, n, .inl (fillM x f n)))] := hD
  exact x_vret B hP hD hS dJ7_fill_53178_20
def inM (i h : Int32) : Int32 := if i < 0 then 0 else if h < i then 0 else 1
def plM (i : Int32) : Int32 := if i < 0 then 0 else if 16 ≤ i then 0 else 1
def byM (i : Int32) : Int32 := if i < 0 then 0 else if 255 < i then 0 else 1
set_option maxHeartbeats 4000000 in
set_option maxRecDepth 100000 in
/-- isPlace -/
theorem c_X2_isPlace (l : Launch) (E : EE) (i : Int32) : Ci l yX2_isPlace (.code yX2_isPlace cX2_isPlace 1 (some .boolean)) ({ frames := 0, cells := 0, slots := 0, locals := 0 }) E [.int i] (plM i) [] [] := by
  refine Ci.of (by decide) (Nat.le_of_ble_eq_true rfl) ?_
  intro p e s m below meth c A ls B hP hD hS hl
  have hl : lv_has ls 1 [(0, .int i)] := hl
  have B : Bd p s m _ meth c cX2_isPlace 1 (some .boolean) RX2 E A := B
  have hx := B.1
  have hb := B.2.1
  have hP : va_P E.1 classes [] _ := hP
  have hD : va_D A [] := hD
  refine lv_iload_n hx hb dX2_isPlace_0 rfl (lv_at hl 0 rfl) ?_
  refine lv_if_lt (tgt := 14) hx hb dX2_isPlace_1 (by decide) (fun c_1 => ?_) (fun c_1 => ?_)
  · refine lv_iconst (v := 0) hx hb dX2_isPlace_14 (by decide) ?_
    have hP : va_P E.1 classes [] _ := hP
    have hD : va_D A [] := hD
    exact x_iret B hP hD hS rfl (by unfold plM; simp [*]) dX2_isPlace_15
  · refine lv_iload_n hx hb dX2_isPlace_4 rfl (lv_at hl 0 rfl) ?_
    refine lv_bipush (v := 16) hx hb dX2_isPlace_5 (by decide) ?_
    refine lv_icmp_ge (tgt := 14) hx hb dX2_isPlace_7 (by decide) (fun c_7 => ?_) (fun c_7 => ?_)
    · refine lv_iconst (v := 0) hx hb dX2_isPlace_14 (by decide) ?_
      have hP : va_P E.1 classes [] _ := hP
      have hD : va_D A [] := hD
      exact x_iret B hP hD hS rfl (by unfold plM; simp [*]) dX2_isPlace_15
    · refine lv_iconst (v := 1) hx hb dX2_isPlace_10 (by decide) ?_
      refine lv_goto (tgt := 15) hx hb dX2_isPlace_11 (by decide) ?_
      have hP : va_P E.1 classes [] _ := hP
      have hD : va_D A [] := hD
      exact x_iret B hP hD hS rfl (by unfold plM; simp [*]) dX2_isPlace_15
set_option maxHeartbeats 4000000 in
set_option maxRecDepth 100000 in
/-- isByte -/
theorem c_X2_isByte (l : Launch) (E : EE) (i : Int32) : Ci l yX2_isByte (.code yX2_isByte cX2_isByte 1 (some .boolean)) ({ frames := 0, cells := 0, slots := 0, locals := 0 }) E [.int i] (byM i) [] [] := by
  refine Ci.of (by decide) (Nat.le_of_ble_eq_true rfl) ?_
  intro p e s m below meth c A ls B hP hD hS hl
  have hl : lv_has ls 1 [(0, .int i)] := hl
  have B : Bd p s m _ meth c cX2_isByte 1 (some .boolean) RX2 E A := B
  have hx := B.1
  have hb := B.2.1
  have hP : va_P E.1 classes [] _ := hP
  have hD : va_D A [] := hD
  refine lv_iload_n hx hb dX2_isByte_0 rfl (lv_at hl 0 rfl) ?_
  refine lv_if_lt (tgt := 15) hx hb dX2_isByte_1 (by decide) (fun c_1 => ?_) (fun c_1 => ?_)
  · refine lv_iconst (v := 0) hx hb dX2_isByte_15 (by decide) ?_
    have hP : va_P E.1 classes [] _ := hP
    have hD : va_D A [] := hD
    exact x_iret B hP hD hS rfl (by unfold byM; simp [*]) dX2_isByte_16
  · refine lv_iload_n hx hb dX2_isByte_4 rfl (lv_at hl 0 rfl) ?_
    refine lv_sipush (v := 255) hx hb dX2_isByte_5 (by decide) ?_
    refine lv_icmp_gt (tgt := 15) hx hb dX2_isByte_8 (by decide) (fun c_8 => ?_) (fun c_8 => ?_)
    · refine lv_iconst (v := 0) hx hb dX2_isByte_15 (by decide) ?_
      have hP : va_P E.1 classes [] _ := hP
      have hD : va_D A [] := hD
      exact x_iret B hP hD hS rfl (by unfold byM; simp [*]) dX2_isByte_16
    · refine lv_iconst (v := 1) hx hb dX2_isByte_11 (by decide) ?_
      refine lv_goto (tgt := 16) hx hb dX2_isByte_12 (by decide) ?_
      have hP : va_P E.1 classes [] _ := hP
      have hD : va_D A [] := hD
      exact x_iret B hP hD hS rfl (by unfold byM; simp [*]) dX2_isByte_16
set_option maxHeartbeats 4000000 in
set_option maxRecDepth 100000 in
/-- isIn -/
theorem c_X3_isIn (l : Launch) (E : EE) (i h : Int32) : Ci l yX3_isIn (.code yX3_isIn cX3_isIn 2 (some .boolean)) ({ frames := 0, cells := 0, slots := 0, locals := 0 }) E [.int i, .int h] (inM i h) [] [] := by
  refine Ci.of (by decide) (Nat.le_of_ble_eq_true rfl) ?_
  intro p e s m below meth c A ls B hP hD hS hl
  have hl : lv_has ls 2 [(0, .int i), (1, .int h)] := hl
  have B : Bd p s m _ meth c cX3_isIn 2 (some .boolean) RX3 E A := B
  have hx := B.1
  have hb := B.2.1
  have hP : va_P E.1 classes [] _ := hP
  have hD : va_D A [] := hD
  refine lv_iload_n hx hb dX3_isIn_0 rfl (lv_at hl 0 rfl) ?_
  refine lv_if_lt (tgt := 13) hx hb dX3_isIn_1 (by decide) (fun c_1 => ?_) (fun c_1 => ?_)
  · refine lv_iconst (v := 0) hx hb dX3_isIn_13 (by decide) ?_
    have hP : va_P E.1 classes [] _ := hP
    have hD : va_D A [] := hD
    exact x_iret B hP hD hS rfl (by unfold inM; simp [*]) dX3_isIn_14
  · refine lv_iload_n hx hb dX3_isIn_4 rfl (lv_at hl 0 rfl) ?_
    refine lv_iload_n hx hb dX3_isIn_5 rfl (lv_at hl 1 rfl) ?_
    refine lv_icmp_gt (tgt := 13) hx hb dX3_isIn_6 (by decide) (fun c_6 => ?_) (fun c_6 => ?_)
    · refine lv_iconst (v := 0) hx hb dX3_isIn_13 (by decide) ?_
      have hP : va_P E.1 classes [] _ := hP
      have hD : va_D A [] := hD
      exact x_iret B hP hD hS rfl (by unfold inM; simp [*]) dX3_isIn_14
    · refine lv_iconst (v := 1) hx hb dX3_isIn_9 (by decide) ?_
      refine lv_goto (tgt := 14) hx hb dX3_isIn_10 (by decide) ?_
      have hP : va_P E.1 classes [] _ := hP
      have hD : va_D A [] := hD
      exact x_iret B hP hD hS rfl (by unfold inM; simp [*]) dX3_isIn_14
