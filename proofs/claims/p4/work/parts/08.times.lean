/-- times: (p, x) after k bits -/
def tmM (a b : Int32) : Nat → Int32 × Int32
  | 0 => (0, a)
  | k + 1 => (if (b >>> (nI k &&& 31)) &&& 1 = 1 then (tmM a b k).1 ^^^ (tmM a b k).2 else (tmM a b k).1, if 128 ≤ (tmM a b k).2 then (2 * (tmM a b k).2 - 256) ^^^ 27 else 2 * (tmM a b k).2)
def tmR (a b : Int32) : Int32 := (tmM a b 8).1
set_option maxHeartbeats 4000000 in
set_option maxRecDepth 100000 in
theorem lp_times {p : Program} {l : Launch} {e : Env} {R : Room} {s : State} {m : MethodId} {args : Array Value} {below : List Frame} {meth : Method} {c : Code} {cells slots : Nat} {Q : State → Prop} {E : EE} {A : Nat → Prop} {a b : Int32} (B : Bd p s m args meth c cX3_times 5 (some .int) RX3 E A) (hf : cells ≤ R.cells ∧ slots ≤ R.slots) 
    (kk : ∀ (H : Heap) (locs : List Loc) (ls : Array Slot), va_P E.1 classes [] H → va_D A [] → va_S A s.heap H locs → lv_has ls 5 [(4, .int (nI 8)), (0, .int a), (1, .int b), (2, .int ((tmM a b 8).1)), (3, .int ((tmM a b 8).2))] → W p l e R s m args below meth c H locs cells slots Q (F0 m 62 ls [])) :
    ∀ (fu i : Nat), i ≤ 8 → 8 < i + fu → ∀ (H : Heap) (locs : List Loc) (ls : Array Slot), va_P E.1 classes [] H → va_D A [] → va_S A s.heap H locs → lv_has ls 5 [(4, .int (nI i)), (0, .int a), (1, .int b), (2, .int ((tmM a b i).1)), (3, .int ((tmM a b i).2))] → W p l e R s m args below meth c H locs cells slots Q (F0 m 7 ls []) := by
  have hx := B.1
  have hb := B.2.1
  intro fu
  induction fu with
  | zero =>
    intro i h1 h2
    exact absurd h2 (by omega)
  | succ fu ih =>
    intro i hi hin H locs ls hP hD hS hl
    refine lv_iload hx hb dX3_times_7 (lv_at hl 0 rfl) ?_
    refine lv_bipush (v := 8) hx hb dX3_times_9 (by decide) ?_
    refine lv_icmp_ge (tgt := 62) hx hb dX3_times_11 (by decide) (fun c_11 => ?_) (fun c_11 => ?_)
    · have hj : i = 8 := by have := ge_t (b := 8) c_11 (by omega) (by omega); omega
      subst hj
      exact kk _ _ _ hP hD hS hl
    · have hj : i < 8 := by have := ge_f (b := 8) c_11 (by omega) (by omega); omega
      refine lv_iload_n hx hb dX3_times_14 rfl (lv_at hl 2 rfl) ?_
      refine lv_iload hx hb dX3_times_15 (lv_at hl 0 rfl) ?_
      refine lv_ishr hx hb dX3_times_17 ?_
      refine lv_iconst (v := 1) hx hb dX3_times_18 (by decide) ?_
      refine lv_iand hx hb dX3_times_19 ?_
      refine lv_iconst (v := 1) hx hb dX3_times_20 (by decide) ?_
      refine lv_icmp_ne (tgt := 30) hx hb dX3_times_21 (by decide) (fun c_21 => ?_) (fun c_21 => ?_)
      · refine lv_iload_n hx hb dX3_times_30 rfl (lv_at hl 3 rfl) ?_
        refine lv_istore_n (lv' := [(2, .int ((tmM a b i).1)), (4, .int (nI i)), (0, .int a), (1, .int b), (3, .int ((tmM a b i).2))]) hx hb dX3_times_31 rfl hl (by decide) rfl (fun ls hl => ?_)
        refine lv_iload_n hx hb dX3_times_32 rfl (lv_at hl 4 rfl) ?_
        refine lv_sipush (v := 128) hx hb dX3_times_33 (by decide) ?_
        refine lv_icmp_ge (tgt := 45) hx hb dX3_times_36 (by decide) (fun c_36 => ?_) (fun c_36 => ?_)
        · refine lv_iconst (v := 2) hx hb dX3_times_45 (by decide) ?_
          refine lv_iload_n hx hb dX3_times_46 rfl (lv_at hl 4 rfl) ?_
          refine lv_imul hx hb dX3_times_47 ?_
          refine lv_sipush (v := 256) hx hb dX3_times_48 (by decide) ?_
          refine lv_isub hx hb dX3_times_51 ?_
          refine lv_bipush (v := 27) hx hb dX3_times_52 (by decide) ?_
          refine lv_ixor hx hb dX3_times_54 ?_
          refine lv_istore_n (lv' := [(3, .int (((2 * (tmM a b i).2) - 256) ^^^ 27)), (2, .int ((tmM a b i).1)), (4, .int (nI i)), (0, .int a), (1, .int b)]) hx hb dX3_times_55 rfl hl (by decide) rfl (fun ls hl => ?_)
          refine lv_iinc (v := (nI (i + 1))) (lv' := [(4, .int (nI (i + 1))), (3, .int (((2 * (tmM a b i).2) - 256) ^^^ 27)), (2, .int ((tmM a b i).1)), (0, .int a), (1, .int b)]) hx hb dX3_times_56 hl (k := 2) rfl (ii_1 i) (by decide) rfl (fun ls hl => ?_)
          refine lv_goto (tgt := 7) hx hb dX3_times_59 (by decide) ?_
          have e1 : (tmM a b (i + 1)).1 = (tmM a b i).1 := by simp only [tmM]; first | exact if_pos c_21 | exact if_neg c_21
          have e2 : (tmM a b (i + 1)).2 = (((2 * (tmM a b i).2) - 256) ^^^ 27) := by simp only [tmM]; first | exact if_pos c_36 | exact if_neg c_36
          have hP : va_P E.1 classes [] _ := hP
          have hD : va_D A [] := hD
          exact ih (i + 1) (by omega) (by omega) _ _ _ hP hD hS (by rw [e1, e2]; exact lv_sub hl [0, 3, 4, 2, 1] rfl)
        · refine lv_iconst (v := 2) hx hb dX3_times_39 (by decide) ?_
          refine lv_iload_n hx hb dX3_times_40 rfl (lv_at hl 4 rfl) ?_
          refine lv_imul hx hb dX3_times_41 ?_
          refine lv_goto (tgt := 55) hx hb dX3_times_42 (by decide) ?_
          refine lv_istore_n (lv' := [(3, .int (2 * (tmM a b i).2)), (2, .int ((tmM a b i).1)), (4, .int (nI i)), (0, .int a), (1, .int b)]) hx hb dX3_times_55 rfl hl (by decide) rfl (fun ls hl => ?_)
          refine lv_iinc (v := (nI (i + 1))) (lv' := [(4, .int (nI (i + 1))), (3, .int (2 * (tmM a b i).2)), (2, .int ((tmM a b i).1)), (0, .int a), (1, .int b)]) hx hb dX3_times_56 hl (k := 2) rfl (ii_1 i) (by decide) rfl (fun ls hl => ?_)
          refine lv_goto (tgt := 7) hx hb dX3_times_59 (by decide) ?_
          have e1 : (tmM a b (i + 1)).1 = (tmM a b i).1 := by simp only [tmM]; first | exact if_pos c_21 | exact if_neg c_21
          have e2 : (tmM a b (i + 1)).2 = (2 * (tmM a b i).2) := by simp only [tmM]; first | exact if_pos c_36 | exact if_neg c_36
          have hP : va_P E.1 classes [] _ := hP
          have hD : va_D A [] := hD
          exact ih (i + 1) (by omega) (by omega) _ _ _ hP hD hS (by rw [e1, e2]; exact lv_sub hl [0, 3, 4, 2, 1] rfl)
      · refine lv_iload_n hx hb dX3_times_24 rfl (lv_at hl 3 rfl) ?_
        refine lv_iload_n hx hb dX3_times_25 rfl (lv_at hl 4 rfl) ?_
        refine lv_ixor hx hb dX3_times_26 ?_
        refine lv_goto (tgt := 31) hx hb dX3_times_27 (by decide) ?_
        refine lv_istore_n (lv' := [(2, .int ((tmM a b i).1 ^^^ (tmM a b i).2)), (4, .int (nI i)), (0, .int a), (1, .int b), (3, .int ((tmM a b i).2))]) hx hb dX3_times_31 rfl hl (by decide) rfl (fun ls hl => ?_)
        refine lv_iload_n hx hb dX3_times_32 rfl (lv_at hl 4 rfl) ?_
        refine lv_sipush (v := 128) hx hb dX3_times_33 (by decide) ?_
        refine lv_icmp_ge (tgt := 45) hx hb dX3_times_36 (by decide) (fun c_36 => ?_) (fun c_36 => ?_)
        · refine lv_iconst (v := 2) hx hb dX3_times_45 (by decide) ?_
          refine lv_iload_n hx hb dX3_times_46 rfl (lv_at hl 4 rfl) ?_
          refine lv_imul hx hb dX3_times_47 ?_
          refine lv_sipush (v := 256) hx hb dX3_times_48 (by decide) ?_
          refine lv_isub hx hb dX3_times_51 ?_
          refine lv_bipush (v := 27) hx hb dX3_times_52 (by decide) ?_
          refine lv_ixor hx hb dX3_times_54 ?_
          refine lv_istore_n (lv' := [(3, .int (((2 * (tmM a b i).2) - 256) ^^^ 27)), (2, .int ((tmM a b i).1 ^^^ (tmM a b i).2)), (4, .int (nI i)), (0, .int a), (1, .int b)]) hx hb dX3_times_55 rfl hl (by decide) rfl (fun ls hl => ?_)
          refine lv_iinc (v := (nI (i + 1))) (lv' := [(4, .int (nI (i + 1))), (3, .int (((2 * (tmM a b i).2) - 256) ^^^ 27)), (2, .int ((tmM a b i).1 ^^^ (tmM a b i).2)), (0, .int a), (1, .int b)]) hx hb dX3_times_56 hl (k := 2) rfl (ii_1 i) (by decide) rfl (fun ls hl => ?_)
          refine lv_goto (tgt := 7) hx hb dX3_times_59 (by decide) ?_
          have e1 : (tmM a b (i + 1)).1 = ((tmM a b i).1 ^^^ (tmM a b i).2) := by simp only [tmM]; first | exact if_pos c_21 | exact if_neg c_21
          have e2 : (tmM a b (i + 1)).2 = (((2 * (tmM a b i).2) - 256) ^^^ 27) := by simp only [tmM]; first | exact if_pos c_36 | exact if_neg c_36
          have hP : va_P E.1 classes [] _ := hP
          have hD : va_D A [] := hD
          exact ih (i + 1) (by omega) (by omega) _ _ _ hP hD hS (by rw [e1, e2]; exact lv_sub hl [0, 3, 4, 2, 1] rfl)
        · refine lv_iconst (v := 2) hx hb dX3_times_39 (by decide) ?_
          refine lv_iload_n hx hb dX3_times_40 rfl (lv_at hl 4 rfl) ?_
          refine lv_imul hx hb dX3_times_41 ?_
          refine lv_goto (tgt := 55) hx hb dX3_times_42 (by decide) ?_
          refine lv_istore_n (lv' := [(3, .int (2 * (tmM a b i).2)), (2, .int ((tmM a b i).1 ^^^ (tmM a b i).2)), (4, .int (nI i)), (0, .int a), (1, .int b)]) hx hb dX3_times_55 rfl hl (by decide) rfl (fun ls hl => ?_)
          refine lv_iinc (v := (nI (i + 1))) (lv' := [(4, .int (nI (i + 1))), (3, .int (2 * (tmM a b i).2)), (2, .int ((tmM a b i).1 ^^^ (tmM a b i).2)), (0, .int a), (1, .int b)]) hx hb dX3_times_56 hl (k := 2) rfl (ii_1 i) (by decide) rfl (fun ls hl => ?_)
          refine lv_goto (tgt := 7) hx hb dX3_times_59 (by decide) ?_
          have e1 : (tmM a b (i + 1)).1 = ((tmM a b i).1 ^^^ (tmM a b i).2) := by simp only [tmM]; first | exact if_pos c_21 | exact if_neg c_21
          have e2 : (tmM a b (i + 1)).2 = (2 * (tmM a b i).2) := by simp only [tmM]; first | exact if_pos c_36 | exact if_neg c_36
          have hP : va_P E.1 classes [] _ := hP
          have hD : va_D A [] := hD
          exact ih (i + 1) (by omega) (by omega) _ _ _ hP hD hS (by rw [e1, e2]; exact lv_sub hl [0, 3, 4, 2, 1] rfl)
set_option maxHeartbeats 4000000 in
set_option maxRecDepth 100000 in
/-- times -/
theorem c_X3_times (l : Launch) (E : EE) (a b : Int32) : Ci l yX3_times (.code yX3_times cX3_times 5 (some .int)) ({ frames := 0, cells := 0, slots := 0, locals := 0 }) E [.int a, .int b] (tmR a b) [] [] := by
  refine Ci.of (by decide) (Nat.le_of_ble_eq_true rfl) ?_
  intro p e s m below meth c A ls B hP hD hS hl
  have hl : lv_has ls 5 [(0, .int a), (1, .int b)] := hl
  have B : Bd p s m _ meth c cX3_times 5 (some .int) RX3 E A := B
  have hx := B.1
  have hb := B.2.1
  have hP : va_P E.1 classes [] _ := hP
  have hD : va_D A [] := hD
  refine lv_iconst (v := 0) hx hb dX3_times_0 (by decide) ?_
  refine lv_istore_n (lv' := [(2, .int 0), (0, .int a), (1, .int b)]) hx hb dX3_times_1 rfl hl (by decide) rfl (fun ls hl => ?_)
  refine lv_iload_n hx hb dX3_times_2 rfl (lv_at hl 1 rfl) ?_
  refine lv_istore_n (lv' := [(3, .int a), (2, .int 0), (0, .int a), (1, .int b)]) hx hb dX3_times_3 rfl hl (by decide) rfl (fun ls hl => ?_)
  refine lv_iconst (v := 0) hx hb dX3_times_4 (by decide) ?_
  refine lv_istore (lv' := [(4, .int 0), (3, .int a), (2, .int 0), (0, .int a), (1, .int b)]) hx hb dX3_times_5 hl (by decide) rfl (fun ls hl => ?_)
  have hP : va_P E.1 classes [] _ := hP
  have hD : va_D A [] := hD
  refine lp_times B ⟨by decide, by decide⟩  (fun H locs ls hP hD hS hl => ?_) 9 0 (by omega) (by omega) _ _ _ hP hD hS (lv_sub hl [0, 3, 4, 2, 1] rfl)
  refine lv_iload_n hx hb dX3_times_62 rfl (lv_at hl 3 rfl) ?_
  have hP : va_P E.1 classes [] _ := hP
  have hD : va_D A [] := hD
  exact x_iret B hP hD hS rfl rfl dX3_times_63
