set_option maxHeartbeats 4000000 in
set_option maxRecDepth 100000 in
theorem lp_bsub {p : Program} {l : Launch} {e : Env} {R : Room} {s : State} {m : MethodId} {args : Array Value} {below : List Frame} {meth : Method} {c : Code} {cells slots : Nat} {Q : State → Prop} {E : EE} {A : Nat → Prop} {r bK bB bP bS bU bW bH bT bV bC bL bZ : Nat} {thr rdr mdr msr lcr wrr : Int32} {gU gW gT gV : Nat → Int32} {rd : Int32} (B : Bd p s m args meth c cX3_back 3 none RX3 E A) (hf : cells ≤ R.cells ∧ slots ≤ R.slots) (hs : ∀ i, i < 256 → By (gU i)) (ht : ∀ i, i < 16 → By (gT i))
    (kk : ∀ (H : Heap) (locs : List Loc) (ls : Array Slot), va_P E.1 classes [(r, .inr (3, [.int thr, .int rdr, .int mdr, .int msr, .ref bK, .ref bB, .ref bP, .ref bS, .ref bU, .ref bW, .ref bH, .ref bT, .ref bV, .ref bC, .ref bL, .int lcr, .ref bZ, .int wrr])), (bU, .inl (E.2.1, 256, .inl gU)), (bW, .inl (E.2.1, 176, .inl gW)), (bT, .inl (E.2.1, 16, .inl gT)), (bV, .inl (E.2.1, 16, .inl (unsR gU gT gV 16)))] H → va_D A [(r, .inr (3, [.int thr, .int rdr, .int mdr, .int msr, .ref bK, .ref bB, .ref bP, .ref bS, .ref bU, .ref bW, .ref bH, .ref bT, .ref bV, .ref bC, .ref bL, .int lcr, .ref bZ, .int wrr])), (bU, .inl (E.2.1, 256, .inl gU)), (bW, .inl (E.2.1, 176, .inl gW)), (bT, .inl (E.2.1, 16, .inl gT)), (bV, .inl (E.2.1, 16, .inl (unsR gU gT gV 16)))] → va_S A s.heap H locs → lv_has ls 3 [(2, .int (nI 16)), (0, .ref r), (1, .int rd)] → W p l e R s m args below meth c H locs cells slots Q (F0 m 75 ls [])) :
    ∀ (fu i : Nat), i ≤ 16 → 16 < i + fu → ∀ (H : Heap) (locs : List Loc) (ls : Array Slot), va_P E.1 classes [(r, .inr (3, [.int thr, .int rdr, .int mdr, .int msr, .ref bK, .ref bB, .ref bP, .ref bS, .ref bU, .ref bW, .ref bH, .ref bT, .ref bV, .ref bC, .ref bL, .int lcr, .ref bZ, .int wrr])), (bU, .inl (E.2.1, 256, .inl gU)), (bW, .inl (E.2.1, 176, .inl gW)), (bT, .inl (E.2.1, 16, .inl gT)), (bV, .inl (E.2.1, 16, .inl (unsR gU gT gV i)))] H → va_D A [(r, .inr (3, [.int thr, .int rdr, .int mdr, .int msr, .ref bK, .ref bB, .ref bP, .ref bS, .ref bU, .ref bW, .ref bH, .ref bT, .ref bV, .ref bC, .ref bL, .int lcr, .ref bZ, .int wrr])), (bU, .inl (E.2.1, 256, .inl gU)), (bW, .inl (E.2.1, 176, .inl gW)), (bT, .inl (E.2.1, 16, .inl gT)), (bV, .inl (E.2.1, 16, .inl (unsR gU gT gV i)))] → va_S A s.heap H locs → lv_has ls 3 [(2, .int (nI i)), (0, .ref r), (1, .int rd)] → W p l e R s m args below meth c H locs cells slots Q (F0 m 32 ls []) := by
  have hx := B.1
  have hb := B.2.1
  intro fu
  induction fu with
  | zero =>
    intro i h1 h2
    exact absurd h2 (by omega)
  | succ fu ih =>
    intro i hi hin H locs ls hP hD hS hl
    refine lv_iload_n hx hb dX3_back_32 rfl (lv_at hl 0 rfl) ?_
    refine lv_bipush (v := 16) hx hb dX3_back_33 (by decide) ?_
    refine lv_icmp_ge (tgt := 75) hx hb dX3_back_35 (by decide) (fun c_35 => ?_) (fun c_35 => ?_)
    · have hj : i = 16 := by have := ge_t (b := 16) c_35 (by omega) (by omega); omega
      subst hj
      exact kk _ _ _ hP hD hS hl
    · have hj : i < 16 := by have := ge_f (b := 16) c_35 (by omega) (by omega); omega
      refine lv_aload_n hx hb dX3_back_38 rfl (lv_at hl 1 rfl) ?_
      refine x_get B hP 0 rfl rfl i_X3 12 (by decide) g_301 rfl dX3_back_39 ?_
      refine lv_iload_n hx hb dX3_back_42 rfl (lv_at hl 0 rfl) ?_
      refine lv_iconst (v := 4) hx hb dX3_back_43 (by decide) ?_
      refine lv_idiv hx hb dX3_back_44 (by decide) ?_
      refine lv_iload_n hx hb dX3_back_45 rfl (lv_at hl 0 rfl) ?_
      refine lv_iconst (v := 4) hx hb dX3_back_46 (by decide) ?_
      refine lv_irem hx hb dX3_back_47 (by decide) ?_
      refine lv_iadd hx hb dX3_back_48 ?_
      refine lv_iconst (v := 4) hx hb dX3_back_49 (by decide) ?_
      refine lv_irem hx hb dX3_back_50 (by decide) ?_
      refine lv_iconst (v := 4) hx hb dX3_back_51 (by decide) ?_
      refine lv_imul hx hb dX3_back_52 ?_
      refine lv_iload_n hx hb dX3_back_53 rfl (lv_at hl 0 rfl) ?_
      refine lv_iconst (v := 4) hx hb dX3_back_54 (by decide) ?_
      refine lv_irem hx hb dX3_back_55 (by decide) ?_
      refine lv_iadd hx hb dX3_back_56 ?_
      refine lv_aload_n hx hb dX3_back_57 rfl (lv_at hl 1 rfl) ?_
      refine x_get B hP 0 rfl rfl i_X3 8 (by decide) g_297 rfl dX3_back_58 ?_
      refine lv_aload_n hx hb dX3_back_61 rfl (lv_at hl 1 rfl) ?_
      refine x_get B hP 0 rfl rfl i_X3 11 (by decide) g_300 rfl dX3_back_62 ?_
      refine lv_iload_n hx hb dX3_back_65 rfl (lv_at hl 0 rfl) ?_
      refine x_ald B hP 3 rfl i rfl (by omega) (by decide) dX3_back_66 ?_
      refine x_ald B hP 1 rfl ((gT i).toNatClampNeg) (((ht i (by omega))).1) (((ht i (by omega))).2) (by decide) dX3_back_67 ?_
      refine x_ast B hP hD hS 4 rfl (((((i / 4) + (i % 4)) % 4) * 4) + (i % 4)) (na_add (na_mul (na_rem (na_add (na_div rfl rfl (by omega) (by decide) (by decide)) (na_rem rfl rfl (by omega) (by decide) (by decide))) rfl (by omega) (by decide) (by decide)) rfl) (na_rem rfl rfl (by omega) (by decide) (by decide))) (by omega) (by decide) dX3_back_68 (fun H locs hP hD hS => ?_)
      have hP : va_P E.1 classes [(r, .inr (3, [.int thr, .int rdr, .int mdr, .int msr, .ref bK, .ref bB, .ref bP, .ref bS, .ref bU, .ref bW, .ref bH, .ref bT, .ref bV, .ref bC, .ref bL, .int lcr, .ref bZ, .int wrr])), (bU, .inl (E.2.1, 256, .inl gU)), (bW, .inl (E.2.1, 176, .inl gW)), (bT, .inl (E.2.1, 16, .inl gT)), (bV, .inl (E.2.1, 16, .inl (upd (unsR gU gT gV i) (((((i / 4) + (i % 4)) % 4) * 4) + (i % 4)) (gU ((gT i).toNatClampNeg)))))] _ := hP
      have hD : va_D A [(r, .inr (3, [.int thr, .int rdr, .int mdr, .int msr, .ref bK, .ref bB, .ref bP, .ref bS, .ref bU, .ref bW, .ref bH, .ref bT, .ref bV, .ref bC, .ref bL, .int lcr, .ref bZ, .int wrr])), (bU, .inl (E.2.1, 256, .inl gU)), (bW, .inl (E.2.1, 176, .inl gW)), (bT, .inl (E.2.1, 16, .inl gT)), (bV, .inl (E.2.1, 16, .inl (upd (unsR gU gT gV i) (((((i / 4) + (i % 4)) % 4) * 4) + (i % 4)) (gU ((gT i).toNatClampNeg)))))] := hD
      refine lv_iinc (v := (nI (i + 1))) (lv' := [(2, .int (nI (i + 1))), (0, .ref r), (1, .int rd)]) hx hb dX3_back_69 hl (k := 0) rfl (ii_1 i) (by decide) rfl (fun ls hl => ?_)
      refine lv_goto (tgt := 32) hx hb dX3_back_72 (by decide) ?_
      have hP : va_P E.1 classes [(r, .inr (3, [.int thr, .int rdr, .int mdr, .int msr, .ref bK, .ref bB, .ref bP, .ref bS, .ref bU, .ref bW, .ref bH, .ref bT, .ref bV, .ref bC, .ref bL, .int lcr, .ref bZ, .int wrr])), (bU, .inl (E.2.1, 256, .inl gU)), (bW, .inl (E.2.1, 176, .inl gW)), (bT, .inl (E.2.1, 16, .inl gT)), (bV, .inl (E.2.1, 16, .inl (unsR gU gT gV (i + 1))))] _ := hP
      have hD : va_D A [(r, .inr (3, [.int thr, .int rdr, .int mdr, .int msr, .ref bK, .ref bB, .ref bP, .ref bS, .ref bU, .ref bW, .ref bH, .ref bT, .ref bV, .ref bC, .ref bL, .int lcr, .ref bZ, .int wrr])), (bU, .inl (E.2.1, 256, .inl gU)), (bW, .inl (E.2.1, 176, .inl gW)), (bT, .inl (E.2.1, 16, .inl gT)), (bV, .inl (E.2.1, 16, .inl (unsR gU gT gV (i + 1))))] := hD
      exact ih (i + 1) (by omega) (by omega) _ _ _ hP hD hS (lv_sub hl [0, 1, 2] rfl)
set_option maxHeartbeats 4000000 in
set_option maxRecDepth 100000 in
theorem lp_bcp {p : Program} {l : Launch} {e : Env} {R : Room} {s : State} {m : MethodId} {args : Array Value} {below : List Frame} {meth : Method} {c : Code} {cells slots : Nat} {Q : State → Prop} {E : EE} {A : Nat → Prop} {r bK bB bP bS bU bW bH bT bV bC bL bZ : Nat} {thr rdr mdr msr lcr wrr : Int32} {gU gW gT gV : Nat → Int32} {rd : Int32} (B : Bd p s m args meth c cX3_back 3 none RX3 E A) (hf : cells ≤ R.cells ∧ slots ≤ R.slots) 
    (kk : ∀ (H : Heap) (locs : List Loc) (ls : Array Slot), va_P E.1 classes [(r, .inr (3, [.int thr, .int rdr, .int mdr, .int msr, .ref bK, .ref bB, .ref bP, .ref bS, .ref bU, .ref bW, .ref bH, .ref bT, .ref bV, .ref bC, .ref bL, .int lcr, .ref bZ, .int wrr])), (bU, .inl (E.2.1, 256, .inl gU)), (bW, .inl (E.2.1, 176, .inl gW)), (bT, .inl (E.2.1, 16, .inl (cpM gV gT 16))), (bV, .inl (E.2.1, 16, .inl gV))] H → va_D A [(r, .inr (3, [.int thr, .int rdr, .int mdr, .int msr, .ref bK, .ref bB, .ref bP, .ref bS, .ref bU, .ref bW, .ref bH, .ref bT, .ref bV, .ref bC, .ref bL, .int lcr, .ref bZ, .int wrr])), (bU, .inl (E.2.1, 256, .inl gU)), (bW, .inl (E.2.1, 176, .inl gW)), (bT, .inl (E.2.1, 16, .inl (cpM gV gT 16))), (bV, .inl (E.2.1, 16, .inl gV))] → va_S A s.heap H locs → lv_has ls 3 [(2, .int (nI 16)), (0, .ref r), (1, .int rd)] → W p l e R s m args below meth c H locs cells slots Q (F0 m 101 ls [])) :
    ∀ (fu i : Nat), i ≤ 16 → 16 < i + fu → ∀ (H : Heap) (locs : List Loc) (ls : Array Slot), va_P E.1 classes [(r, .inr (3, [.int thr, .int rdr, .int mdr, .int msr, .ref bK, .ref bB, .ref bP, .ref bS, .ref bU, .ref bW, .ref bH, .ref bT, .ref bV, .ref bC, .ref bL, .int lcr, .ref bZ, .int wrr])), (bU, .inl (E.2.1, 256, .inl gU)), (bW, .inl (E.2.1, 176, .inl gW)), (bT, .inl (E.2.1, 16, .inl (cpM gV gT i))), (bV, .inl (E.2.1, 16, .inl gV))] H → va_D A [(r, .inr (3, [.int thr, .int rdr, .int mdr, .int msr, .ref bK, .ref bB, .ref bP, .ref bS, .ref bU, .ref bW, .ref bH, .ref bT, .ref bV, .ref bC, .ref bL, .int lcr, .ref bZ, .int wrr])), (bU, .inl (E.2.1, 256, .inl gU)), (bW, .inl (E.2.1, 176, .inl gW)), (bT, .inl (E.2.1, 16, .inl (cpM gV gT i))), (bV, .inl (E.2.1, 16, .inl gV))] → va_S A s.heap H locs → lv_has ls 3 [(2, .int (nI i)), (0, .ref r), (1, .int rd)] → W p l e R s m args below meth c H locs cells slots Q (F0 m 77 ls []) := by
  have hx := B.1
  have hb := B.2.1
  intro fu
  induction fu with
  | zero =>
    intro i h1 h2
    exact absurd h2 (by omega)
  | succ fu ih =>
    intro i hi hin H locs ls hP hD hS hl
    refine lv_iload_n hx hb dX3_back_77 rfl (lv_at hl 0 rfl) ?_
    refine lv_bipush (v := 16) hx hb dX3_back_78 (by decide) ?_
    refine lv_icmp_ge (tgt := 101) hx hb dX3_back_80 (by decide) (fun c_80 => ?_) (fun c_80 => ?_)
    · have hj : i = 16 := by have := ge_t (b := 16) c_80 (by omega) (by omega); omega
      subst hj
      exact kk _ _ _ hP hD hS hl
    · have hj : i < 16 := by have := ge_f (b := 16) c_80 (by omega) (by omega); omega
      refine lv_aload_n hx hb dX3_back_83 rfl (lv_at hl 1 rfl) ?_
      refine x_get B hP 0 rfl rfl i_X3 11 (by decide) g_300 rfl dX3_back_84 ?_
      refine lv_iload_n hx hb dX3_back_87 rfl (lv_at hl 0 rfl) ?_
      refine lv_aload_n hx hb dX3_back_88 rfl (lv_at hl 1 rfl) ?_
      refine x_get B hP 0 rfl rfl i_X3 12 (by decide) g_301 rfl dX3_back_89 ?_
      refine lv_iload_n hx hb dX3_back_92 rfl (lv_at hl 0 rfl) ?_
      refine x_ald B hP 4 rfl i rfl (by omega) (by decide) dX3_back_93 ?_
      refine x_ast B hP hD hS 3 rfl i rfl (by omega) (by decide) dX3_back_94 (fun H locs hP hD hS => ?_)
      have hP : va_P E.1 classes [(r, .inr (3, [.int thr, .int rdr, .int mdr, .int msr, .ref bK, .ref bB, .ref bP, .ref bS, .ref bU, .ref bW, .ref bH, .ref bT, .ref bV, .ref bC, .ref bL, .int lcr, .ref bZ, .int wrr])), (bU, .inl (E.2.1, 256, .inl gU)), (bW, .inl (E.2.1, 176, .inl gW)), (bT, .inl (E.2.1, 16, .inl (upd (cpM gV gT i) i (gV i)))), (bV, .inl (E.2.1, 16, .inl gV))] _ := hP
      have hD : va_D A [(r, .inr (3, [.int thr, .int rdr, .int mdr, .int msr, .ref bK, .ref bB, .ref bP, .ref bS, .ref bU, .ref bW, .ref bH, .ref bT, .ref bV, .ref bC, .ref bL, .int lcr, .ref bZ, .int wrr])), (bU, .inl (E.2.1, 256, .inl gU)), (bW, .inl (E.2.1, 176, .inl gW)), (bT, .inl (E.2.1, 16, .inl (upd (cpM gV gT i) i (gV i)))), (bV, .inl (E.2.1, 16, .inl gV))] := hD
      refine lv_iinc (v := (nI (i + 1))) (lv' := [(2, .int (nI (i + 1))), (0, .ref r), (1, .int rd)]) hx hb dX3_back_95 hl (k := 0) rfl (ii_1 i) (by decide) rfl (fun ls hl => ?_)
      refine lv_goto (tgt := 77) hx hb dX3_back_98 (by decide) ?_
      have hP : va_P E.1 classes [(r, .inr (3, [.int thr, .int rdr, .int mdr, .int msr, .ref bK, .ref bB, .ref bP, .ref bS, .ref bU, .ref bW, .ref bH, .ref bT, .ref bV, .ref bC, .ref bL, .int lcr, .ref bZ, .int wrr])), (bU, .inl (E.2.1, 256, .inl gU)), (bW, .inl (E.2.1, 176, .inl gW)), (bT, .inl (E.2.1, 16, .inl (cpM gV gT (i + 1)))), (bV, .inl (E.2.1, 16, .inl gV))] _ := hP
      have hD : va_D A [(r, .inr (3, [.int thr, .int rdr, .int mdr, .int msr, .ref bK, .ref bB, .ref bP, .ref bS, .ref bU, .ref bW, .ref bH, .ref bT, .ref bV, .ref bC, .ref bL, .int lcr, .ref bZ, .int wrr])), (bU, .inl (E.2.1, 256, .inl gU)), (bW, .inl (E.2.1, 176, .inl gW)), (bT, .inl (E.2.1, 16, .inl (cpM gV gT (i + 1)))), (bV, .inl (E.2.1, 16, .inl gV))] := hD
      exact ih (i + 1) (by omega) (by omega) _ _ _ hP hD hS (lv_sub hl [0, 1, 2] rfl)
theorem nI_le0 {n : Nat} (h : nI n ≤ 0) (hn : n < 2 ^ 31) : n = 0 := by
  have := ge_t (a := 0) (b := n) h (by decide) hn
  omega
set_option maxHeartbeats 4000000 in
set_option maxRecDepth 100000 in
theorem lp_rback {p : Program} {l : Launch} {e : Env} {R : Room} {s : State} {m : MethodId} {args : Array Value} {below : List Frame} {meth : Method} {c : Code} {cells slots : Nat} {Q : State → Prop} {E : EE} {A : Nat → Prop} {r bK bB bP bS bU bW bH bT bV bC bL bZ : Nat} {thr rdr mdr msr lcr wrr : Int32} {gU gW gT gV : Nat → Int32} (B : Bd p s m args meth c cX3_back 3 none RX3 E A) (hf : cells ≤ R.cells ∧ slots ≤ R.slots) (hR : 2 ≤ R.frames ∧ 50 ≤ R.locals) (hu : ∀ i, i < 256 → By (gU i)) (hw : ∀ i, i < 176 → By (gW i)) (ht : ∀ i, i < 16 → By (gT i)) (hv : ∀ i, i < 16 → By (gV i))
    (kk : ∀ (H : Heap) (locs : List Loc) (ls : Array Slot), va_P E.1 classes [(r, .inr (3, [.int thr, .int rdr, .int mdr, .int msr, .ref bK, .ref bB, .ref bP, .ref bS, .ref bU, .ref bW, .ref bH, .ref bT, .ref bV, .ref bC, .ref bL, .int lcr, .ref bZ, .int wrr])), (bU, .inl (E.2.1, 256, .inl gU)), (bW, .inl (E.2.1, 176, .inl gW)), (bT, .inl (E.2.1, 16, .inl ((bckR gU gW gT gV 10).1))), (bV, .inl (E.2.1, 16, .inl ((bckR gU gW gT gV 10).2)))] H → va_D A [(r, .inr (3, [.int thr, .int rdr, .int mdr, .int msr, .ref bK, .ref bB, .ref bP, .ref bS, .ref bU, .ref bW, .ref bH, .ref bT, .ref bV, .ref bC, .ref bL, .int lcr, .ref bZ, .int wrr])), (bU, .inl (E.2.1, 256, .inl gU)), (bW, .inl (E.2.1, 176, .inl gW)), (bT, .inl (E.2.1, 16, .inl ((bckR gU gW gT gV 10).1))), (bV, .inl (E.2.1, 16, .inl ((bckR gU gW gT gV 10).2)))] → va_S A s.heap H locs → lv_has ls 3 [(1, .int (nI (10 - 10))), (0, .ref r)] → W p l e R s m args below meth c H locs cells slots Q (F0 m 107 ls [])) :
    ∀ (fu i : Nat), i ≤ 10 → 10 < i + fu → ∀ (H : Heap) (locs : List Loc) (ls : Array Slot), va_P E.1 classes [(r, .inr (3, [.int thr, .int rdr, .int mdr, .int msr, .ref bK, .ref bB, .ref bP, .ref bS, .ref bU, .ref bW, .ref bH, .ref bT, .ref bV, .ref bC, .ref bL, .int lcr, .ref bZ, .int wrr])), (bU, .inl (E.2.1, 256, .inl gU)), (bW, .inl (E.2.1, 176, .inl gW)), (bT, .inl (E.2.1, 16, .inl ((bckR gU gW gT gV i).1))), (bV, .inl (E.2.1, 16, .inl ((bckR gU gW gT gV i).2)))] H → va_D A [(r, .inr (3, [.int thr, .int rdr, .int mdr, .int msr, .ref bK, .ref bB, .ref bP, .ref bS, .ref bU, .ref bW, .ref bH, .ref bT, .ref bV, .ref bC, .ref bL, .int lcr, .ref bZ, .int wrr])), (bU, .inl (E.2.1, 256, .inl gU)), (bW, .inl (E.2.1, 176, .inl gW)), (bT, .inl (E.2.1, 16, .inl ((bckR gU gW gT gV i).1))), (bV, .inl (E.2.1, 16, .inl ((bckR gU gW gT gV i).2)))] → va_S A s.heap H locs → lv_has ls 3 [(1, .int (nI (10 - i))), (0, .ref r)] → W p l e R s m args below meth c H locs cells slots Q (F0 m 3 ls []) := by
  have hx := B.1
  have hb := B.2.1
  intro fu
  induction fu with
  | zero =>
    intro i h1 h2
    exact absurd h2 (by omega)
  | succ fu ih =>
    intro i hi hin H locs ls hP hD hS hl
    refine lv_iload_n hx hb dX3_back_3 rfl (lv_at hl 0 rfl) ?_
    refine lv_if_le (tgt := 107) hx hb dX3_back_4 (by decide) (fun c_4 => ?_) (fun c_4 => ?_)
    · have hj : i = 10 := by have := nI_le0 c_4 (by omega); omega
      subst hj
      exact kk _ _ _ hP hD hS hl
    · have hj : i < 10 := by have := (show ¬ 10 - i = 0 from fun h => c_4 (by rw [h]; decide)); omega
      refine lv_aload_n hx hb dX3_back_7 rfl (lv_at hl 1 rfl) ?_
      refine lv_iload_n hx hb dX3_back_8 rfl (lv_at hl 0 rfl) ?_
      refine x_Vv (wr := [(bU, .inl (E.2.1, 256, .inl gU)), (bV, .inl (E.2.1, 16, .inl ((bckR gU gW gT gV i).2)))]) (isC := [0, 2, 3]) (isR := [1, 4]) (As := [.int (nI (10 - i))]) B (c_X3_add l E r bK bB bP bS bU bW bH bT bV bC bL bZ thr rdr mdr msr lcr wrr gW ((bckR gU gW gT gV i).1) (10 - i) (nI (10 - i)) rfl (by omega)) k_X3_add g_368 s_X3_add ⟨Nat.le_trans (by decide) hR.1, Nat.le_trans (by decide) hR.2, rfl, rfl⟩ rfl 0 rfl hP hD hS ⟨rfl, rfl, rfl, rfl, by decide⟩ rfl hl.1 rfl (Nat.le_of_ble_eq_true rfl) dX3_back_9 hf (fun H locs hP hD hS => ?_)
      have hP : va_P E.1 classes [(bU, .inl (E.2.1, 256, .inl gU)), (bV, .inl (E.2.1, 16, .inl ((bckR gU gW gT gV i).2))), (r, .inr (3, [.int thr, .int rdr, .int mdr, .int msr, .ref bK, .ref bB, .ref bP, .ref bS, .ref bU, .ref bW, .ref bH, .ref bT, .ref bV, .ref bC, .ref bL, .int lcr, .ref bZ, .int wrr])), (bW, .inl (E.2.1, 176, .inl gW)), (bT, .inl (E.2.1, 16, .inl (xorM gW (16 * (10 - i)) ((bckR gU gW gT gV i).1) 16)))] _ := hP
      have hD : va_D A [(bU, .inl (E.2.1, 256, .inl gU)), (bV, .inl (E.2.1, 16, .inl ((bckR gU gW gT gV i).2))), (r, .inr (3, [.int thr, .int rdr, .int mdr, .int msr, .ref bK, .ref bB, .ref bP, .ref bS, .ref bU, .ref bW, .ref bH, .ref bT, .ref bV, .ref bC, .ref bL, .int lcr, .ref bZ, .int wrr])), (bW, .inl (E.2.1, 176, .inl gW)), (bT, .inl (E.2.1, 16, .inl (xorM gW (16 * (10 - i)) ((bckR gU gW gT gV i).1) 16)))] := hD
      refine lv_iload_n hx hb dX3_back_12 rfl (lv_at hl 0 rfl) ?_
      refine lv_bipush (v := 10) hx hb dX3_back_13 (by decide) ?_
      refine lv_icmp_ge (tgt := 30) hx hb dX3_back_15 (by decide) (fun c_15 => ?_) (fun c_15 => ?_)
      · refine lv_iconst (v := 0) hx hb dX3_back_30 (by decide) ?_
        refine lv_istore_n (lv' := [(2, .int 0), (1, .int (nI (10 - i))), (0, .ref r)]) hx hb dX3_back_31 rfl hl (by decide) rfl (fun ls hl => ?_)
        have hP := hP.sub (ws' := [(r, .inr (3, [.int thr, .int rdr, .int mdr, .int msr, .ref bK, .ref bB, .ref bP, .ref bS, .ref bU, .ref bW, .ref bH, .ref bT, .ref bV, .ref bC, .ref bL, .int lcr, .ref bZ, .int wrr])), (bU, .inl (E.2.1, 256, .inl gU)), (bW, .inl (E.2.1, 176, .inl gW)), (bT, .inl (E.2.1, 16, .inl (xorM gW (16 * (10 - i)) ((bckR gU gW gT gV i).1) 16))), (bV, .inl (E.2.1, 16, .inl ((bckR gU gW gT gV i).2)))]) [2, 0, 3, 4, 1] rfl
        have hD := hD.sub (ws' := [(r, .inr (3, [.int thr, .int rdr, .int mdr, .int msr, .ref bK, .ref bB, .ref bP, .ref bS, .ref bU, .ref bW, .ref bH, .ref bT, .ref bV, .ref bC, .ref bL, .int lcr, .ref bZ, .int wrr])), (bU, .inl (E.2.1, 256, .inl gU)), (bW, .inl (E.2.1, 176, .inl gW)), (bT, .inl (E.2.1, 16, .inl (xorM gW (16 * (10 - i)) ((bckR gU gW gT gV i).1) 16))), (bV, .inl (E.2.1, 16, .inl ((bckR gU gW gT gV i).2)))]) [2, 0, 3, 4, 1] (by decide) rfl
        have hP : va_P E.1 classes [(r, .inr (3, [.int thr, .int rdr, .int mdr, .int msr, .ref bK, .ref bB, .ref bP, .ref bS, .ref bU, .ref bW, .ref bH, .ref bT, .ref bV, .ref bC, .ref bL, .int lcr, .ref bZ, .int wrr])), (bU, .inl (E.2.1, 256, .inl gU)), (bW, .inl (E.2.1, 176, .inl gW)), (bT, .inl (E.2.1, 16, .inl ((xorM gW (16 * (10 - i)) (bckR gU gW gT gV i).1 16, (bckR gU gW gT gV i).2).1))), (bV, .inl (E.2.1, 16, .inl ((xorM gW (16 * (10 - i)) (bckR gU gW gT gV i).1 16, (bckR gU gW gT gV i).2).2)))] _ := hP
        have hD : va_D A [(r, .inr (3, [.int thr, .int rdr, .int mdr, .int msr, .ref bK, .ref bB, .ref bP, .ref bS, .ref bU, .ref bW, .ref bH, .ref bT, .ref bV, .ref bC, .ref bL, .int lcr, .ref bZ, .int wrr])), (bU, .inl (E.2.1, 256, .inl gU)), (bW, .inl (E.2.1, 176, .inl gW)), (bT, .inl (E.2.1, 16, .inl ((xorM gW (16 * (10 - i)) (bckR gU gW gT gV i).1 16, (bckR gU gW gT gV i).2).1))), (bV, .inl (E.2.1, 16, .inl ((xorM gW (16 * (10 - i)) (bckR gU gW gT gV i).1 16, (bckR gU gW gT gV i).2).2)))] := hD
        refine lp_bsub B hf hu (⟨xorM_by hw (bckR_by hu hw ht hv i (by omega)).1 16 (by decide) (by omega), (bckR_by hu hw ht hv i (by omega)).2⟩ : B2 (xorM gW (16 * (10 - i)) (bckR gU gW gT gV i).1 16, (bckR gU gW gT gV i).2)).1 (fun H locs ls hP hD hS hl => ?_) 17 0 (by omega) (by omega) _ _ _ hP hD hS (lv_sub hl [0, 2, 1] rfl)
        refine lv_iconst (v := 0) hx hb dX3_back_75 (by decide) ?_
        refine lv_istore_n (lv' := [(2, .int 0), (0, .ref r), (1, .int (nI (10 - i)))]) hx hb dX3_back_76 rfl hl (by decide) rfl (fun ls hl => ?_)
        refine lp_bcp B hf (fun H locs ls hP hD hS hl => ?_) 17 0 (by omega) (by omega) _ _ _ hP hD hS (lv_sub hl [0, 1, 2] rfl)
        have hP : va_P E.1 classes [(r, .inr (3, [.int thr, .int rdr, .int mdr, .int msr, .ref bK, .ref bB, .ref bP, .ref bS, .ref bU, .ref bW, .ref bH, .ref bT, .ref bV, .ref bC, .ref bL, .int lcr, .ref bZ, .int wrr])), (bU, .inl (E.2.1, 256, .inl gU)), (bW, .inl (E.2.1, 176, .inl gW)), (bT, .inl (E.2.1, 16, .inl ((unsP gU (xorM gW (16 * (10 - i)) (bckR gU gW gT gV i).1 16, (bckR gU gW gT gV i).2)).1))), (bV, .inl (E.2.1, 16, .inl ((unsP gU (xorM gW (16 * (10 - i)) (bckR gU gW gT gV i).1 16, (bckR gU gW gT gV i).2)).2)))] _ := hP
        have hD : va_D A [(r, .inr (3, [.int thr, .int rdr, .int mdr, .int msr, .ref bK, .ref bB, .ref bP, .ref bS, .ref bU, .ref bW, .ref bH, .ref bT, .ref bV, .ref bC, .ref bL, .int lcr, .ref bZ, .int wrr])), (bU, .inl (E.2.1, 256, .inl gU)), (bW, .inl (E.2.1, 176, .inl gW)), (bT, .inl (E.2.1, 16, .inl ((unsP gU (xorM gW (16 * (10 - i)) (bckR gU gW gT gV i).1 16, (bckR gU gW gT gV i).2)).1))), (bV, .inl (E.2.1, 16, .inl ((unsP gU (xorM gW (16 * (10 - i)) (bckR gU gW gT gV i).1 16, (bckR gU gW gT gV i).2)).2)))] := hD
        refine lv_iinc (v := (nI (10 - (i + 1)))) (lv' := [(1, .int (nI (10 - (i + 1)))), (2, .int (nI 16)), (0, .ref r)]) hx hb dX3_back_101 hl (k := 2) rfl (dn_10 hj) (by decide) rfl (fun ls hl => ?_)
        refine lv_goto (tgt := 3) hx hb dX3_back_104 (by decide) ?_
        have hk : ¬ 10 - i < 10 := by have := ge_t (b := 10) c_15 (by omega) (by omega); omega
        have eF : bckR gU gW gT gV (i + 1) = unsP gU (xorM gW (16 * (10 - i)) (bckR gU gW gT gV i).1 16, (bckR gU gW gT gV i).2) := by
          show unsP gU (mxP (10 - i < 10) 14 11 13 9 (xorM gW (16 * (10 - i)) (bckR gU gW gT gV i).1 16, (bckR gU gW gT gV i).2)) = _
          unfold mxP
          rw [if_neg hk]
        have hP : va_P E.1 classes [(r, .inr (3, [.int thr, .int rdr, .int mdr, .int msr, .ref bK, .ref bB, .ref bP, .ref bS, .ref bU, .ref bW, .ref bH, .ref bT, .ref bV, .ref bC, .ref bL, .int lcr, .ref bZ, .int wrr])), (bU, .inl (E.2.1, 256, .inl gU)), (bW, .inl (E.2.1, 176, .inl gW)), (bT, .inl (E.2.1, 16, .inl ((bckR gU gW gT gV (i + 1)).1))), (bV, .inl (E.2.1, 16, .inl ((bckR gU gW gT gV (i + 1)).2)))] _ := (by rw [eF]; exact hP)
        have hD : va_D A [(r, .inr (3, [.int thr, .int rdr, .int mdr, .int msr, .ref bK, .ref bB, .ref bP, .ref bS, .ref bU, .ref bW, .ref bH, .ref bT, .ref bV, .ref bC, .ref bL, .int lcr, .ref bZ, .int wrr])), (bU, .inl (E.2.1, 256, .inl gU)), (bW, .inl (E.2.1, 176, .inl gW)), (bT, .inl (E.2.1, 16, .inl ((bckR gU gW gT gV (i + 1)).1))), (bV, .inl (E.2.1, 16, .inl ((bckR gU gW gT gV (i + 1)).2)))] := (by rw [eF]; exact hD)
        exact ih (i + 1) (by omega) (by omega) _ _ _ hP hD hS (lv_sub hl [0, 2] rfl)
      · refine lv_aload_n hx hb dX3_back_18 rfl (lv_at hl 1 rfl) ?_
        refine lv_bipush (v := 14) hx hb dX3_back_19 (by decide) ?_
        refine lv_bipush (v := 11) hx hb dX3_back_21 (by decide) ?_
        refine lv_bipush (v := 13) hx hb dX3_back_23 (by decide) ?_
        refine lv_bipush (v := 9) hx hb dX3_back_25 (by decide) ?_
        refine x_Vv (wr := [(bU, .inl (E.2.1, 256, .inl gU)), (bW, .inl (E.2.1, 176, .inl gW))]) (isC := [2, 4, 1]) (isR := [0, 3]) (As := [.int 14, .int 11, .int 13, .int 9]) B (c_X3_columns l E r bK bB bP bS bU bW bH bT bV bC bL bZ thr rdr mdr msr lcr wrr (xorM gW (16 * (10 - i)) ((bckR gU gW gT gV i).1) 16) ((bckR gU gW gT gV i).2) 14 11 13 9) k_X3_columns g_372 s_X3_columns ⟨Nat.le_trans (by decide) hR.1, Nat.le_trans (by decide) hR.2, rfl, rfl⟩ rfl 2 rfl hP hD hS ⟨rfl, rfl, rfl, rfl, by decide⟩ rfl hl.1 rfl (Nat.le_of_ble_eq_true rfl) dX3_back_27 hf (fun H locs hP hD hS => ?_)
        have hP : va_P E.1 classes [(bU, .inl (E.2.1, 256, .inl gU)), (bW, .inl (E.2.1, 176, .inl gW)), (r, .inr (3, [.int thr, .int rdr, .int mdr, .int msr, .ref bK, .ref bB, .ref bP, .ref bS, .ref bU, .ref bW, .ref bH, .ref bT, .ref bV, .ref bC, .ref bL, .int lcr, .ref bZ, .int wrr])), (bT, .inl (E.2.1, 16, .inl ((colW 14 11 13 9 (xorM gW (16 * (10 - i)) ((bckR gU gW gT gV i).1) 16) ((bckR gU gW gT gV i).2)).1))), (bV, .inl (E.2.1, 16, .inl ((colW 14 11 13 9 (xorM gW (16 * (10 - i)) ((bckR gU gW gT gV i).1) 16) ((bckR gU gW gT gV i).2)).2)))] _ := hP
        have hD : va_D A [(bU, .inl (E.2.1, 256, .inl gU)), (bW, .inl (E.2.1, 176, .inl gW)), (r, .inr (3, [.int thr, .int rdr, .int mdr, .int msr, .ref bK, .ref bB, .ref bP, .ref bS, .ref bU, .ref bW, .ref bH, .ref bT, .ref bV, .ref bC, .ref bL, .int lcr, .ref bZ, .int wrr])), (bT, .inl (E.2.1, 16, .inl ((colW 14 11 13 9 (xorM gW (16 * (10 - i)) ((bckR gU gW gT gV i).1) 16) ((bckR gU gW gT gV i).2)).1))), (bV, .inl (E.2.1, 16, .inl ((colW 14 11 13 9 (xorM gW (16 * (10 - i)) ((bckR gU gW gT gV i).1) 16) ((bckR gU gW gT gV i).2)).2)))] := hD
        refine lv_iconst (v := 0) hx hb dX3_back_30 (by decide) ?_
        refine lv_istore_n (lv' := [(2, .int 0), (1, .int (nI (10 - i))), (0, .ref r)]) hx hb dX3_back_31 rfl hl (by decide) rfl (fun ls hl => ?_)
        have hP := hP.sub (ws' := [(r, .inr (3, [.int thr, .int rdr, .int mdr, .int msr, .ref bK, .ref bB, .ref bP, .ref bS, .ref bU, .ref bW, .ref bH, .ref bT, .ref bV, .ref bC, .ref bL, .int lcr, .ref bZ, .int wrr])), (bU, .inl (E.2.1, 256, .inl gU)), (bW, .inl (E.2.1, 176, .inl gW)), (bT, .inl (E.2.1, 16, .inl ((colW 14 11 13 9 (xorM gW (16 * (10 - i)) ((bckR gU gW gT gV i).1) 16) ((bckR gU gW gT gV i).2)).1))), (bV, .inl (E.2.1, 16, .inl ((colW 14 11 13 9 (xorM gW (16 * (10 - i)) ((bckR gU gW gT gV i).1) 16) ((bckR gU gW gT gV i).2)).2)))]) [2, 0, 1, 3, 4] rfl
        have hD := hD.sub (ws' := [(r, .inr (3, [.int thr, .int rdr, .int mdr, .int msr, .ref bK, .ref bB, .ref bP, .ref bS, .ref bU, .ref bW, .ref bH, .ref bT, .ref bV, .ref bC, .ref bL, .int lcr, .ref bZ, .int wrr])), (bU, .inl (E.2.1, 256, .inl gU)), (bW, .inl (E.2.1, 176, .inl gW)), (bT, .inl (E.2.1, 16, .inl ((colW 14 11 13 9 (xorM gW (16 * (10 - i)) ((bckR gU gW gT gV i).1) 16) ((bckR gU gW gT gV i).2)).1))), (bV, .inl (E.2.1, 16, .inl ((colW 14 11 13 9 (xorM gW (16 * (10 - i)) ((bckR gU gW gT gV i).1) 16) ((bckR gU gW gT gV i).2)).2)))]) [2, 0, 1, 3, 4] (by decide) rfl
        have hP : va_P E.1 classes [(r, .inr (3, [.int thr, .int rdr, .int mdr, .int msr, .ref bK, .ref bB, .ref bP, .ref bS, .ref bU, .ref bW, .ref bH, .ref bT, .ref bV, .ref bC, .ref bL, .int lcr, .ref bZ, .int wrr])), (bU, .inl (E.2.1, 256, .inl gU)), (bW, .inl (E.2.1, 176, .inl gW)), (bT, .inl (E.2.1, 16, .inl ((colW 14 11 13 9 (xorM gW (16 * (10 - i)) (bckR gU gW gT gV i).1 16, (bckR gU gW gT gV i).2).1 (xorM gW (16 * (10 - i)) (bckR gU gW gT gV i).1 16, (bckR gU gW gT gV i).2).2).1))), (bV, .inl (E.2.1, 16, .inl ((colW 14 11 13 9 (xorM gW (16 * (10 - i)) (bckR gU gW gT gV i).1 16, (bckR gU gW gT gV i).2).1 (xorM gW (16 * (10 - i)) (bckR gU gW gT gV i).1 16, (bckR gU gW gT gV i).2).2).2)))] _ := hP
        have hD : va_D A [(r, .inr (3, [.int thr, .int rdr, .int mdr, .int msr, .ref bK, .ref bB, .ref bP, .ref bS, .ref bU, .ref bW, .ref bH, .ref bT, .ref bV, .ref bC, .ref bL, .int lcr, .ref bZ, .int wrr])), (bU, .inl (E.2.1, 256, .inl gU)), (bW, .inl (E.2.1, 176, .inl gW)), (bT, .inl (E.2.1, 16, .inl ((colW 14 11 13 9 (xorM gW (16 * (10 - i)) (bckR gU gW gT gV i).1 16, (bckR gU gW gT gV i).2).1 (xorM gW (16 * (10 - i)) (bckR gU gW gT gV i).1 16, (bckR gU gW gT gV i).2).2).1))), (bV, .inl (E.2.1, 16, .inl ((colW 14 11 13 9 (xorM gW (16 * (10 - i)) (bckR gU gW gT gV i).1 16, (bckR gU gW gT gV i).2).1 (xorM gW (16 * (10 - i)) (bckR gU gW gT gV i).1 16, (bckR gU gW gT gV i).2).2).2)))] := hD
        refine lp_bsub B hf hu (colW_by (⟨xorM_by hw (bckR_by hu hw ht hv i (by omega)).1 16 (by decide) (by omega), (bckR_by hu hw ht hv i (by omega)).2⟩ : B2 (xorM gW (16 * (10 - i)) (bckR gU gW gT gV i).1 16, (bckR gU gW gT gV i).2)).1 (⟨xorM_by hw (bckR_by hu hw ht hv i (by omega)).1 16 (by decide) (by omega), (bckR_by hu hw ht hv i (by omega)).2⟩ : B2 (xorM gW (16 * (10 - i)) (bckR gU gW gT gV i).1 16, (bckR gU gW gT gV i).2)).2).1 (fun H locs ls hP hD hS hl => ?_) 17 0 (by omega) (by omega) _ _ _ hP hD hS (lv_sub hl [0, 2, 1] rfl)
        refine lv_iconst (v := 0) hx hb dX3_back_75 (by decide) ?_
        refine lv_istore_n (lv' := [(2, .int 0), (0, .ref r), (1, .int (nI (10 - i)))]) hx hb dX3_back_76 rfl hl (by decide) rfl (fun ls hl => ?_)
        refine lp_bcp B hf (fun H locs ls hP hD hS hl => ?_) 17 0 (by omega) (by omega) _ _ _ hP hD hS (lv_sub hl [0, 1, 2] rfl)
        have hP : va_P E.1 classes [(r, .inr (3, [.int thr, .int rdr, .int mdr, .int msr, .ref bK, .ref bB, .ref bP, .ref bS, .ref bU, .ref bW, .ref bH, .ref bT, .ref bV, .ref bC, .ref bL, .int lcr, .ref bZ, .int wrr])), (bU, .inl (E.2.1, 256, .inl gU)), (bW, .inl (E.2.1, 176, .inl gW)), (bT, .inl (E.2.1, 16, .inl ((unsP gU (colW 14 11 13 9 (xorM gW (16 * (10 - i)) (bckR gU gW gT gV i).1 16, (bckR gU gW gT gV i).2).1 (xorM gW (16 * (10 - i)) (bckR gU gW gT gV i).1 16, (bckR gU gW gT gV i).2).2)).1))), (bV, .inl (E.2.1, 16, .inl ((unsP gU (colW 14 11 13 9 (xorM gW (16 * (10 - i)) (bckR gU gW gT gV i).1 16, (bckR gU gW gT gV i).2).1 (xorM gW (16 * (10 - i)) (bckR gU gW gT gV i).1 16, (bckR gU gW gT gV i).2).2)).2)))] _ := hP
        have hD : va_D A [(r, .inr (3, [.int thr, .int rdr, .int mdr, .int msr, .ref bK, .ref bB, .ref bP, .ref bS, .ref bU, .ref bW, .ref bH, .ref bT, .ref bV, .ref bC, .ref bL, .int lcr, .ref bZ, .int wrr])), (bU, .inl (E.2.1, 256, .inl gU)), (bW, .inl (E.2.1, 176, .inl gW)), (bT, .inl (E.2.1, 16, .inl ((unsP gU (colW 14 11 13 9 (xorM gW (16 * (10 - i)) (bckR gU gW gT gV i).1 16, (bckR gU gW gT gV i).2).1 (xorM gW (16 * (10 - i)) (bckR gU gW gT gV i).1 16, (bckR gU gW gT gV i).2).2)).1))), (bV, .inl (E.2.1, 16, .inl ((unsP gU (colW 14 11 13 9 (xorM gW (16 * (10 - i)) (bckR gU gW gT gV i).1 16, (bckR gU gW gT gV i).2).1 (xorM gW (16 * (10 - i)) (bckR gU gW gT gV i).1 16, (bckR gU gW gT gV i).2).2)).2)))] := hD
        refine lv_iinc (v := (nI (10 - (i + 1)))) (lv' := [(1, .int (nI (10 - (i + 1)))), (2, .int (nI 16)), (0, .ref r)]) hx hb dX3_back_101 hl (k := 2) rfl (dn_10 hj) (by decide) rfl (fun ls hl => ?_)
        refine lv_goto (tgt := 3) hx hb dX3_back_104 (by decide) ?_
        have hk : 10 - i < 10 := by have := ge_f (b := 10) c_15 (by omega) (by omega); omega
        have eF : bckR gU gW gT gV (i + 1) = unsP gU (colW 14 11 13 9 (xorM gW (16 * (10 - i)) (bckR gU gW gT gV i).1 16, (bckR gU gW gT gV i).2).1 (xorM gW (16 * (10 - i)) (bckR gU gW gT gV i).1 16, (bckR gU gW gT gV i).2).2) := by
          show unsP gU (mxP (10 - i < 10) 14 11 13 9 (xorM gW (16 * (10 - i)) (bckR gU gW gT gV i).1 16, (bckR gU gW gT gV i).2)) = _
          unfold mxP
          rw [if_pos hk]
        have hP : va_P E.1 classes [(r, .inr (3, [.int thr, .int rdr, .int mdr, .int msr, .ref bK, .ref bB, .ref bP, .ref bS, .ref bU, .ref bW, .ref bH, .ref bT, .ref bV, .ref bC, .ref bL, .int lcr, .ref bZ, .int wrr])), (bU, .inl (E.2.1, 256, .inl gU)), (bW, .inl (E.2.1, 176, .inl gW)), (bT, .inl (E.2.1, 16, .inl ((bckR gU gW gT gV (i + 1)).1))), (bV, .inl (E.2.1, 16, .inl ((bckR gU gW gT gV (i + 1)).2)))] _ := (by rw [eF]; exact hP)
        have hD : va_D A [(r, .inr (3, [.int thr, .int rdr, .int mdr, .int msr, .ref bK, .ref bB, .ref bP, .ref bS, .ref bU, .ref bW, .ref bH, .ref bT, .ref bV, .ref bC, .ref bL, .int lcr, .ref bZ, .int wrr])), (bU, .inl (E.2.1, 256, .inl gU)), (bW, .inl (E.2.1, 176, .inl gW)), (bT, .inl (E.2.1, 16, .inl ((bckR gU gW gT gV (i + 1)).1))), (bV, .inl (E.2.1, 16, .inl ((bckR gU gW gT gV (i + 1)).2)))] := (by rw [eF]; exact hD)
        exact ih (i + 1) (by omega) (by omega) _ _ _ hP hD hS (lv_sub hl [0, 2] rfl)
set_option maxHeartbeats 4000000 in
set_option maxRecDepth 100000 in
/-- the reference: back -/
theorem c_X3_back (l : Launch) (E : EE) (r bK bB bP bS bU bW bH bT bV bC bL bZ : Nat) (thr rdr mdr msr lcr wrr : Int32) (gU gW gT gV : Nat → Int32) (hu : ∀ i, i < 256 → By (gU i)) (hw : ∀ i, i < 176 → By (gW i)) (ht : ∀ i, i < 16 → By (gT i)) (hv : ∀ i, i < 16 → By (gV i)) : Cv l yX3_back (.code yX3_back cX3_back 3 none) ({ frames := 2, cells := 0, slots := 0, locals := 50 }) E [.ref r] [(r, .inr (3, [.int thr, .int rdr, .int mdr, .int msr, .ref bK, .ref bB, .ref bP, .ref bS, .ref bU, .ref bW, .ref bH, .ref bT, .ref bV, .ref bC, .ref bL, .int lcr, .ref bZ, .int wrr])), (bU, .inl (E.2.1, 256, .inl gU)), (bW, .inl (E.2.1, 176, .inl gW)), (bT, .inl (E.2.1, 16, .inl gT)), (bV, .inl (E.2.1, 16, .inl gV))] [(r, .inr (3, [.int thr, .int rdr, .int mdr, .int msr, .ref bK, .ref bB, .ref bP, .ref bS, .ref bU, .ref bW, .ref bH, .ref bT, .ref bV, .ref bC, .ref bL, .int lcr, .ref bZ, .int wrr])), (bU, .inl (E.2.1, 256, .inl gU)), (bW, .inl (E.2.1, 176, .inl gW)), (bT, .inl (E.2.1, 16, .inl (bckX gU gW gT gV))), (bV, .inl (E.2.1, 16, .inl ((bckR gU gW gT gV 10).2)))] := by
  refine Cv.of (by decide) (Nat.le_of_ble_eq_true rfl) ?_
  intro p e s m below meth c A ls B hP hD hS hl
  have hl : lv_has ls 3 [(0, .ref r)] := hl
  have B : Bd p s m _ meth c cX3_back 3 none RX3 E A := B
  have hx := B.1
  have hb := B.2.1
  have hP : va_P E.1 classes [(r, .inr (3, [.int thr, .int rdr, .int mdr, .int msr, .ref bK, .ref bB, .ref bP, .ref bS, .ref bU, .ref bW, .ref bH, .ref bT, .ref bV, .ref bC, .ref bL, .int lcr, .ref bZ, .int wrr])), (bU, .inl (E.2.1, 256, .inl gU)), (bW, .inl (E.2.1, 176, .inl gW)), (bT, .inl (E.2.1, 16, .inl gT)), (bV, .inl (E.2.1, 16, .inl gV))] _ := hP
  have hD : va_D A [(r, .inr (3, [.int thr, .int rdr, .int mdr, .int msr, .ref bK, .ref bB, .ref bP, .ref bS, .ref bU, .ref bW, .ref bH, .ref bT, .ref bV, .ref bC, .ref bL, .int lcr, .ref bZ, .int wrr])), (bU, .inl (E.2.1, 256, .inl gU)), (bW, .inl (E.2.1, 176, .inl gW)), (bT, .inl (E.2.1, 16, .inl gT)), (bV, .inl (E.2.1, 16, .inl gV))] := hD
  refine lv_bipush (v := 10) hx hb dX3_back_0 (by decide) ?_
  refine lv_istore_n (lv' := [(1, .int 10), (0, .ref r)]) hx hb dX3_back_2 rfl hl (by decide) rfl (fun ls hl => ?_)
  have hP : va_P E.1 classes [(r, .inr (3, [.int thr, .int rdr, .int mdr, .int msr, .ref bK, .ref bB, .ref bP, .ref bS, .ref bU, .ref bW, .ref bH, .ref bT, .ref bV, .ref bC, .ref bL, .int lcr, .ref bZ, .int wrr])), (bU, .inl (E.2.1, 256, .inl gU)), (bW, .inl (E.2.1, 176, .inl gW)), (bT, .inl (E.2.1, 16, .inl ((bckR gU gW gT gV 0).1))), (bV, .inl (E.2.1, 16, .inl ((bckR gU gW gT gV 0).2)))] _ := hP
  have hD : va_D A [(r, .inr (3, [.int thr, .int rdr, .int mdr, .int msr, .ref bK, .ref bB, .ref bP, .ref bS, .ref bU, .ref bW, .ref bH, .ref bT, .ref bV, .ref bC, .ref bL, .int lcr, .ref bZ, .int wrr])), (bU, .inl (E.2.1, 256, .inl gU)), (bW, .inl (E.2.1, 176, .inl gW)), (bT, .inl (E.2.1, 16, .inl ((bckR gU gW gT gV 0).1))), (bV, .inl (E.2.1, 16, .inl ((bckR gU gW gT gV 0).2)))] := hD
  refine lp_rback B ⟨by decide, by decide⟩ ⟨by decide, by decide⟩ hu hw ht hv (fun H locs ls hP hD hS hl => ?_) 11 0 (by omega) (by omega) _ _ _ hP hD hS (lv_sub hl [0, 1] rfl)
  refine lv_aload_n hx hb dX3_back_107 rfl (lv_at hl 1 rfl) ?_
  refine lv_iconst (v := 0) hx hb dX3_back_108 (by decide) ?_
  refine x_Vv (wr := [(bU, .inl (E.2.1, 256, .inl gU)), (bV, .inl (E.2.1, 16, .inl ((bckR gU gW gT gV 10).2)))]) (isC := [0, 2, 3]) (isR := [1, 4]) (As := [.int 0]) B (c_X3_add l E r bK bB bP bS bU bW bH bT bV bC bL bZ thr rdr mdr msr lcr wrr gW ((bckR gU gW gT gV 10).1) 0 0 rfl (by omega)) k_X3_add g_368 s_X3_add ⟨by decide, by decide, rfl, rfl⟩ rfl 0 rfl hP hD hS ⟨rfl, rfl, rfl, rfl, by decide⟩ rfl hl.1 rfl (Nat.le_of_ble_eq_true rfl) dX3_back_109 ⟨by decide, by decide⟩ (fun H locs hP hD hS => ?_)
  have hP : va_P E.1 classes [(bU, .inl (E.2.1, 256, .inl gU)), (bV, .inl (E.2.1, 16, .inl ((bckR gU gW gT gV 10).2))), (r, .inr (3, [.int thr, .int rdr, .int mdr, .int msr, .ref bK, .ref bB, .ref bP, .ref bS, .ref bU, .ref bW, .ref bH, .ref bT, .ref bV, .ref bC, .ref bL, .int lcr, .ref bZ, .int wrr])), (bW, .inl (E.2.1, 176, .inl gW)), (bT, .inl (E.2.1, 16, .inl (xorM gW (16 * 0) ((bckR gU gW gT gV 10).1) 16)))] _ := hP
  have hD : va_D A [(bU, .inl (E.2.1, 256, .inl gU)), (bV, .inl (E.2.1, 16, .inl ((bckR gU gW gT gV 10).2))), (r, .inr (3, [.int thr, .int rdr, .int mdr, .int msr, .ref bK, .ref bB, .ref bP, .ref bS, .ref bU, .ref bW, .ref bH, .ref bT, .ref bV, .ref bC, .ref bL, .int lcr, .ref bZ, .int wrr])), (bW, .inl (E.2.1, 176, .inl gW)), (bT, .inl (E.2.1, 16, .inl (xorM gW (16 * 0) ((bckR gU gW gT gV 10).1) 16)))] := hD
  have hP := hP.sub (ws' := [(r, .inr (3, [.int thr, .int rdr, .int mdr, .int msr, .ref bK, .ref bB, .ref bP, .ref bS, .ref bU, .ref bW, .ref bH, .ref bT, .ref bV, .ref bC, .ref bL, .int lcr, .ref bZ, .int wrr])), (bU, .inl (E.2.1, 256, .inl gU)), (bW, .inl (E.2.1, 176, .inl gW)), (bT, .inl (E.2.1, 16, .inl (xorM gW (16 * 0) ((bckR gU gW gT gV 10).1) 16))), (bV, .inl (E.2.1, 16, .inl ((bckR gU gW gT gV 10).2)))]) [2, 0, 3, 4, 1] rfl
  have hD := hD.sub (ws' := [(r, .inr (3, [.int thr, .int rdr, .int mdr, .int msr, .ref bK, .ref bB, .ref bP, .ref bS, .ref bU, .ref bW, .ref bH, .ref bT, .ref bV, .ref bC, .ref bL, .int lcr, .ref bZ, .int wrr])), (bU, .inl (E.2.1, 256, .inl gU)), (bW, .inl (E.2.1, 176, .inl gW)), (bT, .inl (E.2.1, 16, .inl (xorM gW (16 * 0) ((bckR gU gW gT gV 10).1) 16))), (bV, .inl (E.2.1, 16, .inl ((bckR gU gW gT gV 10).2)))]) [2, 0, 3, 4, 1] (by decide) rfl
  have hP : va_P E.1 classes [(r, .inr (3, [.int thr, .int rdr, .int mdr, .int msr, .ref bK, .ref bB, .ref bP, .ref bS, .ref bU, .ref bW, .ref bH, .ref bT, .ref bV, .ref bC, .ref bL, .int lcr, .ref bZ, .int wrr])), (bU, .inl (E.2.1, 256, .inl gU)), (bW, .inl (E.2.1, 176, .inl gW)), (bT, .inl (E.2.1, 16, .inl (bckX gU gW gT gV))), (bV, .inl (E.2.1, 16, .inl ((bckR gU gW gT gV 10).2)))] _ := hP
  have hD : va_D A [(r, .inr (3, [.int thr, .int rdr, .int mdr, .int msr, .ref bK, .ref bB, .ref bP, .ref bS, .ref bU, .ref bW, .ref bH, .ref bT, .ref bV, .ref bC, .ref bL, .int lcr, .ref bZ, .int wrr])), (bU, .inl (E.2.1, 256, .inl gU)), (bW, .inl (E.2.1, 176, .inl gW)), (bT, .inl (E.2.1, 16, .inl (bckX gU gW gT gV))), (bV, .inl (E.2.1, 16, .inl ((bckR gU gW gT gV 10).2)))] := hD
  exact x_vret B hP hD hS dX3_back_112
