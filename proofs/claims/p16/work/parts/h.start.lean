theorem sub4_lt {L q : Nat} (hL : L < 2 ^ 30) (hq : q < 2 ^ 30) : nI L - 4 < nI q ↔ (L : Int) - 4 < (q : Int) := by
  rw [Int32.lt_iff_toInt_lt, nI_toInt (by omega)]
  have h : (nI L - nI 4).toInt = (L : Int) - (4 : Nat) := pk_sub_toInt hL (by decide)
  have h2 : (nI L - 4).toInt = (L : Int) - (4 : Nat) := h
  rw [h2]
  omega
set_option maxHeartbeats 4000000 in
set_option maxRecDepth 100000 in
theorem law_loop {p : Program} {l : Launch} {e : Env} {s : State} {m : MethodId} {below : List Frame} {meth : Method} {c : Code} {b L : Nat} {xs : Nat → Int32} {E : EE} {A : Nat → Prop} (B : Bd p s m #[Value.ref b] meth c code 4 ret RL E A) (hX : va_X b L xs s s.heap) (hbl : b < s.heap.size) (hbA : ¬ A b) (hL : L ≤ 2048) (hA : ∀ q, A q → s.heap.size ≤ q) (hr : meth.sig.returnType = ret) (hlocks : meth.locks = false) : ∀ (fu k : Nat), 4 * k ≤ L → L < 4 * (k + fu) → LH p l e s m below meth c b E A k 18 := by
  have hx := B.1
  have hb := B.2.1
  intro fu
  induction fu with
  | zero =>
    intro k h1 h2
    exact absurd h2 (by omega)
  | succ fu ih =>
    intro k h1 h2 o oK oM aB aW aF aG aV aS aO aP aQ r bK bB bP bS bU bW bH bT bV bC bL bZ fB fW fF fG fV fE fO fP fQ gK gB gP gS gU gW gH gT gV gC gL gZ mde opn end_ cmp_ dif rdy thr msr wrr kf kl H locs ls hI hP hD hS hl
    refine lv_iload_n hx hb dL_law_18 rfl (lv_at hl 3 rfl) ?_
    refine lv_aload_n hx hb dL_law_19 rfl (lv_at hl 0 rfl) ?_
    refine va_slen hx hb hX hbl hbA hS dL_law_20 ?_
    refine lv_iconst (v := 4) hx hb dL_law_21 (by decide) ?_
    refine lv_isub hx hb dL_law_22 ?_
    refine lv_icmp_gt (tgt := 507) hx hb dL_law_23 (by decide) (fun c_23 => ?_) (fun c_23 => ?_)
    · have hk : ¬ 4 * k + 4 ≤ L := by have := (sub4_lt (by omega) (by omega)).mp c_23; omega
      refine lv_iconst (v := 1) hx hb dL_law_507 (by decide) ?_
      refine va_forget (fun q hq => hA q.base (hS.2.2 q hq)) ?_
      exact lw_ret hx hb hr hlocks dL_law_508
    · have hk : 4 * k + 4 ≤ L := by have := mt (sub4_lt (by omega) (by omega)).mpr c_23; omega
      have next := ih (k + 1) (by omega) (by omega)
      have hI0 := hI
      obtain ⟨bfB, bfW, bfF, bfG, bfV, bfE, bfO, bfP, bfQ, bgK, bgB, bgP, bgS, bgU, bgW, bgH, bgT, bgV, bgC, bgL, brdy, bmde, hkf, hkl⟩ := hI
      refine lv_aload_n hx hb dL_law_26 rfl (lv_at hl 0 rfl) ?_
      refine lv_iload_n hx hb dL_law_27 rfl (lv_at hl 3 rfl) ?_
      refine x_sld hx hb hX hbl hbA hS (4 * k) rfl (by omega) (by omega) dL_law_28 ?_
      refine lv_bipush (v := 31) hx hb dL_law_29 (by decide) ?_
      refine lv_iand hx hb dL_law_31 ?_
      obtain ⟨j, hj, ej⟩ := pk_andE (xs (4 * k)) (m := 31) 5 (by decide)
      refine lv_topi (fun v ev => ?_)
      rw [ej] at ev
      have hc : j = 0 ∨ j = 1 ∨ j = 2 ∨ j = 3 ∨ j = 4 ∨ j = 5 ∨ j = 6 ∨ j = 7 ∨ j = 8 ∨ j = 9 ∨ j = 10 ∨ j = 11 ∨ j = 12 ∨ j = 13 ∨ j = 14 ∨ j = 15 ∨ j = 16 ∨ 17 ≤ j := by omega
      rcases hc with rfl | rfl | rfl | rfl | rfl | rfl | rfl | rfl | rfl | rfl | rfl | rfl | rfl | rfl | rfl | rfl | rfl | hc
      · subst ev
        refine lv_tableIn (off := 84) (tgt := 116) hx hb dL_law_32 (by decide) (by decide) (by decide) (by decide) ?_
        exact case_init B hX hbl hbA hL hk next o oK oM aB aW aF aG aV aS aO aP aQ r bK bB bP bS bU bW bH bT bV bC bL bZ fB fW fF fG fV fE fO fP fQ gK gB gP gS gU gW gH gT gV gC gL gZ mde opn end_ cmp_ dif rdy thr msr wrr kf kl H locs ls hI0 hP hD hS hl
      · subst ev
        refine lv_tableIn (off := 95) (tgt := 127) hx hb dL_law_32 (by decide) (by decide) (by decide) (by decide) ?_
        exact case_setKeyByte B hX hbl hbA hL hk next o oK oM aB aW aF aG aV aS aO aP aQ r bK bB bP bS bU bW bH bT bV bC bL bZ fB fW fF fG fV fE fO fP fQ gK gB gP gS gU gW gH gT gV gC gL gZ mde opn end_ cmp_ dif rdy thr msr wrr kf kl H locs ls hI0 hP hD hS hl
      · subst ev
        refine lv_tableIn (off := 128) (tgt := 160) hx hb dL_law_32 (by decide) (by decide) (by decide) (by decide) ?_
        exact case_expand B hX hbl hbA hL hk next o oK oM aB aW aF aG aV aS aO aP aQ r bK bB bP bS bU bW bH bT bV bC bL bZ fB fW fF fG fV fE fO fP fQ gK gB gP gS gU gW gH gT gV gC gL gZ mde opn end_ cmp_ dif rdy thr msr wrr kf kl H locs ls hI0 hP hD hS hl
      · subst ev
        refine lv_tableIn (off := 141) (tgt := 173) hx hb dL_law_32 (by decide) (by decide) (by decide) (by decide) ?_
        exact case_macStart B hX hbl hbA hL hk next o oK oM aB aW aF aG aV aS aO aP aQ r bK bB bP bS bU bW bH bT bV bC bL bZ fB fW fF fG fV fE fO fP fQ gK gB gP gS gU gW gH gT gV gC gL gZ mde opn end_ cmp_ dif rdy thr msr wrr kf kl H locs ls hI0 hP hD hS hl
      · subst ev
        refine lv_tableIn (off := 154) (tgt := 186) hx hb dL_law_32 (by decide) (by decide) (by decide) (by decide) ?_
        exact case_macUpdate B hX hbl hbA hL hk next o oK oM aB aW aF aG aV aS aO aP aQ r bK bB bP bS bU bW bH bT bV bC bL bZ fB fW fF fG fV fE fO fP fQ gK gB gP gS gU gW gH gT gV gC gL gZ mde opn end_ cmp_ dif rdy thr msr wrr kf kl H locs ls hI0 hP hD hS hl
      · subst ev
        refine lv_tableIn (off := 177) (tgt := 209) hx hb dL_law_32 (by decide) (by decide) (by decide) (by decide) ?_
        exact case_macFill B hX hbl hbA hL hk next o oK oM aB aW aF aG aV aS aO aP aQ r bK bB bP bS bU bW bH bT bV bC bL bZ fB fW fF fG fV fE fO fP fQ gK gB gP gS gU gW gH gT gV gC gL gZ mde opn end_ cmp_ dif rdy thr msr wrr kf kl H locs ls hI0 hP hD hS hl
      · subst ev
        refine lv_tableIn (off := 220) (tgt := 252) hx hb dL_law_32 (by decide) (by decide) (by decide) (by decide) ?_
        exact case_macFinish B hX hbl hbA hL hk next o oK oM aB aW aF aG aV aS aO aP aQ r bK bB bP bS bU bW bH bT bV bC bL bZ fB fW fF fG fV fE fO fP fQ gK gB gP gS gU gW gH gT gV gC gL gZ mde opn end_ cmp_ dif rdy thr msr wrr kf kl H locs ls hI0 hP hD hS hl
      · subst ev
        refine lv_tableIn (off := 233) (tgt := 265) hx hb dL_law_32 (by decide) (by decide) (by decide) (by decide) ?_
        exact case_tagByte B hX hbl hbA hL hk next o oK oM aB aW aF aG aV aS aO aP aQ r bK bB bP bS bU bW bH bT bV bC bL bZ fB fW fF fG fV fE fO fP fQ gK gB gP gS gU gW gH gT gV gC gL gZ mde opn end_ cmp_ dif rdy thr msr wrr kf kl H locs ls hI0 hP hD hS hl
      · subst ev
        refine lv_tableIn (off := 256) (tgt := 288) hx hb dL_law_32 (by decide) (by decide) (by decide) (by decide) ?_
        exact case_macCheck B hX hbl hbA hL hk next o oK oM aB aW aF aG aV aS aO aP aQ r bK bB bP bS bU bW bH bT bV bC bL bZ fB fW fF fG fV fE fO fP fQ gK gB gP gS gU gW gH gT gV gC gL gZ mde opn end_ cmp_ dif rdy thr msr wrr kf kl H locs ls hI0 hP hD hS hl
      · subst ev
        refine lv_tableIn (off := 289) (tgt := 321) hx hb dL_law_32 (by decide) (by decide) (by decide) (by decide) ?_
        exact case_macVerdict B hX hbl hbA hL hk next o oK oM aB aW aF aG aV aS aO aP aQ r bK bB bP bS bU bW bH bT bV bC bL bZ fB fW fF fG fV fE fO fP fQ gK gB gP gS gU gW gH gT gV gC gL gZ mde opn end_ cmp_ dif rdy thr msr wrr kf kl H locs ls hI0 hP hD hS hl
      · subst ev
        refine lv_tableIn (off := 302) (tgt := 334) hx hb dL_law_32 (by decide) (by decide) (by decide) (by decide) ?_
        exact case_setBlockByte B hX hbl hbA hL hk next o oK oM aB aW aF aG aV aS aO aP aQ r bK bB bP bS bU bW bH bT bV bC bL bZ fB fW fF fG fV fE fO fP fQ gK gB gP gS gU gW gH gT gV gC gL gZ mde opn end_ cmp_ dif rdy thr msr wrr kf kl H locs ls hI0 hP hD hS hl
      · subst ev
        refine lv_tableIn (off := 335) (tgt := 367) hx hb dL_law_32 (by decide) (by decide) (by decide) (by decide) ?_
        exact case_encryptBlock B hX hbl hbA hL hk next o oK oM aB aW aF aG aV aS aO aP aQ r bK bB bP bS bU bW bH bT bV bC bL bZ fB fW fF fG fV fE fO fP fQ gK gB gP gS gU gW gH gT gV gC gL gZ mde opn end_ cmp_ dif rdy thr msr wrr kf kl H locs ls hI0 hP hD hS hl
      · subst ev
        refine lv_tableIn (off := 348) (tgt := 380) hx hb dL_law_32 (by decide) (by decide) (by decide) (by decide) ?_
        exact case_decryptBlock B hX hbl hbA hL hk next o oK oM aB aW aF aG aV aS aO aP aQ r bK bB bP bS bU bW bH bT bV bC bL bZ fB fW fF fG fV fE fO fP fQ gK gB gP gS gU gW gH gT gV gC gL gZ mde opn end_ cmp_ dif rdy thr msr wrr kf kl H locs ls hI0 hP hD hS hl
      · subst ev
        refine lv_tableIn (off := 361) (tgt := 393) hx hb dL_law_32 (by decide) (by decide) (by decide) (by decide) ?_
        exact case_chain B hX hbl hbA hL hk next o oK oM aB aW aF aG aV aS aO aP aQ r bK bB bP bS bU bW bH bT bV bC bL bZ fB fW fF fG fV fE fO fP fQ gK gB gP gS gU gW gH gT gV gC gL gZ mde opn end_ cmp_ dif rdy thr msr wrr kf kl H locs ls hI0 hP hD hS hl
      · subst ev
        refine lv_tableIn (off := 400) (tgt := 432) hx hb dL_law_32 (by decide) (by decide) (by decide) (by decide) ?_
        exact case_unchain B hX hbl hbA hL hk next o oK oM aB aW aF aG aV aS aO aP aQ r bK bB bP bS bU bW bH bT bV bC bL bZ fB fW fF fG fV fE fO fP fQ gK gB gP gS gU gW gH gT gV gC gL gZ mde opn end_ cmp_ dif rdy thr msr wrr kf kl H locs ls hI0 hP hD hS hl
      · subst ev
        refine lv_tableIn (off := 413) (tgt := 445) hx hb dL_law_32 (by decide) (by decide) (by decide) (by decide) ?_
        exact case_blockByte B hX hbl hbA hL hk next o oK oM aB aW aF aG aV aS aO aP aQ r bK bB bP bS bU bW bH bT bV bC bL bZ fB fW fF fG fV fE fO fP fQ gK gB gP gS gU gW gH gT gV gC gL gZ mde opn end_ cmp_ dif rdy thr msr wrr kf kl H locs ls hI0 hP hD hS hl
      · subst ev
        refine lv_tableIn (off := 436) (tgt := 468) hx hb dL_law_32 (by decide) (by decide) (by decide) (by decide) ?_
        exact case_half B hX hbl hbA hL hk next o oK oM aB aW aF aG aV aS aO aP aQ r bK bB bP bS bU bW bH bT bV bC bL bZ fB fW fF fG fV fE fO fP fQ gK gB gP gS gU gW gH gT gV gC gL gZ mde opn end_ cmp_ dif rdy thr msr wrr kf kl H locs ls hI0 hP hD hS hl
      · subst ev
        refine lv_tableOut (tgt := 501) hx hb dL_law_32 (Or.inr (by rw [nI_toInt (by omega)]; omega)) (by decide) ?_
        refine lv_iinc (v := (nI (4 * (k + 1)))) (lv' := [(3, .int (nI (4 * (k + 1)))), (0, .ref b), (1, .ref o), (2, .ref r)]) hx hb dL_law_501 hl (k := 3) rfl (ii_n 4 (4 * k) rfl) (by decide) rfl (fun ls hl => ?_)
        refine lv_goto (tgt := 18) hx hb dL_law_504 (by decide) ?_
        exact next o oK oM aB aW aF aG aV aS aO aP aQ r bK bB bP bS bU bW bH bT bV bC bL bZ fB fW fF fG fV fE fO fP fQ gK gB gP gS gU gW gH gT gV gC gL gZ mde opn end_ cmp_ dif rdy thr msr wrr kf kl _ _ _ ⟨bfB, bfW, bfF, bfG, bfV, bfE, bfO, bfP, bfQ, bgK, bgB, bgP, bgS, bgU, bgW, bgH, bgT, bgV, bgC, bgL, brdy, bmde, hkf, hkl⟩ hP hD hS (lv_sub hl [1, 2, 3, 0] rfl)
set_option maxHeartbeats 4000000 in
set_option maxRecDepth 100000 in
theorem whole_start {p : Program} {e : Env} {s : State} {m : MethodId} {below : List Frame} {meth : Method} {c : Code} (l : Launch) {b L : Nat} {xs : Nat → Int32} (hL : L ≤ 2048) (C0 : lw_At p s m meth c b L xs) : W p l e room_1 s m #[Value.ref b] below meth c s.heap [] 0 0 (lw_Z below #[Value.ref b] s) (entryFrame m ([Value.ref b] : List Value).toArray 4) := by
  obtain ⟨E, hE, B⟩ := law_bd C0
  obtain ⟨-, -, hr, hml, hown, hts, hX, hbl, hlocks, hgv⟩ := id C0
  have hbA : ¬ (fun q : Nat => s.heap.size ≤ q) b := Nat.not_le.mpr hbl
  have hA9 : ∀ q : Nat, (fun q : Nat => s.heap.size ≤ q) q → s.heap.size ≤ q := fun _ h => h
  generalize hAe : (fun q : Nat => s.heap.size ≤ q) = A at B hbA hA9
  have hx := B.1
  have hb := B.2.1
  have hS : va_S A s.heap s.heap [] := va_S.rf
  have hP : va_P E.1 classes [] s.heap := fun k q h => by simp at h
  have hD : va_D A [] := ⟨fun i j p q h => by simp at h, fun k q h => by simp at h⟩
  have hl := lv_entry ([.ref b]) (n := 4) (Nat.le_of_ble_eq_true rfl)
  rw [lg_entry_eq]
  generalize (lg_sl ([.ref b]) ++ List.replicate (4 - (lg_sl ([.ref b])).length) Slot.unset).toArray = ls at hl ⊢
  have hl : lv_has ls 4 [(0, .ref b)] := hl
  refine x_new (ci := 2) B hP hD hS rfl i_X2 tyX2 tyX2_ok ⟨g_7, g_8, g_1⟩ [.null, .null, .null, .null, .null, .int 0] (by decide) (by decide) (by decide) dL_law_0 (fun q32 H hP hD hS => ?_)
  have hP : va_P E.1 classes [(q32, .inr (2, [.null, .null, .null, .null, .null, .int 0]))] _ := hP
  have hD : va_D A [(q32, .inr (2, [.null, .null, .null, .null, .null, .int 0]))] := hD
  refine W.widen (k := 1) (n := 6) (by decide) (by decide) ?_
  refine lv_dup hx hb dL_law_3 rfl ?_
  refine x_In (wr := []) (isC := [0]) (isR := []) (As := []) B (c_X2_init l E q32) k_X2_init g_9 s_X2_init ⟨by decide, by decide, rfl, rfl⟩ hP hD hS ⟨rfl, rfl, rfl, rfl, by decide⟩ rfl hl.1 rfl (Nat.le_of_ble_eq_true rfl) dL_law_4 ⟨by decide, by decide⟩ (fun w33 H locs hw hP hD hS => ?_)
  obtain ⟨q34, q35, q36, q37, q38, q39, q40, q41, q42, q43, q44, rfl⟩ := hw
  have hP : va_P E.1 classes [(q32, .inr (2, [.ref q34, .ref q35, .ref q42, .ref q43, .ref q44, .int 0])), (q34, .inr (0, [.ref q36, .ref q37, .ref q38, .ref q39, .ref q40, .int 0])), (q35, .inr (1, [.ref q41, .int 0, .int 0, .int 0, .int 0, .int 0])), (q36, .inl (E.2.1, 16, .inl (fun _ => 0))), (q37, .inl (E.2.1, 176, .inl (fun _ => 0))), (q38, .inl (E.2.1, 16, .inl (fun _ => 0))), (q39, .inl (E.2.1, 16, .inl (fun _ => 0))), (q40, .inl (E.2.1, 16, .inl (fun _ => 0))), (q41, .inl (E.2.1, 16, .inl (fun _ => 0))), (q42, .inl (E.2.1, 16, .inl (fun _ => 0))), (q43, .inl (E.2.1, 16, .inl (fun _ => 0))), (q44, .inl (E.2.1, 16, .inl (fun _ => 0)))] _ := hP
  have hD : va_D A [(q32, .inr (2, [.ref q34, .ref q35, .ref q42, .ref q43, .ref q44, .int 0])), (q34, .inr (0, [.ref q36, .ref q37, .ref q38, .ref q39, .ref q40, .int 0])), (q35, .inr (1, [.ref q41, .int 0, .int 0, .int 0, .int 0, .int 0])), (q36, .inl (E.2.1, 16, .inl (fun _ => 0))), (q37, .inl (E.2.1, 176, .inl (fun _ => 0))), (q38, .inl (E.2.1, 16, .inl (fun _ => 0))), (q39, .inl (E.2.1, 16, .inl (fun _ => 0))), (q40, .inl (E.2.1, 16, .inl (fun _ => 0))), (q41, .inl (E.2.1, 16, .inl (fun _ => 0))), (q42, .inl (E.2.1, 16, .inl (fun _ => 0))), (q43, .inl (E.2.1, 16, .inl (fun _ => 0))), (q44, .inl (E.2.1, 16, .inl (fun _ => 0)))] := hD
  refine W.widen (k := 12) (n := 322) (by decide) (by decide) ?_
  refine lv_astore_n (lv' := [(1, .ref q32), (0, .ref b)]) hx hb dL_law_7 rfl hl (by decide) rfl (fun ls hl => ?_)
  refine x_new (ci := 3) B hP hD hS rfl i_X3 tyX3 tyX3_ok ⟨g_280, g_281, g_4⟩ [.int 0, .int 0, .int 0, .int 0, .null, .null, .null, .null, .null, .null, .null, .null, .null, .null, .null, .int 0, .null, .int 0] (by decide) (by decide) (by decide) dL_law_8 (fun q45 H hP hD hS => ?_)
  have hP : va_P E.1 classes [(q32, .inr (2, [.ref q34, .ref q35, .ref q42, .ref q43, .ref q44, .int 0])), (q34, .inr (0, [.ref q36, .ref q37, .ref q38, .ref q39, .ref q40, .int 0])), (q35, .inr (1, [.ref q41, .int 0, .int 0, .int 0, .int 0, .int 0])), (q36, .inl (E.2.1, 16, .inl (fun _ => 0))), (q37, .inl (E.2.1, 176, .inl (fun _ => 0))), (q38, .inl (E.2.1, 16, .inl (fun _ => 0))), (q39, .inl (E.2.1, 16, .inl (fun _ => 0))), (q40, .inl (E.2.1, 16, .inl (fun _ => 0))), (q41, .inl (E.2.1, 16, .inl (fun _ => 0))), (q42, .inl (E.2.1, 16, .inl (fun _ => 0))), (q43, .inl (E.2.1, 16, .inl (fun _ => 0))), (q44, .inl (E.2.1, 16, .inl (fun _ => 0))), (q45, .inr (3, [.int 0, .int 0, .int 0, .int 0, .null, .null, .null, .null, .null, .null, .null, .null, .null, .null, .null, .int 0, .null, .int 0]))] _ := hP
  have hD : va_D A [(q32, .inr (2, [.ref q34, .ref q35, .ref q42, .ref q43, .ref q44, .int 0])), (q34, .inr (0, [.ref q36, .ref q37, .ref q38, .ref q39, .ref q40, .int 0])), (q35, .inr (1, [.ref q41, .int 0, .int 0, .int 0, .int 0, .int 0])), (q36, .inl (E.2.1, 16, .inl (fun _ => 0))), (q37, .inl (E.2.1, 176, .inl (fun _ => 0))), (q38, .inl (E.2.1, 16, .inl (fun _ => 0))), (q39, .inl (E.2.1, 16, .inl (fun _ => 0))), (q40, .inl (E.2.1, 16, .inl (fun _ => 0))), (q41, .inl (E.2.1, 16, .inl (fun _ => 0))), (q42, .inl (E.2.1, 16, .inl (fun _ => 0))), (q43, .inl (E.2.1, 16, .inl (fun _ => 0))), (q44, .inl (E.2.1, 16, .inl (fun _ => 0))), (q45, .inr (3, [.int 0, .int 0, .int 0, .int 0, .null, .null, .null, .null, .null, .null, .null, .null, .null, .null, .null, .int 0, .null, .int 0]))] := hD
  refine W.widen (k := 13) (n := 340) (by decide) (by decide) ?_
  refine lv_dup hx hb dL_law_11 rfl ?_
  refine x_In (wr := [(q32, .inr (2, [.ref q34, .ref q35, .ref q42, .ref q43, .ref q44, .int 0])), (q34, .inr (0, [.ref q36, .ref q37, .ref q38, .ref q39, .ref q40, .int 0])), (q35, .inr (1, [.ref q41, .int 0, .int 0, .int 0, .int 0, .int 0])), (q36, .inl (E.2.1, 16, .inl (fun _ => 0))), (q37, .inl (E.2.1, 176, .inl (fun _ => 0))), (q38, .inl (E.2.1, 16, .inl (fun _ => 0))), (q39, .inl (E.2.1, 16, .inl (fun _ => 0))), (q40, .inl (E.2.1, 16, .inl (fun _ => 0))), (q41, .inl (E.2.1, 16, .inl (fun _ => 0))), (q42, .inl (E.2.1, 16, .inl (fun _ => 0))), (q43, .inl (E.2.1, 16, .inl (fun _ => 0))), (q44, .inl (E.2.1, 16, .inl (fun _ => 0)))]) (isC := [12]) (isR := [0, 1, 2, 3, 4, 5, 6, 7, 8, 9, 10, 11]) (As := []) B (c_X3_init l E q45) k_X3_init g_282 s_X3_init ⟨by decide, by decide, rfl, rfl⟩ hP hD hS ⟨rfl, rfl, rfl, rfl, by decide⟩ rfl hl.1 rfl (Nat.le_of_ble_eq_true rfl) dL_law_12 ⟨by decide, by decide⟩ (fun w46 H locs hw hP hD hS => ?_)
  obtain ⟨q47, q48, q49, q50, q51, q52, q53, q54, q55, q56, q57, q58, rfl⟩ := hw
  have hP : va_P E.1 classes [(q32, .inr (2, [.ref q34, .ref q35, .ref q42, .ref q43, .ref q44, .int 0])), (q34, .inr (0, [.ref q36, .ref q37, .ref q38, .ref q39, .ref q40, .int 0])), (q35, .inr (1, [.ref q41, .int 0, .int 0, .int 0, .int 0, .int 0])), (q36, .inl (E.2.1, 16, .inl (fun _ => 0))), (q37, .inl (E.2.1, 176, .inl (fun _ => 0))), (q38, .inl (E.2.1, 16, .inl (fun _ => 0))), (q39, .inl (E.2.1, 16, .inl (fun _ => 0))), (q40, .inl (E.2.1, 16, .inl (fun _ => 0))), (q41, .inl (E.2.1, 16, .inl (fun _ => 0))), (q42, .inl (E.2.1, 16, .inl (fun _ => 0))), (q43, .inl (E.2.1, 16, .inl (fun _ => 0))), (q44, .inl (E.2.1, 16, .inl (fun _ => 0))), (q45, .inr (3, [.int 0, .int 0, .int 0, .int 0, .ref q47, .ref q48, .ref q49, .ref q50, .ref q51, .ref q52, .ref q53, .ref q54, .ref q55, .ref q56, .ref q57, .int 0, .ref q58, .int 0])), (q47, .inl (E.2.1, 16, .inl (fun _ => 0))), (q48, .inl (E.2.1, 16, .inl (fun _ => 0))), (q49, .inl (E.2.1, 16, .inl (fun _ => 0))), (q50, .inl (E.2.1, 256, .inl (sA 256))), (q51, .inl (E.2.1, 256, .inl (uA 256))), (q52, .inl (E.2.1, 176, .inl (fun _ => 0))), (q53, .inl (E.2.1, 32, .inl (fun _ => 0))), (q54, .inl (E.2.1, 16, .inl (fun _ => 0))), (q55, .inl (E.2.1, 16, .inl (fun _ => 0))), (q56, .inl (E.2.1, 16, .inl (fun _ => 0))), (q57, .inl (E.2.1, 16, .inl (fun _ => 0))), (q58, .inl (E.2.2.2.2, 16, .inl (fun _ => 0)))] _ := hP
  have hD : va_D A [(q32, .inr (2, [.ref q34, .ref q35, .ref q42, .ref q43, .ref q44, .int 0])), (q34, .inr (0, [.ref q36, .ref q37, .ref q38, .ref q39, .ref q40, .int 0])), (q35, .inr (1, [.ref q41, .int 0, .int 0, .int 0, .int 0, .int 0])), (q36, .inl (E.2.1, 16, .inl (fun _ => 0))), (q37, .inl (E.2.1, 176, .inl (fun _ => 0))), (q38, .inl (E.2.1, 16, .inl (fun _ => 0))), (q39, .inl (E.2.1, 16, .inl (fun _ => 0))), (q40, .inl (E.2.1, 16, .inl (fun _ => 0))), (q41, .inl (E.2.1, 16, .inl (fun _ => 0))), (q42, .inl (E.2.1, 16, .inl (fun _ => 0))), (q43, .inl (E.2.1, 16, .inl (fun _ => 0))), (q44, .inl (E.2.1, 16, .inl (fun _ => 0))), (q45, .inr (3, [.int 0, .int 0, .int 0, .int 0, .ref q47, .ref q48, .ref q49, .ref q50, .ref q51, .ref q52, .ref q53, .ref q54, .ref q55, .ref q56, .ref q57, .int 0, .ref q58, .int 0])), (q47, .inl (E.2.1, 16, .inl (fun _ => 0))), (q48, .inl (E.2.1, 16, .inl (fun _ => 0))), (q49, .inl (E.2.1, 16, .inl (fun _ => 0))), (q50, .inl (E.2.1, 256, .inl (sA 256))), (q51, .inl (E.2.1, 256, .inl (uA 256))), (q52, .inl (E.2.1, 176, .inl (fun _ => 0))), (q53, .inl (E.2.1, 32, .inl (fun _ => 0))), (q54, .inl (E.2.1, 16, .inl (fun _ => 0))), (q55, .inl (E.2.1, 16, .inl (fun _ => 0))), (q56, .inl (E.2.1, 16, .inl (fun _ => 0))), (q57, .inl (E.2.1, 16, .inl (fun _ => 0))), (q58, .inl (E.2.2.2.2, 16, .inl (fun _ => 0)))] := hD
  refine W.widen (k := 25) (n := 1188) (by decide) (by decide) ?_
  refine lv_astore_n (lv' := [(2, .ref q45), (1, .ref q32), (0, .ref b)]) hx hb dL_law_15 rfl hl (by decide) rfl (fun ls hl => ?_)
  refine lv_iconst (v := 0) hx hb dL_law_16 (by decide) ?_
  refine lv_istore_n (lv' := [(3, .int 0), (2, .ref q45), (1, .ref q32), (0, .ref b)]) hx hb dL_law_17 rfl hl (by decide) rfl (fun ls hl => ?_)
  exact law_loop B hX hbl hbA hL hA9 hr hlocks (L + 1) 0 (by omega) (by omega) q32 q34 q35 q36 q37 q38 q39 q40 q41 q42 q43 q44 q45 q47 q48 q49 q50 q51 q52 q53 q54 q55 q56 q57 q58 (fun _ => 0) (fun _ => 0) (fun _ => 0) (fun _ => 0) (fun _ => 0) (fun _ => 0) (fun _ => 0) (fun _ => 0) (fun _ => 0) (fun _ => 0) (fun _ => 0) (fun _ => 0) (sA 256) (uA 256) (fun _ => 0) (fun _ => 0) (fun _ => 0) (fun _ => 0) (fun _ => 0) (fun _ => 0) (fun _ => 0) 0 0 0 0 0 0 0 0 0 0 0 _ _ _ ⟨by0, by0, by0, by0, by0, by0, by0, by0, by0, by0, by0, by0, (sA_by 256), (uA_by 256 (by decide)), by0, by0, by0, by0, by0, by0, Or.inl rfl, Or.inl rfl, by decide, by decide⟩ hP hD hS (lv_sub hl [3, 2, 1, 0] rfl)
-- ===== YOUR PART ENDS =====
set_option maxHeartbeats 4000000 in
theorem lw_walk (l : Launch) (b : Addr) (xs : List Int32) : MetFree l x (headSpec (Jvm.Cond.code x code maxLocals ret :: tables_1) room_1) (lw_P b xs) (fun _ _ _ _ _ => True) lw_Q := by
  refine MetFree.of_bodyS (code := code) (maxLocals := maxLocals) (ret := ret) (by decide) ?_ ?_
  · intro args s m h hn
    obtain ⟨meth, c, h1, h2, h3, h4, h5, h6, -, -⟩ := Cond.code_spec hn (atoms_spec (ws := Jvm.Cond.code x code maxLocals ret :: tables_1) h _ List.mem_cons_self)
    exact ⟨meth, c, h1, h2, h3, h4, h5, h6⟩
  · intro p e s m args below meth c s₁ B hml0 hP _
    obtain ⟨rfl, hx, hbd, hgv⟩ := hP
    obtain ⟨scr, harrAt, hlist, hof, hsmall⟩ := hx
    obtain ⟨hcb, hkn, -, -⟩ := State.arrayAt?_spec harrAt
    have hown : s.vm.findClass R_law = some m.cls := findClass_of_methodNamed B.named
    have hts0 : ∀ c ∈ (Jvm.Cond.code x code maxLocals ret :: tables_1), c.before #[Value.ref b] s = true := atoms_spec (ws := Jvm.Cond.code x code maxLocals ret :: tables_1) B.pre
    have hts : ∀ w ∈ lw_tbl, w.before #[Value.ref b] s = true := k2_hts_sels lw_privs (fun w hw => hts0 w (List.mem_cons_of_mem _ hw)) lw_privs_ok
    have hml : c.maxLocals = 4 := B.maxLocals_eq (hts0 _ List.mem_cons_self)
    have X₀ : Stand p l e room_1 s m #[Value.ref b] below meth c s₁ [] 0 0 := Stand.of_body B
    have hh0 : s₁.heap = s.heap := by rw [B.state]; rfl
    have hsz : scr.slots.size = xs.length := by rw [← Array.length_toList, hlist, List.length_map]
    have hval : ∀ j : Nat, j < xs.length → scr.slots[j]? = some (.int (xs.getD j 0)) := fun j hj => by
      rw [← Array.getElem?_toList, hlist]
      simp [hj]
    have hbl : b < s.heap.size := (Array.getElem?_eq_some_iff.mp hcb).1
    have hX : va_X b xs.length (fun j => xs.getD j 0) s s.heap := ⟨scr, hcb, hof, hkn, hsz, hval⟩
    have K : W p l e room_1 s m #[Value.ref b] below meth c s₁.heap [] 0 0 (lw_Z below #[Value.ref b] s) (entryFrame m ([Value.ref b] : List Value).toArray 4) := by
      rw [hh0]
      exact whole_start l hbd ⟨B.exec, B.bytes, B.returns, hml, hown, hts, hX, hbl, B.notSynchronized, hgv⟩
    obtain ⟨t, a1, o, b1, b2, b3⟩ := K s₁ rfl X₀
    exact ⟨t, o, a1, b1, b2, b3⟩
theorem lw_pre_spec {args : Array Value} {s : State} (h : (Jvm.Cond.and given_1 narrow_1).before args s = true) (hr : rest_1_c.before args s = true) : ∃ (b : Addr) (xs : List Int32), lw_P b xs args s := by
  have hs := flat_of_before _ h
  have hq := flat_of_before _ hr
  have hc : (Cond.count 1).before args s = true := hs _ (by decide +kernel)
  have harr : (Cond.arrayOf (.arg 0) .int).before args s = true := hs _ (by decide +kernel)
  have hle : (Cond.le (.length (.arg 0)) (.int 2048)).before args s = true := hs _ (by decide +kernel)
  have hlen : (Cond.isInt (.length (.arg 0))).before args s = true := hq _ (by decide +kernel)
  have hall : (Cond.all (.arg 0) (.isInt (.elem (.arg 0) (.index 0)))).before args s = true := hq _ (by decide +kernel)
  obtain ⟨b, xs, hb, hx⟩ := State.ints_of_pre rfl harr hlen hall
  have hsm : xs.length < 2 ^ 31 := hx.choose_spec.2.2.2
  have hev : (Term.length (.arg 0)).eval args s none [] s = some (.int xs.length.toInt32) := hx.length_eval hb
  have hv := Cond.le_ints hev (show (Term.int 2048).eval args s none [] s = some (.int 2048) from rfl)
  have hd : xs.length.toInt32 ≤ 2048 := by
    simpa [Cond.before, Cond.holds, hv] using hle
  have hN : xs.length ≤ 2048 := (Int32.ofNat_le_ofNat hsm (by decide)).mp (show Int32.ofNat xs.length ≤ Int32.ofNat 2048 from hd)
  exact ⟨b, xs, Cond.one_arg hc (show args[0]? = some (.ref b) from hb), hx, hN, h⟩
theorem lw_comes (l : Launch) : Comes l x (Jvm.Cond.code x code maxLocals ret :: tables_1) room_1 (fun tb e args s => Calls_1 tb e args s ∧ rest_1 tb e args s ∧ Pre_1 tb e args s)
    (fun _ _ args s o t => lw_Q args s o t) := by
  intro p e ha hc hk s m args below hf hfit hheap happ hpre
  obtain ⟨b, xs, hP⟩ := lw_pre_spec hpre.2.2 hpre.2.1
  obtain ⟨k, o, h1, h2, h3, hQ⟩ := lw_walk l b xs p e ha hc hk s m args below hf ((Spec.applies_iff_loose hf).mp happ).1 hP trivial
  exact ⟨k, o, h1, h2, h3, hQ⟩
theorem lw_frame {s t : State} {o : Outcome} {args : Array Value} (h : Framed s o t [] 25 1188) :
    Framed s o t (fieldLocs frame_1_writes args s ++ arrayLocs frame_1_arrays args s ++ staticLocs frame_1_statics s) 25 1188 := h
theorem lw_limb (L : Cond) (hL : ∀ (args : Array Value) (s t : State), L.after args s (.returned (some (.int 1))) t = true) :
    ArmFor flags0 classFile x code maxLocals ret World_1 tables_1 room_1 Calls_1 rest_1 Pre_1
      (fun tb e a s o t => postC L tb e a s o t ∧ Framed s o t (fieldLocs frame_1_writes a s ++ arrayLocs frame_1_arrays a s ++ staticLocs frame_1_statics s) 25 1188) := by
  intro l _ _ _ p e ha hc hk s m args below hf hfit hheap happ hpre
  obtain ⟨k, o, h1, h2, h3, rfl, hF⟩ := lw_comes l p e ha hc hk s m args below hf hfit hheap happ hpre
  exact ⟨k, _, h1, h2, h3, hL args s _, lw_frame hF⟩
theorem i_vc : Claimed_1_1 ∧ Claimed_1_2 := ⟨lw_limb limb_1_1 (fun args s t => by simp [limb_1_1, Cond.after, Cond.holds, Cond.value]), lw_limb limb_1_2 (fun args s t => Cond.after_iff.mpr (by
  first | (rw [show limb_1_2 = Cond.eq .result (.int 1) from rfl, Cond.eq_ints (x := 1) (y := 1) rfl rfl]; simp; done) | (simp [limb_1_2, Cond.value, Term.eval]; done)))⟩
