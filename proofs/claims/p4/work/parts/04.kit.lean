/-- where the objects' fields lie, the int array's class, the tables' addresses, the first address of the law's own cells, the boolean array's class -/
abbrev EE : Type := va_G × ClassId × (Nat → Nat) × Nat × ClassId
abbrev Eb (E : EE) : Nat → Prop := fun q => E.2.2.2.1 ≤ q
def Tb (E : EE) (U : State) (H : Heap) : Prop := ∀ (k : Nat) (t : String × String × Nat × (Nat → Int32)), tabs[k]? = some t → va_Z t.1 t.2.1 "[I" (.ref (E.2.2.1 k)) (Eb E) U H ∧ va_T .int (E.2.2.1 k) t.2.2.1 (fun j => .int (t.2.2.2 j)) (Eb E) U H
theorem Tb.moved {E : EE} {u U : State} {H : Heap} (hvm : u.vm.Alike U.vm) (h : Tb E u H) : Tb E U H := fun k t hk => ⟨(h k t hk).1.moved hvm, (h k t hk).2.moved hvm⟩
theorem Tb.kept {E : EE} {U : State} {H H1 : Heap} (h : Tb E U H) (hq : ∀ a : Nat, a < H.size → ¬ Eb E a → H1[a]? = H[a]?) : Tb E U H1 := fun k t hk => ⟨(h k t hk).1.kept hq, (h k t hk).2.kept hq⟩
def Cx (E : EE) (U : State) : Prop := va_K E.1 classes [(E.2.1, .int), (E.2.2.2.2, .boolean)] U ∧ NW U ∧ E.2.2.2.1 ≤ U.heap.size ∧ Tb E U U.heap
theorem Cx.move {E : EE} {A : Nat → Prop} {s U : State} {H : Heap} {locs : List Loc} (h : Cx E s) (hAB : ∀ q, A q → E.2.2.2.1 ≤ q) (hS : va_S A s.heap H locs) (hU : U.heap = H) (hW : s.WarmedH U.vm) : Cx E U :=
  ⟨va_K.moved hW.alike h.1, NW.warm hW h.2.1, by rw [hU]; exact Nat.le_trans h.2.2.1 hS.1, by rw [hU]; exact (h.2.2.2.moved hW.alike).kept (fun a h1 h2 => hS.2.1 a h1 (fun z => h2 (hAB a z)))⟩
theorem Cx.calling {E : EE} {U : State} {g : JFrame} {mk : MethodId} {a : Array Value} (h : Cx E U) : Cx E (U.calling g mk a) :=
  ⟨va_K.moved (u := U) (U := U.calling g mk a) (Vm.Alike.refl U.vm) h.1, NW.same (u := U) rfl h.2.1, h.2.2.1, Tb.moved (u := U) (U := U.calling g mk a) (Vm.Alike.refl U.vm) h.2.2.2⟩
def Pre (E : EE) (ws : va_W) (sz : Nat) (U : State) : Prop := U.heap.size = sz ∧ va_P E.1 classes ws U.heap ∧ va_D (Eb E) ws ∧ Cx E U
theorem Pre.blind {E : EE} {as : List Value} {ws : va_W} {sz : Nat} : FrameBlind (va_Pc as (Pre E ws sz)) := by
  intro a U g mk h
  obtain ⟨h0, h1, h2, h3, h4⟩ := h
  exact ⟨h0, h1, h2, h3, h4.calling⟩
abbrev Wv (E : EE) (A : Nat → Prop) (ws' : va_W) : Array Value → State → Outcome → State → Prop := va_Qv (fun _ : Unit => True) (fun _ t => va_P E.1 classes ws' t.heap ∧ va_D A ws') A
abbrev Wi (E : EE) (A : Nat → Prop) (r : Int32) (ws' : va_W) : Array Value → State → Outcome → State → Prop := va_Qi (fun (r' : Int32) (_ : Unit) => r' = r) (fun _ t => va_P E.1 classes ws' t.heap ∧ va_D A ws') A
abbrev Wn (E : EE) (A : Nat → Prop) (post : va_W → Prop) : Array Value → State → Outcome → State → Prop := va_Qv post (fun ws' t => va_P E.1 classes ws' t.heap ∧ va_D A ws') A
/-- a void method that makes no cell: the world ws becomes ws' -/
def Cv (l : Launch) (y : MethodName) (cd : Cond) (rm : Room) (E : EE) (as : List Value) (ws ws' : va_W) : Prop := ∀ sz : Nat, Met l y (cd :: G) rm (va_Pc as (Pre E ws sz)) (Wv E (va_A ws sz) ws') 0 0 (va_A ws sz)
/-- a method that answers the int r -/
def Ci (l : Launch) (y : MethodName) (cd : Cond) (rm : Room) (E : EE) (as : List Value) (r : Int32) (ws ws' : va_W) : Prop := ∀ sz : Nat, Met l y (cd :: G) rm (va_Pc as (Pre E ws sz)) (Wi E (va_A ws sz) r ws') 0 0 (va_A ws sz)
/-- a void method that makes mc cells of ms slots: its new world is one of post -/
def Cn (l : Launch) (y : MethodName) (cd : Cond) (rm : Room) (E : EE) (as : List Value) (ws : va_W) (post : va_W → Prop) : Prop := ∀ sz : Nat, Met l y (cd :: G) rm (va_Pc as (Pre E ws sz)) (Wn E (va_A ws sz) post) rm.cells rm.slots (va_A ws sz)
/-- what stands in a body -/
def Bd (p : Program) (s : State) (m : MethodId) (args : Array Value) (meth : Method) (c : Code) (cc : ByteArray) (nL : Nat) (ret : Option FieldType) (own : String) (E : EE) (A : Nat → Prop) : Prop :=
  p.tables.exec = Jvm.exec ∧ c.code = cc ∧ meth.sig.returnType = ret ∧ c.maxLocals = nL ∧ s.vm.findClass own = some m.cls ∧ (∀ w ∈ G, w.before args s = true) ∧ meth.locks = false ∧ Cx E s ∧ (∀ q, A q → E.2.2.2.1 ≤ q) ∧ (∀ q, s.heap.size ≤ q → A q)
section BD
variable {p : Program} {l : Launch} {e : Env} {R : Room} {s : State} {m : MethodId} {args : Array Value} {below : List Frame} {meth : Method} {c : Code} {H : Heap} {locs : List Loc} {cells slots : Nat} {Q : State → Prop}
variable {cc : ByteArray} {nL : Nat} {ret : Option FieldType} {own : String} {E : EE} {A : Nat → Prop} {ws wc wc' wr : va_W} {pc : Nat} {ls : Array Slot} {rest : List Value}
theorem Bd.rt0 (B : Bd p s m args meth c cc nL ret own E A) : meth.sig.returnType = ret := B.2.2.1
theorem Bd.ml (B : Bd p s m args meth c cc nL ret own E A) : c.maxLocals = nL := B.2.2.2.1
theorem Bd.ow (B : Bd p s m args meth c cc nL ret own E A) : s.vm.findClass own = some m.cls := B.2.2.2.2.1
theorem Bd.ts (B : Bd p s m args meth c cc nL ret own E A) : ∀ w ∈ G, w.before args s = true := B.2.2.2.2.2.1
theorem Bd.lk (B : Bd p s m args meth c cc nL ret own E A) : meth.locks = false := B.2.2.2.2.2.2.1
theorem Bd.cx (B : Bd p s m args meth c cc nL ret own E A) : Cx E s := B.2.2.2.2.2.2.2.1
theorem Bd.ab (B : Bd p s m args meth c cc nL ret own E A) : ∀ q, A q → E.2.2.2.1 ≤ q := B.2.2.2.2.2.2.2.2.1
theorem Bd.ha (B : Bd p s m args meth c cc nL ret own E A) : ∀ q, s.heap.size ≤ q → A q := B.2.2.2.2.2.2.2.2.2
theorem Bd.pre (B : Bd p s m args meth c cc nL ret own E A) (hP : va_P E.1 classes wc H) (hD : va_D A wc) (hS : va_S A s.heap H locs) {As : List Value} : ∀ U : State, U.heap = H → s.WarmedH U.vm → va_Pc As (Pre E wc H.size) As.toArray U :=
  fun U hU hW => ⟨rfl, by rw [hU], by rw [hU]; exact hP, hD.weaken (fun _ q _ h => B.ab q.1 h), B.cx.move B.ab hS hU hW⟩
/-- reads of fields -/
theorem x_get (B : Bd p s m args meth c cc nL ret own E A) (hP : va_P E.1 classes ws H) {C : String} {T : u_T} {N ci index a : Nat} (q0 : Nat) {fs : List Value} (he : ws[q0]? = some (a, .inr (ci, fs))) (hc : classes[ci]? = some (C, T, N)) (hin : ∀ w ∈ u_ws C T N, w ∈ G) (k : Nat) (hk : k < N) (hl : Cond.fieldLink own index (T k).1 (T k).2.1 (T k).2.2.1 ∈ G) {v : Value} (hv : fs[k]? = some v) (hdg : decode cc pc = .ok (.getfield index, 3))
    (kk : W p l e R s m args below meth c H locs cells slots Q (F0 m (pc + 3) ls (v :: rest))) : W p l e R s m args below meth c H locs cells slots Q (F0 m pc ls (.ref a :: rest)) :=
  va_get (D := E.1) B.1 B.2.1 B.ts hin B.ow B.cx.1 hP q0 he hc k hk (B.ts _ hl) (fun _ h9 => h9) hv hdg kk
theorem x_getN (B : Bd p s m args meth c cc nL ret own E A) (hP : va_P E.1 classes ws H) {C host : String} {T : u_T} {N ci index a : Nat} (q0 : Nat) {fs : List Value} (he : ws[q0]? = some (a, .inr (ci, fs))) (hc : classes[ci]? = some (C, T, N)) (hin : ∀ w ∈ u_ws C T N, w ∈ G) (k : Nat) (hk : k < N) (hl : Cond.fieldLinkNest own index (T k).1 (T k).2.1 (T k).2.2.1 host ∈ nests) {v : Value} (hv : fs[k]? = some v) (hdg : decode cc pc = .ok (.getfield index, 3))
    (kk : W p l e R s m args below meth c H locs cells slots Q (F0 m (pc + 3) ls (v :: rest))) : W p l e R s m args below meth c H locs cells slots Q (F0 m pc ls (.ref a :: rest)) :=
  va_getN (D := E.1) B.1 B.2.1 B.ts hin B.ow B.cx.1 hP q0 he hc k hk (va_Nw.use rfl (B.cx.2.1 _ hl)) (fun _ h9 => h9) hv hdg kk
/-- writes of fields -/
theorem x_put (B : Bd p s m args meth c cc nL ret own E A) (hP : va_P E.1 classes ws H) (hD : va_D A ws) (hS : va_S A s.heap H locs) {C : String} {T : u_T} {N ci index a : Nat} (q0 : Nat) {fs : List Value} (he : ws[q0]? = some (a, .inr (ci, fs))) (hc : classes[ci]? = some (C, T, N)) (hin : ∀ w ∈ u_ws C T N, w ∈ G) (ty0 : Nat → FieldType) (hty : ∀ k, k < N → parseFieldDescriptor (T k).2.2.1 = some (ty0 k)) (hnm : ∀ a, a < N → ∀ b, b < N → a ≠ b → (T a).2.1 ≠ (T b).2.1) (k : Nat) (hk : k < N) (hl : Cond.fieldLink own index (T k).1 (T k).2.1 (T k).2.2.1 ∈ G) (hfin : (T k).2.2.2 = false) {v : Value} (hn : narrow (ty0 k) v = v) (hfit : fits (ty0 k) v = true) (hlen : k < fs.length) (hdg : decode cc pc = .ok (.putfield index, 3))
    (kk : ∀ (H1 : Heap) (locs1 : List Loc), va_P E.1 classes (ws.set q0 (a, .inr (ci, fs.set k v))) H1 → va_D A (ws.set q0 (a, .inr (ci, fs.set k v))) → va_S A s.heap H1 locs1 → W p l e R s m args below meth c H1 locs1 cells slots Q (F0 m (pc + 3) ls rest)) : W p l e R s m args below meth c H locs cells slots Q (F0 m pc ls (v :: .ref a :: rest)) :=
  va_put (D := E.1) B.1 B.2.1 B.ts hin ty0 hty hnm B.ow B.cx.1 hP hD hS q0 he hc k hk (B.ts _ hl) (fun _ h9 => h9) hfin (hty k hk) hn hfit hlen hdg kk
theorem x_putF (B : Bd p s m args meth c cc nL ret own E A) (hP : va_P E.1 classes ws H) (hD : va_D A ws) (hS : va_S A s.heap H locs) {C : String} {T : u_T} {N ci index a : Nat} (q0 : Nat) {fs : List Value} (he : ws[q0]? = some (a, .inr (ci, fs))) (hc : classes[ci]? = some (C, T, N)) (hin : ∀ w ∈ u_ws C T N, w ∈ G) (ty0 : Nat → FieldType) (hty : ∀ k, k < N → parseFieldDescriptor (T k).2.2.1 = some (ty0 k)) (hnm : ∀ a, a < N → ∀ b, b < N → a ≠ b → (T a).2.1 ≠ (T b).2.1) (k : Nat) (hk : k < N) (hl : Cond.fieldLink own index (T k).1 (T k).2.1 (T k).2.2.1 ∈ G) (hfin : (T k).2.2.2 = true) (hmn : meth.name = "<init>") (hdecl : (T k).1 = own) {v : Value} (hn : narrow (ty0 k) v = v) (hfit : fits (ty0 k) v = true) (hlen : k < fs.length) (hdg : decode cc pc = .ok (.putfield index, 3))
    (kk : ∀ (H1 : Heap) (locs1 : List Loc), va_P E.1 classes (ws.set q0 (a, .inr (ci, fs.set k v))) H1 → va_D A (ws.set q0 (a, .inr (ci, fs.set k v))) → va_S A s.heap H1 locs1 → W p l e R s m args below meth c H1 locs1 cells slots Q (F0 m (pc + 3) ls rest)) : W p l e R s m args below meth c H locs cells slots Q (F0 m pc ls (v :: .ref a :: rest)) :=
  va_putF (D := E.1) B.1 B.2.1 B.ts hin ty0 hty hnm B.ow B.cx.1 hP hD hS q0 he hc k hk (B.ts _ hl) (fun _ h9 => h9) hfin hmn hdecl (hty k hk) hn hfit hlen hdg kk
/-- arrays of ints: the place is the number k -/
theorem x_ald (B : Bd p s m args meth c cc nL ret own E A) (hP : va_P E.1 classes ws H) (q0 : Nat) {a n : Nat} {f : Nat → Int32} (he : ws[q0]? = some (a, .inl (E.2.1, n, .inl f))) {i : Int32} (k : Nat) (hi : i = nI k) (hk : k < n) (hn : n < 2 ^ 31) (hdg : decode cc pc = .ok (.iaload, 1))
    (kk : W p l e R s m args below meth c H locs cells slots Q (F0 m (pc + 1) ls (.int (f k) :: rest))) : W p l e R s m args below meth c H locs cells slots Q (F0 m pc ls (.int i :: .ref a :: rest)) := by
  subst hi
  refine va_iald (D := E.1) B.1 B.2.1 B.cx.1 hP q0 0 he rfl (vp_in_nI hk hn) hdg ?_
  rw [nI_clamp (Nat.lt_trans hk hn)]
  exact kk
theorem x_ast (B : Bd p s m args meth c cc nL ret own E A) (hP : va_P E.1 classes ws H) (hD : va_D A ws) (hS : va_S A s.heap H locs) (q0 : Nat) {a n : Nat} {f : Nat → Int32} (he : ws[q0]? = some (a, .inl (E.2.1, n, .inl f))) {i x : Int32} (k : Nat) (hi : i = nI k) (hk : k < n) (hn : n < 2 ^ 31) (hdg : decode cc pc = .ok (.iastore, 1))
    (kk : ∀ (H1 : Heap) (locs1 : List Loc), va_P E.1 classes (ws.set q0 (a, .inl (E.2.1, n, .inl (upd f k x)))) H1 → va_D A (ws.set q0 (a, .inl (E.2.1, n, .inl (upd f k x)))) → va_S A s.heap H1 locs1 → W p l e R s m args below meth c H1 locs1 cells slots Q (F0 m (pc + 1) ls rest)) : W p l e R s m args below meth c H locs cells slots Q (F0 m pc ls (.int x :: .int i :: .ref a :: rest)) := by
  subst hi
  refine va_iast (D := E.1) B.1 B.2.1 B.cx.1 hP hD hS q0 0 he rfl (vp_in_nI hk hn) hdg ?_
  rw [nI_clamp (Nat.lt_trans hk hn)]
  exact kk
theorem x_alen (B : Bd p s m args meth c cc nL ret own E A) (hP : va_P E.1 classes ws H) (q0 : Nat) {a n : Nat} {f : Nat → Int32} (he : ws[q0]? = some (a, .inl (E.2.1, n, .inl f))) (hdg : decode cc pc = .ok (.arraylength, 1))
    (kk : W p l e R s m args below meth c H locs cells slots Q (F0 m (pc + 1) ls (.int (nI n) :: rest))) : W p l e R s m args below meth c H locs cells slots Q (F0 m pc ls (.ref a :: rest)) :=
  va_alen (D := E.1) B.1 B.2.1 B.cx.1 hP q0 0 he rfl rfl hdg kk
/-- static tables -/
theorem x_gs (B : Bd p s m args meth c cc nL ret own E A) (hS : va_S A s.heap H locs) {index : Nat} (k : Nat) {t : String × String × Nat × (Nat → Int32)} (ht : tabs[k]? = some t) (hl : Cond.fieldLink own index t.1 t.2.1 "[I" ∈ G) (hdg : decode cc pc = .ok (.getstatic index, 3))
    (kk : W p l e R s m args below meth c H locs cells slots Q (F0 m (pc + 3) ls (.ref (E.2.2.1 k) :: rest))) : W p l e R s m args below meth c H locs cells slots Q (F0 m pc ls rest) :=
  va_gets B.1 B.2.1 ((B.cx.2.2.2 k t ht).1.narrow B.ab) hS B.ow (B.ts _ hl) (fun _ h9 => h9) hdg kk
theorem x_gsN (B : Bd p s m args meth c cc nL ret own E A) (hS : va_S A s.heap H locs) {index : Nat} {host : String} (k : Nat) {t : String × String × Nat × (Nat → Int32)} (ht : tabs[k]? = some t) (hl : Cond.fieldLinkNest own index t.1 t.2.1 "[I" host ∈ nests) (hdg : decode cc pc = .ok (.getstatic index, 3))
    (kk : W p l e R s m args below meth c H locs cells slots Q (F0 m (pc + 3) ls (.ref (E.2.2.1 k) :: rest))) : W p l e R s m args below meth c H locs cells slots Q (F0 m pc ls rest) :=
  va_getsN B.1 B.2.1 ((B.cx.2.2.2 k t ht).1.narrow B.ab) hS B.ow (va_Nw.use rfl (B.cx.2.1 _ hl)) (fun _ h9 => h9) hdg kk
theorem x_tld (B : Bd p s m args meth c cc nL ret own E A) (hS : va_S A s.heap H locs) (k : Nat) {t : String × String × Nat × (Nat → Int32)} (ht : tabs[k]? = some t) {i : Int32} (j : Nat) (hi : i = nI j) (hj : j < t.2.2.1) (hn : t.2.2.1 < 2 ^ 31) (hdg : decode cc pc = .ok (.iaload, 1))
    (kk : W p l e R s m args below meth c H locs cells slots Q (F0 m (pc + 1) ls (.int (t.2.2.2 j) :: rest))) : W p l e R s m args below meth c H locs cells slots Q (F0 m pc ls (.int i :: .ref (E.2.2.1 k) :: rest)) := by
  subst hi
  exact va_ti B.1 B.2.1 ((B.cx.2.2.2 k t ht).2.narrow B.ab) hS (vp_in_nI hj hn) (by rw [nI_clamp (Nat.lt_trans hj hn)]) hdg kk
/-- ends -/
theorem x_vret (B : Bd p s m args meth c cc nL none own E A) (hP : va_P E.1 classes ws H) (hD : va_D A ws) (hS : va_S A s.heap H locs) (hdg : decode cc pc = .ok (.return_, 1)) : W p l e R s m args below meth c H locs 0 0 (MQ below (Wv E A ws) args s 0 0 A) (F0 m pc ls []) :=
  W.vret B.1 B.2.1 B.rt0 (fun t ht _ => ⟨⟨(), rfl, trivial, by rw [ht]; exact hP, hD⟩, hS.F ht⟩) hS.2.2 hdg B.lk
theorem x_nret {post : va_W → Prop} (B : Bd p s m args meth c cc nL none own E A) (hP : va_P E.1 classes ws H) (hD : va_D A ws) (hS : va_S A s.heap H locs) (hdg : decode cc pc = .ok (.return_, 1)) (hw : post ws) : W p l e R s m args below meth c H locs cells slots (MQ below (Wn E A post) args s cells slots A) (F0 m pc ls []) :=
  W.vret B.1 B.2.1 B.rt0 (fun t ht _ => ⟨⟨ws, rfl, hw, by rw [ht]; exact hP, hD⟩, hS.F ht⟩) hS.2.2 hdg B.lk
theorem x_iret {ty : FieldType} {r v : Int32} (B : Bd p s m args meth c cc nL (some ty) own E A) (hP : va_P E.1 classes ws H) (hD : va_D A ws) (hS : va_S A s.heap H locs) (hn : narrow ty (.int v) = .int v) (hv : v = r) (hdg : decode cc pc = .ok (.ireturn, 1)) : W p l e R s m args below meth c H locs 0 0 (MQ below (Wi E A r ws) args s 0 0 A) (F0 m pc ls [.int v]) :=
  W.zret B.1 B.2.1 B.rt0 hn (fun t ht _ => ⟨⟨v, (), rfl, hv, by rw [ht]; exact hP, hD⟩, hS.F ht⟩) hS.2.2 hdg B.lk
def Rm (rm R : Room) (maxL mc ms : Nat) : Prop := rm.frames + 1 ≤ R.frames ∧ 8 + (maxL + 11) + rm.locals ≤ R.locals ∧ rm.cells = mc ∧ rm.slots = ms
theorem fm_of_map {α β : Type} {f : α → Option β} : ∀ {is : List α} {w : List β}, is.map f = w.map some → is.filterMap f = w
  | [], [], _ => rfl
  | [], _ :: _, h => by cases h
  | i :: is, [], h => by cases h
  | i :: is, b :: w, h => by
    rw [List.map_cons, List.map_cons] at h
    have h1 := List.cons.inj h
    rw [List.filterMap_cons, h1.1, fm_of_map h1.2]
/-- the callee's cells wc and the rest wr, by their places -/
def Sp (ws wc wr : va_W) (isC isR : List Nat) : Prop := isC.map (fun i => ws[i]?) = wc.map some ∧ isR.map (fun i => ws[i]?) = wr.map some ∧ va_nd isC = true ∧ va_nd isR = true ∧ ∀ i ∈ isR, i ∉ isC
variable {y : MethodName} {bytes : ByteArray} {maxL n index mc ms : Nat} {rt : Option FieldType} {rm : Room} {As : List Value} {st0 : List Value} {host : String} {b : Nat} {args' : Array Value} {isC isR : List Nat}
theorem x_cb (B : Bd p s m args meth c cc nL ret own E A) (hk : Kd y bytes maxL rt n) (hl : Cond.methodLink own index y ∈ G) (hR : Rm rm R maxL mc ms) : CallB R s args own index y bytes maxL rt (.code y bytes maxL rt :: G) rm mc ms n :=
  callB_of n B.ts (G_goodG hk.1) rfl hR.2.2.1 hR.2.2.2 (B.ts _ hk.2.1) (B.ts _ hl) hk.2.2 ⟨hR.1, hR.2.1⟩
theorem x_cn (B : Bd p s m args meth c cc nL ret own E A) (hk : Kd y bytes maxL rt n) (hl : Cond.methodLinkNest own index y host ∈ nests) (hR : Rm rm R maxL mc ms) : va_CN R s args own index y host bytes maxL rt (.code y bytes maxL rt :: G) rm mc ms n :=
  va_cnB n B.ts (G_goodG hk.1) rfl hR.2.2.1 hR.2.2.2 (B.cx.2.1 _ hl) (B.ts _ hk.2.1) hk.2.2 ⟨hR.1, hR.2.1⟩
/-- how a call goes on: a void one, one that answers, one that makes cells -/
theorem x_gov (B : Bd p s m args meth c cc nL ret own E A) (hr : va_Run p l e R s m args below meth c H locs cells slots 0 0 (F0 m pc ls st0) rest (Wv E (va_A wc H.size) wc' args') (va_A wc H.size)) (hP : va_P E.1 classes ws H) (hD : va_D A ws) (hS : va_S A s.heap H locs) (hp : Sp ws wc wr isC isR)
    (kk : ∀ (H1 : Heap) (locs1 : List Loc), va_P E.1 classes (wr ++ wc') H1 → va_D A (wr ++ wc') → va_S A s.heap H1 locs1 → W p l e R s m args below meth c H1 locs1 cells slots Q (F0 m (pc + 3) ls rest)) : W p l e R s m args below meth c H locs cells slots Q (F0 m pc ls st0) := by
  obtain ⟨hC, hRr, -, hnd, hdis⟩ := hp
  have hF := va_free (wc := wc) hD hS B.ha isC hC
  refine va_callv hr hS (fun q _ h => hF q h) hF (fun u t H1 locs1 ht hvm hw hB hz1 hk1 hS1 => ?_)
  obtain ⟨hP1, hD1⟩ := hB
  rw [ht] at hP1
  obtain ⟨hP2, hD2⟩ := va_join hP hD isC isR hC hRr hnd hdis hk1 hF hP1 hD1
  exact kk H1 locs1 hP2 hD2 hS1
theorem x_goi {r : Int32} (B : Bd p s m args meth c cc nL ret own E A) (hr : va_Run p l e R s m args below meth c H locs cells slots 0 0 (F0 m pc ls st0) rest (Wi E (va_A wc H.size) r wc' args') (va_A wc H.size)) (hP : va_P E.1 classes ws H) (hD : va_D A ws) (hS : va_S A s.heap H locs) (hp : Sp ws wc wr isC isR)
    (kk : ∀ (H1 : Heap) (locs1 : List Loc), va_P E.1 classes (wr ++ wc') H1 → va_D A (wr ++ wc') → va_S A s.heap H1 locs1 → W p l e R s m args below meth c H1 locs1 cells slots Q (F0 m (pc + 3) ls (.int r :: rest))) : W p l e R s m args below meth c H locs cells slots Q (F0 m pc ls st0) := by
  obtain ⟨hC, hRr, -, hnd, hdis⟩ := hp
  have hF := va_free (wc := wc) hD hS B.ha isC hC
  refine va_calli hr hS (fun q _ h => hF q h) hF (fun r' u t H1 locs1 ht hvm hw hB hz1 hk1 hS1 => ?_)
  obtain ⟨hP1, hD1⟩ := hB
  rw [ht] at hP1
  obtain ⟨hP2, hD2⟩ := va_join hP hD isC isR hC hRr hnd hdis hk1 hF hP1 hD1
  rw [show r' = r from hw]
  exact kk H1 locs1 hP2 hD2 hS1
theorem x_gon {post : va_W → Prop} (B : Bd p s m args meth c cc nL ret own E A) (hr : va_Run p l e R s m args below meth c H locs cells slots mc ms (F0 m pc ls st0) rest (Wn E (va_A wc H.size) post args') (va_A wc H.size)) (hP : va_P E.1 classes ws H) (hD : va_D A ws) (hS : va_S A s.heap H locs) (hp : Sp ws wc wr isC isR)
    (kk : ∀ (wc' : va_W) (H1 : Heap) (locs1 : List Loc), post wc' → va_P E.1 classes (wr ++ wc') H1 → va_D A (wr ++ wc') → va_S A s.heap H1 locs1 → W p l e R s m args below meth c H1 locs1 (cells + mc) (slots + ms) Q (F0 m (pc + 3) ls rest)) : W p l e R s m args below meth c H locs cells slots Q (F0 m pc ls st0) := by
  obtain ⟨hC, hRr, -, hnd, hdis⟩ := hp
  have hF := va_free (wc := wc) hD hS B.ha isC hC
  refine va_callv hr hS (fun q _ h => hF q h) hF (fun wc' t H1 locs1 ht hvm hw hB hz1 hk1 hS1 => ?_)
  obtain ⟨hP1, hD1⟩ := hB
  rw [ht] at hP1
  obtain ⟨hP2, hD2⟩ := va_join hP hD isC isR hC hRr hnd hdis hk1 hF hP1 hD1
  exact kk wc' H1 locs1 hw hP2 hD2 hS1
theorem x_Sv (B : Bd p s m args meth c cc nL ret own E A) (hM : Cv l y (.code y bytes maxL none) rm E As wc wc') (hk : Kd y bytes maxL none n) (hl : Cond.methodLink own index y ∈ G) (hs : Cond.static y ∈ G) (hR : Rm rm R maxL 0 0) (hP : va_P E.1 classes ws H) (hD : va_D A ws) (hS : va_S A s.heap H locs) (hp : Sp ws wc wr isC isR) (hlen : As.length = n) (hls : ls.size = nL) (hst : st0 = As.reverse ++ rest) (hcat : (rest.map fun v => v.category).sum ≤ 8) (hdg : decode cc pc = .ok (.invokestatic index, 3)) (hf : cells ≤ R.cells ∧ slots ≤ R.slots)
    (kk : ∀ (H1 : Heap) (locs1 : List Loc), va_P E.1 classes (wr ++ wc') H1 → va_D A (wr ++ wc') → va_S A s.heap H1 locs1 → W p l e R s m args below meth c H1 locs1 cells slots Q (F0 m (pc + 3) ls rest)) : W p l e R s m args below meth c H locs cells slots Q (F0 m pc ls st0) :=
  x_gov B (va_runS ⟨B.1, B.2.1, B.ml, B.ow, B.ts⟩ (hM H.size) ⟨x_cb B hk hl hR, B.ts _ hs⟩ ⟨Pre.blind, B.pre (hP.sub isC (fm_of_map hp.1)) (hD.sub isC hp.2.2.1 hp.1) hS⟩ rfl hlen hls hst (lv_room hcat) hdg hf) hP hD hS hp kk
theorem x_Si {ty : FieldType} {r : Int32} (B : Bd p s m args meth c cc nL ret own E A) (hM : Ci l y (.code y bytes maxL (some ty)) rm E As r wc wc') (hk : Kd y bytes maxL (some ty) n) (hl : Cond.methodLink own index y ∈ G) (hs : Cond.static y ∈ G) (hR : Rm rm R maxL 0 0) (hP : va_P E.1 classes ws H) (hD : va_D A ws) (hS : va_S A s.heap H locs) (hp : Sp ws wc wr isC isR) (hlen : As.length = n) (hls : ls.size = nL) (hst : st0 = As.reverse ++ rest) (hcat : (rest.map fun v => v.category).sum ≤ 8) (hdg : decode cc pc = .ok (.invokestatic index, 3)) (hf : cells ≤ R.cells ∧ slots ≤ R.slots)
    (kk : ∀ (H1 : Heap) (locs1 : List Loc), va_P E.1 classes (wr ++ wc') H1 → va_D A (wr ++ wc') → va_S A s.heap H1 locs1 → W p l e R s m args below meth c H1 locs1 cells slots Q (F0 m (pc + 3) ls (.int r :: rest))) : W p l e R s m args below meth c H locs cells slots Q (F0 m pc ls st0) :=
  x_goi B (va_runS ⟨B.1, B.2.1, B.ml, B.ow, B.ts⟩ (hM H.size) ⟨x_cb B hk hl hR, B.ts _ hs⟩ ⟨Pre.blind, B.pre (hP.sub isC (fm_of_map hp.1)) (hD.sub isC hp.2.2.1 hp.1) hS⟩ rfl hlen hls hst (lv_room hcat) hdg hf) hP hD hS hp kk
theorem x_SNv (B : Bd p s m args meth c cc nL ret own E A) (hM : Cv l y (.code y bytes maxL none) rm E As wc wc') (hk : Kd y bytes maxL none n) (hl : Cond.methodLinkNest own index y host ∈ nests) (hs : Cond.static y ∈ G) (hR : Rm rm R maxL 0 0) (hP : va_P E.1 classes ws H) (hD : va_D A ws) (hS : va_S A s.heap H locs) (hp : Sp ws wc wr isC isR) (hlen : As.length = n) (hls : ls.size = nL) (hst : st0 = As.reverse ++ rest) (hcat : (rest.map fun v => v.category).sum ≤ 8) (hdg : decode cc pc = .ok (.invokestatic index, 3)) (hf : cells ≤ R.cells ∧ slots ≤ R.slots)
    (kk : ∀ (H1 : Heap) (locs1 : List Loc), va_P E.1 classes (wr ++ wc') H1 → va_D A (wr ++ wc') → va_S A s.heap H1 locs1 → W p l e R s m args below meth c H1 locs1 cells slots Q (F0 m (pc + 3) ls rest)) : W p l e R s m args below meth c H locs cells slots Q (F0 m pc ls st0) :=
  x_gov B (va_runSN ⟨B.1, B.2.1, B.ml, B.ow, B.ts⟩ (hM H.size) ⟨x_cn B hk hl hR, B.ts _ hs, trivial⟩ ⟨Pre.blind, B.pre (hP.sub isC (fm_of_map hp.1)) (hD.sub isC hp.2.2.1 hp.1) hS⟩ rfl hlen hls hst (lv_room hcat) hdg hf) hP hD hS hp kk
theorem x_SNi {ty : FieldType} {r : Int32} (B : Bd p s m args meth c cc nL ret own E A) (hM : Ci l y (.code y bytes maxL (some ty)) rm E As r wc wc') (hk : Kd y bytes maxL (some ty) n) (hl : Cond.methodLinkNest own index y host ∈ nests) (hs : Cond.static y ∈ G) (hR : Rm rm R maxL 0 0) (hP : va_P E.1 classes ws H) (hD : va_D A ws) (hS : va_S A s.heap H locs) (hp : Sp ws wc wr isC isR) (hlen : As.length = n) (hls : ls.size = nL) (hst : st0 = As.reverse ++ rest) (hcat : (rest.map fun v => v.category).sum ≤ 8) (hdg : decode cc pc = .ok (.invokestatic index, 3)) (hf : cells ≤ R.cells ∧ slots ≤ R.slots)
    (kk : ∀ (H1 : Heap) (locs1 : List Loc), va_P E.1 classes (wr ++ wc') H1 → va_D A (wr ++ wc') → va_S A s.heap H1 locs1 → W p l e R s m args below meth c H1 locs1 cells slots Q (F0 m (pc + 3) ls (.int r :: rest))) : W p l e R s m args below meth c H locs cells slots Q (F0 m pc ls st0) :=
  x_goi B (va_runSN ⟨B.1, B.2.1, B.ml, B.ow, B.ts⟩ (hM H.size) ⟨x_cn B hk hl hR, B.ts _ hs, trivial⟩ ⟨Pre.blind, B.pre (hP.sub isC (fm_of_map hp.1)) (hD.sub isC hp.2.2.1 hp.1) hS⟩ rfl hlen hls hst (lv_room hcat) hdg hf) hP hD hS hp kk
theorem x_Vv {C : String} {T : u_T} {N ci : Nat} {fs : List Value} (B : Bd p s m args meth c cc nL ret own E A) (hM : Cv l y (.code y bytes maxL none) rm E (.ref b :: As) wc wc') (hk : Kd y bytes maxL none n) (hl : Cond.methodLink own index y ∈ G) (hs : Cond.instanceMethod y ∈ G ∧ Cond.selects C y y ∈ G) (hR : Rm rm R maxL 0 0) (hcl : classes[ci]? = some (C, T, N)) (q0 : Nat) (hrec : ws[q0]? = some (b, .inr (ci, fs))) (hP : va_P E.1 classes ws H) (hD : va_D A ws) (hS : va_S A s.heap H locs) (hp : Sp ws wc wr isC isR) (hlen : As.length = n) (hls : ls.size = nL) (hst : st0 = As.reverse ++ .ref b :: rest) (hcat : (rest.map fun v => v.category).sum ≤ 8) (hdg : decode cc pc = .ok (.invokevirtual index, 3)) (hf : cells ≤ R.cells ∧ slots ≤ R.slots)
    (kk : ∀ (H1 : Heap) (locs1 : List Loc), va_P E.1 classes (wr ++ wc') H1 → va_D A (wr ++ wc') → va_S A s.heap H1 locs1 → W p l e R s m args below meth c H1 locs1 cells slots Q (F0 m (pc + 3) ls rest)) : W p l e R s m args below meth c H locs cells slots Q (F0 m pc ls st0) :=
  x_gov B (va_runV ⟨B.1, B.2.1, B.ml, B.ow, B.ts⟩ (hM H.size) ⟨x_cb B hk hl hR, B.ts _ hs.1, B.ts _ hs.2⟩ ⟨Pre.blind, va_recv B.cx.1 hP hcl hrec, B.pre (hP.sub isC (fm_of_map hp.1)) (hD.sub isC hp.2.2.1 hp.1) hS⟩ rfl hlen hls hst (lv_room hcat) hdg hf) hP hD hS hp kk
theorem x_Vi {ty : FieldType} {r : Int32} {C : String} {T : u_T} {N ci : Nat} {fs : List Value} (B : Bd p s m args meth c cc nL ret own E A) (hM : Ci l y (.code y bytes maxL (some ty)) rm E (.ref b :: As) r wc wc') (hk : Kd y bytes maxL (some ty) n) (hl : Cond.methodLink own index y ∈ G) (hs : Cond.instanceMethod y ∈ G ∧ Cond.selects C y y ∈ G) (hR : Rm rm R maxL 0 0) (hcl : classes[ci]? = some (C, T, N)) (q0 : Nat) (hrec : ws[q0]? = some (b, .inr (ci, fs))) (hP : va_P E.1 classes ws H) (hD : va_D A ws) (hS : va_S A s.heap H locs) (hp : Sp ws wc wr isC isR) (hlen : As.length = n) (hls : ls.size = nL) (hst : st0 = As.reverse ++ .ref b :: rest) (hcat : (rest.map fun v => v.category).sum ≤ 8) (hdg : decode cc pc = .ok (.invokevirtual index, 3)) (hf : cells ≤ R.cells ∧ slots ≤ R.slots)
    (kk : ∀ (H1 : Heap) (locs1 : List Loc), va_P E.1 classes (wr ++ wc') H1 → va_D A (wr ++ wc') → va_S A s.heap H1 locs1 → W p l e R s m args below meth c H1 locs1 cells slots Q (F0 m (pc + 3) ls (.int r :: rest))) : W p l e R s m args below meth c H locs cells slots Q (F0 m pc ls st0) :=
  x_goi B (va_runV ⟨B.1, B.2.1, B.ml, B.ow, B.ts⟩ (hM H.size) ⟨x_cb B hk hl hR, B.ts _ hs.1, B.ts _ hs.2⟩ ⟨Pre.blind, va_recv B.cx.1 hP hcl hrec, B.pre (hP.sub isC (fm_of_map hp.1)) (hD.sub isC hp.2.2.1 hp.1) hS⟩ rfl hlen hls hst (lv_room hcat) hdg hf) hP hD hS hp kk
theorem x_VNv {C : String} {T : u_T} {N ci : Nat} {fs : List Value} (B : Bd p s m args meth c cc nL ret own E A) (hM : Cv l y (.code y bytes maxL none) rm E (.ref b :: As) wc wc') (hk : Kd y bytes maxL none n) (hl : Cond.methodLinkNest own index y host ∈ nests) (hs : Cond.instanceMethod y ∈ G ∧ Cond.selects C y y ∈ G) (hR : Rm rm R maxL 0 0) (hcl : classes[ci]? = some (C, T, N)) (q0 : Nat) (hrec : ws[q0]? = some (b, .inr (ci, fs))) (hP : va_P E.1 classes ws H) (hD : va_D A ws) (hS : va_S A s.heap H locs) (hp : Sp ws wc wr isC isR) (hlen : As.length = n) (hls : ls.size = nL) (hst : st0 = As.reverse ++ .ref b :: rest) (hcat : (rest.map fun v => v.category).sum ≤ 8) (hdg : decode cc pc = .ok (.invokevirtual index, 3)) (hf : cells ≤ R.cells ∧ slots ≤ R.slots)
    (kk : ∀ (H1 : Heap) (locs1 : List Loc), va_P E.1 classes (wr ++ wc') H1 → va_D A (wr ++ wc') → va_S A s.heap H1 locs1 → W p l e R s m args below meth c H1 locs1 cells slots Q (F0 m (pc + 3) ls rest)) : W p l e R s m args below meth c H locs cells slots Q (F0 m pc ls st0) :=
  x_gov B (va_runVN ⟨B.1, B.2.1, B.ml, B.ow, B.ts⟩ (hM H.size) ⟨x_cn B hk hl hR, B.ts _ hs.1, B.ts _ hs.2⟩ ⟨Pre.blind, va_recv B.cx.1 hP hcl hrec, B.pre (hP.sub isC (fm_of_map hp.1)) (hD.sub isC hp.2.2.1 hp.1) hS⟩ rfl hlen hls hst (lv_room hcat) hdg hf) hP hD hS hp kk
theorem x_VNi {ty : FieldType} {r : Int32} {C : String} {T : u_T} {N ci : Nat} {fs : List Value} (B : Bd p s m args meth c cc nL ret own E A) (hM : Ci l y (.code y bytes maxL (some ty)) rm E (.ref b :: As) r wc wc') (hk : Kd y bytes maxL (some ty) n) (hl : Cond.methodLinkNest own index y host ∈ nests) (hs : Cond.instanceMethod y ∈ G ∧ Cond.selects C y y ∈ G) (hR : Rm rm R maxL 0 0) (hcl : classes[ci]? = some (C, T, N)) (q0 : Nat) (hrec : ws[q0]? = some (b, .inr (ci, fs))) (hP : va_P E.1 classes ws H) (hD : va_D A ws) (hS : va_S A s.heap H locs) (hp : Sp ws wc wr isC isR) (hlen : As.length = n) (hls : ls.size = nL) (hst : st0 = As.reverse ++ .ref b :: rest) (hcat : (rest.map fun v => v.category).sum ≤ 8) (hdg : decode cc pc = .ok (.invokevirtual index, 3)) (hf : cells ≤ R.cells ∧ slots ≤ R.slots)
    (kk : ∀ (H1 : Heap) (locs1 : List Loc), va_P E.1 classes (wr ++ wc') H1 → va_D A (wr ++ wc') → va_S A s.heap H1 locs1 → W p l e R s m args below meth c H1 locs1 cells slots Q (F0 m (pc + 3) ls (.int r :: rest))) : W p l e R s m args below meth c H locs cells slots Q (F0 m pc ls st0) :=
  x_goi B (va_runVN ⟨B.1, B.2.1, B.ml, B.ow, B.ts⟩ (hM H.size) ⟨x_cn B hk hl hR, B.ts _ hs.1, B.ts _ hs.2⟩ ⟨Pre.blind, va_recv B.cx.1 hP hcl hrec, B.pre (hP.sub isC (fm_of_map hp.1)) (hD.sub isC hp.2.2.1 hp.1) hS⟩ rfl hlen hls hst (lv_room hcat) hdg hf) hP hD hS hp kk
theorem x_In {post : va_W → Prop} (B : Bd p s m args meth c cc nL ret own E A) (hM : Cn l y (.code y bytes maxL none) rm E (.ref b :: As) wc post) (hk : Kd y bytes maxL none n) (hl : Cond.methodLink own index y ∈ G) (hs : y.name = "<init>" ∧ Cond.instanceMethod y ∈ G) (hR : Rm rm R maxL mc ms) (hP : va_P E.1 classes ws H) (hD : va_D A ws) (hS : va_S A s.heap H locs) (hp : Sp ws wc wr isC isR) (hlen : As.length = n) (hls : ls.size = nL) (hst : st0 = As.reverse ++ .ref b :: rest) (hcat : (rest.map fun v => v.category).sum ≤ 8) (hdg : decode cc pc = .ok (.invokespecial index, 3)) (hf : cells + mc ≤ R.cells ∧ slots + ms ≤ R.slots)
    (kk : ∀ (wc' : va_W) (H1 : Heap) (locs1 : List Loc), post wc' → va_P E.1 classes (wr ++ wc') H1 → va_D A (wr ++ wc') → va_S A s.heap H1 locs1 → W p l e R s m args below meth c H1 locs1 (cells + mc) (slots + ms) Q (F0 m (pc + 3) ls rest)) : W p l e R s m args below meth c H locs cells slots Q (F0 m pc ls st0) :=
by
  obtain ⟨hR1, hR2, rfl, rfl⟩ := hR
  have hR : Rm rm R maxL rm.cells rm.slots := ⟨hR1, hR2, rfl, rfl⟩
  exact x_gon B (va_runI ⟨B.1, B.2.1, B.ml, B.ow, B.ts⟩ (hM H.size) ⟨x_cb B hk hl hR, hs.1, B.ts _ hs.2⟩ ⟨Pre.blind, B.pre (hP.sub isC (fm_of_map hp.1)) (hD.sub isC hp.2.2.1 hp.1) hS⟩ rfl hlen hls hst (lv_room hcat) hdg hf) hP hD hS hp kk
theorem x_INn {post : va_W → Prop} (B : Bd p s m args meth c cc nL ret own E A) (hM : Cn l y (.code y bytes maxL none) rm E (.ref b :: As) wc post) (hk : Kd y bytes maxL none n) (hl : Cond.methodLinkNest own index y host ∈ nests) (hs : y.name = "<init>" ∧ Cond.instanceMethod y ∈ G) (hR : Rm rm R maxL mc ms) (hP : va_P E.1 classes ws H) (hD : va_D A ws) (hS : va_S A s.heap H locs) (hp : Sp ws wc wr isC isR) (hlen : As.length = n) (hls : ls.size = nL) (hst : st0 = As.reverse ++ .ref b :: rest) (hcat : (rest.map fun v => v.category).sum ≤ 8) (hdg : decode cc pc = .ok (.invokespecial index, 3)) (hf : cells + mc ≤ R.cells ∧ slots + ms ≤ R.slots)
    (kk : ∀ (wc' : va_W) (H1 : Heap) (locs1 : List Loc), post wc' → va_P E.1 classes (wr ++ wc') H1 → va_D A (wr ++ wc') → va_S A s.heap H1 locs1 → W p l e R s m args below meth c H1 locs1 (cells + mc) (slots + ms) Q (F0 m (pc + 3) ls rest)) : W p l e R s m args below meth c H locs cells slots Q (F0 m pc ls st0) :=
by
  obtain ⟨hR1, hR2, rfl, rfl⟩ := hR
  have hR : Rm rm R maxL rm.cells rm.slots := ⟨hR1, hR2, rfl, rfl⟩
  exact x_gon B (va_runIN ⟨B.1, B.2.1, B.ml, B.ow, B.ts⟩ (hM H.size) ⟨x_cn B hk hl hR, hs.1, B.ts _ hs.2⟩ ⟨Pre.blind, B.pre (hP.sub isC (fm_of_map hp.1)) (hD.sub isC hp.2.2.1 hp.1) hS⟩ rfl hlen hls hst (lv_room hcat) hdg hf) hP hD hS hp kk
theorem x_Iv (B : Bd p s m args meth c cc nL ret own E A) (hM : Cv l y (.code y bytes maxL none) rm E (.ref b :: As) wc wc') (hk : Kd y bytes maxL none n) (hl : Cond.methodLink own index y ∈ G) (hs : y.name = "<init>" ∧ Cond.instanceMethod y ∈ G) (hR : Rm rm R maxL 0 0) (hP : va_P E.1 classes ws H) (hD : va_D A ws) (hS : va_S A s.heap H locs) (hp : Sp ws wc wr isC isR) (hlen : As.length = n) (hls : ls.size = nL) (hst : st0 = As.reverse ++ .ref b :: rest) (hcat : (rest.map fun v => v.category).sum ≤ 8) (hdg : decode cc pc = .ok (.invokespecial index, 3)) (hf : cells ≤ R.cells ∧ slots ≤ R.slots)
    (kk : ∀ (H1 : Heap) (locs1 : List Loc), va_P E.1 classes (wr ++ wc') H1 → va_D A (wr ++ wc') → va_S A s.heap H1 locs1 → W p l e R s m args below meth c H1 locs1 cells slots Q (F0 m (pc + 3) ls rest)) : W p l e R s m args below meth c H locs cells slots Q (F0 m pc ls st0) :=
  x_gov B (va_runI ⟨B.1, B.2.1, B.ml, B.ow, B.ts⟩ (hM H.size) ⟨x_cb B hk hl hR, hs.1, B.ts _ hs.2⟩ ⟨Pre.blind, B.pre (hP.sub isC (fm_of_map hp.1)) (hD.sub isC hp.2.2.1 hp.1) hS⟩ rfl hlen hls hst (lv_room hcat) hdg hf) hP hD hS hp kk
end BD
/-- a contract out of a walk of the body -/
theorem Cv.of {l : Launch} {y : MethodName} {cc : ByteArray} {nL : Nat} {rm : Room} {E : EE} {as : List Value} {ws ws' : va_W} (hy : plainName y.cls = true) (hn : (lg_sl as).length ≤ nL)
    (body : ∀ (p : Program) (e : Env) (s : State) (m : MethodId) (below : List Frame) (meth : Method) (c : Code) (A : Nat → Prop) (ls : Array Slot), Bd p s m as.toArray meth c cc nL none y.cls E A → va_P E.1 classes ws s.heap → va_D A ws → va_S A s.heap s.heap [] → lv_has ls nL (lv_args 0 as) →
      W p l e rm s m as.toArray below meth c s.heap [] 0 0 (MQ below (Wv E A ws') as.toArray s 0 0 A) (F0 m 0 ls [])) : Cv l y (.code y cc nL none) rm E as ws ws' := by
  intro sz
  refine Met.ofW (cc := cc) (maxL := nL) (ret := none) hy rfl ?_
  intro p e s m args below meth c s₁ B hml hv
  obtain ⟨rfl, hsz, hP, hD, hC⟩ := hv
  subst hsz
  have hts := atoms_spec (ws := .code y cc nL none :: G) B.pre
  rw [lg_entry_eq]
  exact body p e s m below meth c _ _ ⟨B.exec, B.bytes, B.returns, hml, findClass_of_methodNamed B.named, fun w h => hts w (List.mem_cons_of_mem _ h), B.notSynchronized, hC, fun q h => by
    rcases h with ⟨k, e, h⟩ | h
    · exact hD.2 k _ h
    · exact Nat.le_trans hC.2.2.1 h, fun q h => Or.inr h⟩ hP hD.self va_S.rf (lv_entry as hn)
theorem Ci.of {l : Launch} {y : MethodName} {cc : ByteArray} {nL : Nat} {ty : FieldType} {r : Int32} {rm : Room} {E : EE} {as : List Value} {ws ws' : va_W} (hy : plainName y.cls = true) (hn : (lg_sl as).length ≤ nL)
    (body : ∀ (p : Program) (e : Env) (s : State) (m : MethodId) (below : List Frame) (meth : Method) (c : Code) (A : Nat → Prop) (ls : Array Slot), Bd p s m as.toArray meth c cc nL (some ty) y.cls E A → va_P E.1 classes ws s.heap → va_D A ws → va_S A s.heap s.heap [] → lv_has ls nL (lv_args 0 as) →
      W p l e rm s m as.toArray below meth c s.heap [] 0 0 (MQ below (Wi E A r ws') as.toArray s 0 0 A) (F0 m 0 ls [])) : Ci l y (.code y cc nL (some ty)) rm E as r ws ws' := by
  intro sz
  refine Met.ofW (cc := cc) (maxL := nL) (ret := some ty) hy rfl ?_
  intro p e s m args below meth c s₁ B hml hv
  obtain ⟨rfl, hsz, hP, hD, hC⟩ := hv
  subst hsz
  have hts := atoms_spec (ws := .code y cc nL (some ty) :: G) B.pre
  rw [lg_entry_eq]
  exact body p e s m below meth c _ _ ⟨B.exec, B.bytes, B.returns, hml, findClass_of_methodNamed B.named, fun w h => hts w (List.mem_cons_of_mem _ h), B.notSynchronized, hC, fun q h => by
    rcases h with ⟨k, e, h⟩ | h
    · exact hD.2 k _ h
    · exact Nat.le_trans hC.2.2.1 h, fun q h => Or.inr h⟩ hP hD.self va_S.rf (lv_entry as hn)
theorem Cn.of {l : Launch} {y : MethodName} {cc : ByteArray} {nL : Nat} {post : va_W → Prop} {rm : Room} {E : EE} {as : List Value} {ws : va_W} (hy : plainName y.cls = true) (hn : (lg_sl as).length ≤ nL)
    (body : ∀ (p : Program) (e : Env) (s : State) (m : MethodId) (below : List Frame) (meth : Method) (c : Code) (A : Nat → Prop) (ls : Array Slot), Bd p s m as.toArray meth c cc nL none y.cls E A → meth.name = y.name → va_P E.1 classes ws s.heap → va_D A ws → va_S A s.heap s.heap [] → lv_has ls nL (lv_args 0 as) →
      W p l e rm s m as.toArray below meth c s.heap [] 0 0 (MQ below (Wn E A post) as.toArray s rm.cells rm.slots A) (F0 m 0 ls [])) : Cn l y (.code y cc nL none) rm E as ws post := by
  intro sz
  refine Met.ofW (cc := cc) (maxL := nL) (ret := none) hy rfl ?_
  intro p e s m args below meth c s₁ B hml hv
  obtain ⟨rfl, hsz, hP, hD, hC⟩ := hv
  subst hsz
  have hts := atoms_spec (ws := .code y cc nL none :: G) B.pre
  rw [lg_entry_eq]
  exact body p e s m below meth c _ _ ⟨B.exec, B.bytes, B.returns, hml, findClass_of_methodNamed B.named, fun w h => hts w (List.mem_cons_of_mem _ h), B.notSynchronized, hC, fun q h => by
    rcases h with ⟨k, e, h⟩ | h
    · exact hD.2 k _ h
    · exact Nat.le_trans hC.2.2.1 h, fun q h => Or.inr h⟩ (name_of_methodNamed B.named B.method).1 hP hD.self va_S.rf (lv_entry as hn)
section BN
variable {p : Program} {l : Launch} {e : Env} {R : Room} {s : State} {m : MethodId} {args : Array Value} {below : List Frame} {meth : Method} {c : Code} {H : Heap} {locs : List Loc} {cells slots : Nat} {Q : State → Prop}
variable {cc : ByteArray} {nL : Nat} {ret : Option FieldType} {own : String} {E : EE} {A : Nat → Prop} {ws : va_W} {pc : Nat} {ls : Array Slot} {rest : List Value}
/-- a new array of N ints, all 0 -/
theorem x_newa (B : Bd p s m args meth c cc nL ret own E A) (hP : va_P E.1 classes ws H) (hD : va_D A ws) (hS : va_S A s.heap H locs) (harr : Cond.arrayClass .int ∈ G) {n : Int32} (N : Nat) (hn : n = nI N) (hN : N ≤ 1000) (hcells : cells + 1 ≤ R.cells) (hslots : slots + N ≤ R.slots) (hdg : decode cc pc = .ok (.newarray .int, 2))
    (kk : ∀ (q : Nat) (H1 : Heap), va_P E.1 classes (ws ++ [(q, .inl (E.2.1, N, .inl (fun _ => 0)))]) H1 → va_D A (ws ++ [(q, .inl (E.2.1, N, .inl (fun _ => 0)))]) → va_S A s.heap H1 locs → W p l e R s m args below meth c H1 locs (cells + 1) (slots + N) Q (F0 m (pc + 2) ls (.ref q :: rest))) : W p l e R s m args below meth c H locs cells slots Q (F0 m pc ls (.int n :: rest)) := by
  subst hn
  refine va_newa (D := E.1) (atype := .int) (ty := .int) (N' := N) (a0 := (N, .inl (fun _ => 0))) B.1 B.2.1 (B.ts _ harr) rfl B.cx.1 hP hD hS B.ha (fun _ => rfl) (nI_pos (by omega)) (nI_clamp (by omega)) (by rw [show componentBytes .int = 4 from rfl]; omega) hcells hslots hdg (fun q cA H1 hK hP hD hS => ?_)
  have h0 := va_nm_int (hK.2 0 _ rfl).2
  have h1 := va_nm_int (hK.2 2 (cA, .int) rfl).2
  have e : cA = E.2.1 := Option.some.inj (h1.symm.trans h0)
  subst e
  exact kk q H1 hP hD hS
/-- a new array of N booleans, all false -/
theorem x_newz (B : Bd p s m args meth c cc nL ret own E A) (hP : va_P E.1 classes ws H) (hD : va_D A ws) (hS : va_S A s.heap H locs) (harr : Cond.arrayClass .boolean ∈ G) {n : Int32} (N : Nat) (hn : n = nI N) (hN : N ≤ 1000) (hcells : cells + 1 ≤ R.cells) (hslots : slots + N ≤ R.slots) (hdg : decode cc pc = .ok (.newarray .boolean, 2))
    (kk : ∀ (q : Nat) (H1 : Heap), va_P E.1 classes (ws ++ [(q, .inl (E.2.2.2.2, N, .inl (fun _ => 0)))]) H1 → va_D A (ws ++ [(q, .inl (E.2.2.2.2, N, .inl (fun _ => 0)))]) → va_S A s.heap H1 locs → W p l e R s m args below meth c H1 locs (cells + 1) (slots + N) Q (F0 m (pc + 2) ls (.ref q :: rest))) : W p l e R s m args below meth c H locs cells slots Q (F0 m pc ls (.int n :: rest)) := by
  subst hn
  refine va_newa (D := E.1) (atype := .boolean) (ty := .boolean) (N' := N) (a0 := (N, .inl (fun _ => 0))) B.1 B.2.1 (B.ts _ harr) rfl B.cx.1 hP hD hS B.ha (fun _ => rfl) (nI_pos (by omega)) (nI_clamp (by omega)) (by rw [show componentBytes .boolean = 1 from rfl]; omega) hcells hslots hdg (fun q cA H1 hK hP hD hS => ?_)
  have h0 := va_nm_boolean (hK.2 1 _ rfl).2
  have h1 := va_nm_boolean (hK.2 2 (cA, .boolean) rfl).2
  have e : cA = E.2.2.2.2 := Option.some.inj (h1.symm.trans h0)
  subst e
  exact kk q H1 hP hD hS
/-- arrays of booleans -/
theorem x_zld (B : Bd p s m args meth c cc nL ret own E A) (hP : va_P E.1 classes ws H) (q0 : Nat) {a n : Nat} {f : Nat → Int32} (he : ws[q0]? = some (a, .inl (E.2.2.2.2, n, .inl f))) {i : Int32} (k : Nat) (hi : i = nI k) (hk : k < n) (hn : n < 2 ^ 31) (hdg : decode cc pc = .ok (.baload, 1))
    (kk : W p l e R s m args below meth c H locs cells slots Q (F0 m (pc + 1) ls (.int (f k) :: rest))) : W p l e R s m args below meth c H locs cells slots Q (F0 m pc ls (.int i :: .ref a :: rest)) := by
  subst hi
  refine va_zald (D := E.1) B.1 B.2.1 B.cx.1 hP q0 1 he rfl (vp_in_nI hk hn) hdg ?_
  rw [nI_clamp (Nat.lt_trans hk hn)]
  exact kk
theorem x_zst (B : Bd p s m args meth c cc nL ret own E A) (hP : va_P E.1 classes ws H) (hD : va_D A ws) (hS : va_S A s.heap H locs) (q0 : Nat) {a n : Nat} {f : Nat → Int32} (he : ws[q0]? = some (a, .inl (E.2.2.2.2, n, .inl f))) {i x : Int32} (k : Nat) (hi : i = nI k) (hk : k < n) (hn : n < 2 ^ 31) (hx : vp_nar .boolean x = x) (hdg : decode cc pc = .ok (.bastore, 1))
    (kk : ∀ (H1 : Heap) (locs1 : List Loc), va_P E.1 classes (ws.set q0 (a, .inl (E.2.2.2.2, n, .inl (upd f k x)))) H1 → va_D A (ws.set q0 (a, .inl (E.2.2.2.2, n, .inl (upd f k x)))) → va_S A s.heap H1 locs1 → W p l e R s m args below meth c H1 locs1 cells slots Q (F0 m (pc + 1) ls rest)) : W p l e R s m args below meth c H locs cells slots Q (F0 m pc ls (.int x :: .int i :: .ref a :: rest)) := by
  subst hi
  refine va_zast (D := E.1) B.1 B.2.1 B.cx.1 hP hD hS q0 1 he rfl (vp_in_nI hk hn) hdg ?_
  rw [nI_clamp (Nat.lt_trans hk hn), hx]
  exact kk
/-- a new object -/
theorem x_new (B : Bd p s m args meth c cc nL ret own E A) (hP : va_P E.1 classes ws H) (hD : va_D A ws) (hS : va_S A s.heap H locs) {C : String} {T : u_T} {N ci index : Nat} (hc : classes[ci]? = some (C, T, N)) (hin : ∀ w ∈ u_ws C T N, w ∈ G) (ty : Nat → FieldType) (hty : ∀ k, k < N → parseFieldDescriptor (T k).2.2.1 = some (ty k)) (hl : Cond.classLink own index C ∈ G ∧ Cond.instantiable C N ∈ G ∧ Cond.initialized C ∈ G) (fs : List Value) (hfs : ∀ j, j < N → defaultValue (ty j) = vp_V fs j) (hcells : cells + 1 ≤ R.cells) (hslots : slots + N ≤ R.slots) (hdg : decode cc pc = .ok (.new index, 3))
    (kk : ∀ (q : Nat) (H1 : Heap), va_P E.1 classes (ws ++ [(q, .inr (ci, fs))]) H1 → va_D A (ws ++ [(q, .inr (ci, fs))]) → va_S A s.heap H1 locs → W p l e R s m args below meth c H1 locs (cells + 1) (slots + N) Q (F0 m (pc + 3) ls (.ref q :: rest))) : W p l e R s m args below meth c H locs cells slots Q (F0 m pc ls rest) :=
  va_new (D := E.1) B.1 B.2.1 B.ts hin ty hty B.ow (B.ts _ hl.1) (B.ts _ hl.2.1) (B.ts _ hl.2.2) B.cx.1 hP hD hS B.ha hc hfs hcells hslots hdg kk
/-- the constructor of Object -/
theorem x_obj (B : Bd p s m args meth c cc nL ret own E A) {index a : Nat} (hl : Cond.methodLink own index objectInit ∈ G) (ho : Cond.instanceMethod objectInit ∈ G ∧ Cond.code objectInit ⟨#[0xb1]⟩ 1 none ∈ G) (hls : ls.size = nL) (hcat : (rest.map fun v => v.category).sum ≤ 8) (hR : 1 ≤ R.frames ∧ 20 ≤ R.locals) (hdg : decode cc pc = .ok (.invokespecial index, 3))
    (kk : W p l e R s m args below meth c H locs cells slots Q (F0 m (pc + 3) ls rest)) : W p l e R s m args below meth c H locs cells slots Q (F0 m pc ls (.ref a :: rest)) :=
  W.objInit B.1 B.2.1 B.ow (B.ts _ hl) (B.ts _ ho.1) (B.ts _ ho.2) rfl (by rw [B.ml]; exact hls) rfl hdg hR.1 (Nat.le_trans (Nat.add_le_add_right (lv_room hcat) 12) hR.2) kk
/-- System.arraycopy(a, 0, b, 0, n) between two arrays of ints -/
theorem x_copy (B : Bd p s m args meth c cc nL ret own E A) (hP : va_P E.1 classes ws H) (hD : va_D A ws) (hS : va_S A s.heap H locs) {index : Nat} (hl : Cond.methodLink own index arraycopyName ∈ G) (hw : Cond.native arraycopyName ∈ G ∧ Cond.static arraycopyName ∈ G ∧ Cond.initialized "java/lang/System" ∈ G) (hls : ls.size = nL) (q0 q1 : Nat) {a0 a1 n0 n1 : Nat} {f g : Nat → Int32} (h0 : ws[q0]? = some (a0, .inl (E.2.1, n0, .inl f))) (h1 : ws[q1]? = some (a1, .inl (E.2.1, n1, .inl g))) {n : Int32} (N : Nat) (hn : n = nI N) (hN : N < 2 ^ 31) (hn0 : N ≤ n0) (hn1 : N ≤ n1) (hfr : 1 ≤ R.frames) (hlo : (rest.map fun v => v.category).sum + (nativeFrameWords "java/lang/System" "arraycopy" 5 + 11) ≤ R.locals) (hdg : decode cc pc = .ok (.invokestatic index, 3))
    (kk : ∀ (H1 : Heap) (locs1 : List Loc), va_P E.1 classes (ws.set q1 (a1, .inl (E.2.1, n1, .inl (va_cpy f g 0 0 N)))) H1 → va_D A (ws.set q1 (a1, .inl (E.2.1, n1, .inl (va_cpy f g 0 0 N)))) → va_S A s.heap H1 locs1 → W p l e R s m args below meth c H1 locs1 cells slots Q (F0 m (pc + 3) ls rest)) : W p l e R s m args below meth c H locs cells slots Q (F0 m pc ls (.int n :: .int 0 :: .ref a1 :: .int 0 :: .ref a0 :: rest)) := by
  subst hn
  have z0 : (0 : Int32).toNatClampNeg = 0 := rfl
  refine va_copyi (D := E.1) B.1 B.2.1 (by rw [B.ml]; exact hls.symm) B.ow (B.ts _ hl) (B.ts _ hw.1) (B.ts _ hw.2.1) (B.ts _ hw.2.2) B.cx.1 hP hD hS q0 q1 0 0 h0 h1 rfl rfl rfl (by decide) (by decide) (nI_pos hN) (by rw [z0, nI_clamp hN]; omega) (by rw [z0, nI_clamp hN]; omega) (fun i _ => rfl) hfr hlo hdg ?_
  rw [z0, nI_clamp hN]
  exact kk
end BN
