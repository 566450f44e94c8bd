/-! Contracts of one form: the method's whole world before (w), behind it f u; frame va_A w sz. -/
def gPc (G : va_G) (cl : List vw_C) (tys : List (ClassId × FieldType)) (av : List Value) (w : va_W) (sz : Nat) : Array Value → State → Prop := va_Pc av (fun U => U.heap.size = sz ∧ va_P G cl w U.heap ∧ va_K G cl tys U ∧ va_D (fun _ => True) w)
def gB {S : Type} (G : va_G) (cl : List vw_C) (tys : List (ClassId × FieldType)) (w0 : va_W) (sz : Nat) (f : S → va_W) (u : S) (t : State) : Prop := va_P G cl (f u) t.heap ∧ va_K G cl tys t ∧ va_D (va_A w0 sz) (f u)
def xCls : List String := ["java/lang/IllegalArgumentException", "java/lang/IllegalStateException", "java/lang/IndexOutOfBoundsException", "java/lang/UnsupportedOperationException", "java/util/NoSuchElementException"]
def xDec : List MethodName := [Bundle.initS "java/lang/RuntimeException", Bundle.initS "java/lang/Exception", Bundle.initS Bundle.tN]
/-- what a throw needs: two statics of Throwable, the texts' cells, that an exception's class is its own -/
def gTh (tx : List (String × Nat × String)) (A : Nat → Prop) (U : State) (H : Heap) : Prop :=
  vx_Zq Bundle.tN "UNASSIGNED_STACK" Bundle.steD A U H ∧ vx_Zq Bundle.tN "SUPPRESSED_SENTINEL" Bundle.listD A U H ∧ (∀ q ∈ tx, ∃ sa, vk_R q.1 q.2.1 q.2.2 sa U) ∧ (∀ E ∈ xCls, va_Nw (.castable E E) U) ∧ ∀ y ∈ xDec, va_Nw (.declares y) U
def gPx (tx : List (String × Nat × String)) (G : va_G) (cl : List vw_C) (tys : List (ClassId × FieldType)) (av : List Value) (w : va_W) (sz : Nat) : Array Value → State → Prop := va_Pc av (fun U => U.heap.size = sz ∧ va_P G cl w U.heap ∧ va_K G cl tys U ∧ va_D (fun _ => True) w ∧ gTh tx (va_A w sz) U U.heap)
/-- the machine, the method's code and words -/
def MC (p : Program) (s : State) (m : MethodId) (args : Array Value) (meth : Method) (c : Code) (cc : ByteArray) (maxL : Nat) (ret : Option FieldType) (own : String) (ws : List Cond) : Prop :=
  p.tables.exec = Jvm.exec ∧ c.code = cc ∧ meth.sig.returnType = ret ∧ c.maxLocals = maxL ∧ s.vm.findClass own = some m.cls ∧ (∀ w ∈ ws, w.before args s = true) ∧ meth.locks = false
section GB
variable {p : Program} {l : Launch} {e : Env} {R : Room} {s : State} {m : MethodId} {args : Array Value} {below : List Frame} {meth : Method} {c : Code} {H : Heap} {locs : List Loc} {cells slots : Nat} {Q : State → Prop}
variable {G : va_G} {cl : List vw_C} {tys : List (ClassId × FieldType)} {w w0 : va_W} {sz mc ms pc : Nat} {ls : Array Slot} {rest st0 : List Value} {a : Array Value} {A0 : Nat → Prop} {free : Addr → Prop} {tx : List (String × Nat × String)}
theorem gPc_bl {av : List Value} : FrameBlind (gPc G cl tys av w sz) := by
  intro a U g mk q
  obtain ⟨q0, q1, qP, qK, qD⟩ := q
  exact ⟨q0, q1, qP, va_K.moved (u := U) (U := U.calling g mk a) (Vm.Alike.refl U.vm) qK, qD⟩
theorem gTh.moved {A : Nat → Prop} {U V : State} {h : Heap} (hW : U.WarmedH V.vm) (q : gTh tx A U h) : gTh tx A V h :=
  ⟨vx_Zq.moved hW.alike q.1, vx_Zq.moved hW.alike q.2.1, fun x hx => let ⟨sa, h1⟩ := q.2.2.1 x hx; ⟨sa, vk_R.warm hW h1⟩, fun E hE => va_Nw.warmC hW (q.2.2.2.1 E hE), fun y hy => va_Nw.warmD hW (q.2.2.2.2 y hy)⟩
theorem gTh.calling {A : Nat → Prop} {U : State} {h : Heap} {g : JFrame} {mk : MethodId} {a : Array Value} (q : gTh tx A U h) : gTh tx A (U.calling g mk a) h :=
  ⟨vx_Zq.moved (u := U) (U := U.calling g mk a) (Vm.Alike.refl U.vm) q.1, vx_Zq.moved (u := U) (U := U.calling g mk a) (Vm.Alike.refl U.vm) q.2.1, fun x hx => let ⟨sa, h1⟩ := q.2.2.1 x hx; ⟨sa, vk_R.same (u := U) (U := U.calling g mk a) rfl h1⟩, fun E hE => va_Nw.same (w := .castable E E) rfl rfl (q.2.2.2.1 E hE), fun y hy => va_Nw.same (w := .declares y) rfl rfl (q.2.2.2.2 y hy)⟩
theorem gTh.kept {A : Nat → Prop} {U : State} {h h1 : Heap} (q : gTh tx A U h) (hq : ∀ a : Nat, a < h.size → ¬ A a → h1[a]? = h[a]?) : gTh tx A U h1 := ⟨q.1.kept hq, q.2.1.kept hq, q.2.2⟩
theorem gTh.narrow {A B : Nat → Prop} {U : State} {h : Heap} (q : gTh tx A U h) (hAB : ∀ x, B x → A x) : gTh tx B U h := ⟨q.1.narrow hAB, q.2.1.narrow hAB, q.2.2⟩
theorem gPx_bl {av : List Value} : FrameBlind (gPx tx G cl tys av w sz) := by
  intro a U g mk q
  obtain ⟨q0, q1, qP, qK, qD, qT⟩ := q
  exact ⟨q0, q1, qP, va_K.moved (u := U) (U := U.calling g mk a) (Vm.Alike.refl U.vm) qK, qD, gTh.calling qT⟩
theorem gF (hS : va_S A0 s.heap H locs) (hD : va_D A0 w) (hA : ∀ q : Nat, s.heap.size ≤ q → A0 q) : ∀ q, va_A w H.size q → A0 q := by
  intro q h
  rcases h with ⟨k, e9, h⟩ | h
  · exact hD.2 k _ h
  · exact hA q (Nat.le_trans hS.1 h)
theorem gpre (hK : va_K G cl tys s) (hP : va_P G cl w H) (hD : va_D A0 w) {av : List Value} : ∀ U : State, U.heap = H → s.WarmedH U.vm → gPc G cl tys av w H.size av.toArray U := fun U hU hW =>
  ⟨rfl, by rw [hU], by rw [hU]; exact hP, va_K.moved hW.alike hK, hD.weaken (fun _ _ _ _ => trivial)⟩
theorem gprex (hK : va_K G cl tys s) (hP : va_P G cl w H) (hD : va_D A0 w) (hT : gTh tx A0 s s.heap) (hS : va_S A0 s.heap H locs) (hA : ∀ q : Nat, s.heap.size ≤ q → A0 q) {av : List Value} : ∀ U : State, U.heap = H → s.WarmedH U.vm → gPx tx G cl tys av w H.size av.toArray U := fun U hU hW =>
  ⟨rfl, by rw [hU], by rw [hU]; exact hP, va_K.moved hW.alike hK, hD.weaken (fun _ _ _ _ => trivial), by rw [hU]; exact gTh.moved hW ((hT.kept hS.2.1).narrow (gF hS hD hA))⟩
-- the call itself: virtual, static; of a method that doesn't throw, of one that may
theorem gV {cc bytes : ByteArray} {nL maxL n index : Nat} {Ts ws : List Cond} {own C : String} {y : MethodName} {ret : Option FieldType} {rm : Room} {Qc : Array Value → State → Outcome → State → Prop} {b ci : Nat} {fs : List Value} {T : u_T} {N : Nat}
    (S : CallFix p m c cc nL s args Ts own) (As : List Value) (hM : Met l y ws rm (gPc G cl tys (.ref b :: As) w H.size) Qc mc ms free) (cw : CallW R s args own C index y bytes maxL ret ws rm mc ms n)
    (hK : va_K G cl tys s) (hP : va_P G cl w H) (hD : va_D A0 w) (q0 : Nat) (he : w[q0]? = some (b, .inr (ci, fs))) (hc : cl[ci]? = some (C, T, N)) (hn : As.length = n) (hsize : ls.size = nL) (hW : (rest.map fun v => v.category).sum ≤ 8)
    (hdg : decode cc pc = .ok (.invokevirtual index, 3)) (hf : cells + mc ≤ R.cells ∧ slots + ms ≤ R.slots) :
    va_Run p l e R s m args below meth c H locs cells slots mc ms (F0 m pc ls (As.reverse ++ .ref b :: rest)) rest (Qc (Value.ref b :: As).toArray) free :=
  va_runV S hM cw ⟨gPc_bl, va_recv hK hP hc he, gpre hK hP hD⟩ rfl hn hsize rfl (lv_room hW) hdg hf
theorem gS {cc bytes : ByteArray} {nL maxL n index : Nat} {Ts ws : List Cond} {own : String} {y : MethodName} {ret : Option FieldType} {rm : Room} {Qc : Array Value → State → Outcome → State → Prop}
    (S : CallFix p m c cc nL s args Ts own) (As : List Value) (hM : Met l y ws rm (gPc G cl tys As w H.size) Qc mc ms free) (cw : CallB R s args own index y bytes maxL ret ws rm mc ms n ∧ (Cond.static y).before args s = true)
    (hK : va_K G cl tys s) (hP : va_P G cl w H) (hD : va_D A0 w) (hn : As.length = n) (hsize : ls.size = nL) (hW : (rest.map fun v => v.category).sum ≤ 8)
    (hdg : decode cc pc = .ok (.invokestatic index, 3)) (hf : cells + mc ≤ R.cells ∧ slots + ms ≤ R.slots) :
    va_Run p l e R s m args below meth c H locs cells slots mc ms (F0 m pc ls (As.reverse ++ rest)) rest (Qc As.toArray) free :=
  va_runS S hM cw ⟨gPc_bl, gpre hK hP hD⟩ rfl hn hsize rfl (lv_room hW) hdg hf
theorem gVx {cc bytes : ByteArray} {nL maxL n index : Nat} {Ts ws : List Cond} {own C : String} {y : MethodName} {ret : Option FieldType} {rm : Room} {Qc : Array Value → State → Outcome → State → Prop} {XC : String → State → State → Prop} {b ci : Nat} {fs : List Value} {T : u_T} {N : Nat}
    (S : CallFix p m c cc nL s args Ts own) (As : List Value) (hM : vx_Met l y ws rm (gPx tx G cl tys (.ref b :: As) w H.size) Qc XC mc ms free) (cw : CallW R s args own C index y bytes maxL ret ws rm mc ms n)
    (hK : va_K G cl tys s) (hP : va_P G cl w H) (hD : va_D A0 w) (hT : gTh tx A0 s s.heap) (hS : va_S A0 s.heap H locs) (hA : ∀ q : Nat, s.heap.size ≤ q → A0 q) (q0 : Nat) (he : w[q0]? = some (b, .inr (ci, fs))) (hc : cl[ci]? = some (C, T, N)) (hn : As.length = n) (hsize : ls.size = nL) (hW : (rest.map fun v => v.category).sum ≤ 8)
    (hdg : decode cc pc = .ok (.invokevirtual index, 3)) (hf : cells + mc ≤ R.cells ∧ slots + ms ≤ R.slots) :
    vx_Run p l e R s m args below meth c H locs cells slots mc ms (F0 m pc ls (As.reverse ++ .ref b :: rest)) rest (Qc (Value.ref b :: As).toArray) XC free :=
  vx_runV S hM cw ⟨gPx_bl, va_recv hK hP hc he, gprex hK hP hD hT hS hA⟩ rfl hn hsize rfl (lv_room hW) hdg hf
theorem gSx {cc bytes : ByteArray} {nL maxL n index : Nat} {Ts ws : List Cond} {own : String} {y : MethodName} {ret : Option FieldType} {rm : Room} {Qc : Array Value → State → Outcome → State → Prop} {XC : String → State → State → Prop}
    (S : CallFix p m c cc nL s args Ts own) (As : List Value) (hM : vx_Met l y ws rm (gPx tx G cl tys As w H.size) Qc XC mc ms free) (cw : CallB R s args own index y bytes maxL ret ws rm mc ms n ∧ (Cond.static y).before args s = true)
    (hK : va_K G cl tys s) (hP : va_P G cl w H) (hD : va_D A0 w) (hT : gTh tx A0 s s.heap) (hS : va_S A0 s.heap H locs) (hA : ∀ q : Nat, s.heap.size ≤ q → A0 q) (hn : As.length = n) (hsize : ls.size = nL) (hW : (rest.map fun v => v.category).sum ≤ 8)
    (hdg : decode cc pc = .ok (.invokestatic index, 3)) (hf : cells + mc ≤ R.cells ∧ slots + ms ≤ R.slots) :
    vx_Run p l e R s m args below meth c H locs cells slots mc ms (F0 m pc ls (As.reverse ++ rest)) rest (Qc As.toArray) XC free :=
  vx_runS S hM cw ⟨gPx_bl, gprex hK hP hD hT hS hA⟩ rfl hn hsize rfl (lv_room hW) hdg hf
-- the ends: R reads, W writes, T may throw, X writes and may throw; i int, l long, v void
def qRi (G : va_G) (cl : List vw_C) (tys : List (ClassId × FieldType)) (w : va_W) (sz : Nat) (O : Int32) := va_Qi (fun r (_ : Unit) => r = O) (gB G cl tys w sz (fun _ => w)) (va_A w sz)
def qRl (G : va_G) (cl : List vw_C) (tys : List (ClassId × FieldType)) (w : va_W) (sz : Nat) (O : Int64) := va_Ql (fun r (_ : Unit) => r = O) (gB G cl tys w sz (fun _ => w)) (va_A w sz)
def qWi {S : Type} (G : va_G) (cl : List vw_C) (tys : List (ClassId × FieldType)) (w : va_W) (sz : Nat) (f : (Nat → Nat) → S → va_W) (O : S × Int32) := va_Qi (fun r (u : (Nat → Nat) × S) => O = (u.2, r)) (gB G cl tys w sz (fun u => f u.1 u.2)) (va_A w sz)
def qWv {S : Type} (G : va_G) (cl : List vw_C) (tys : List (ClassId × FieldType)) (w : va_W) (sz : Nat) (f : (Nat → Nat) → S → va_W) (O : S × Unit) := va_Qv (fun (u : (Nat → Nat) × S) => O = (u.2, ())) (gB G cl tys w sz (fun u => f u.1 u.2)) (va_A w sz)
def qTi (G : va_G) (cl : List vw_C) (tys : List (ClassId × FieldType)) (w : va_W) (sz : Nat) (O : String ⊕ Int32) := va_Qi (fun r (_ : Unit) => O = .inr r) (gB G cl tys w sz (fun _ => w)) (va_A w sz)
def qTl (G : va_G) (cl : List vw_C) (tys : List (ClassId × FieldType)) (w : va_W) (sz : Nat) (O : String ⊕ Int64) := va_Ql (fun r (_ : Unit) => O = .inr r) (gB G cl tys w sz (fun _ => w)) (va_A w sz)
def qTv (G : va_G) (cl : List vw_C) (tys : List (ClassId × FieldType)) (w : va_W) (sz : Nat) (O : String ⊕ Unit) := va_Qv (fun (_ : Unit) => O = .inr ()) (gB G cl tys w sz (fun _ => w)) (va_A w sz)
def qXi {S : Type} (G : va_G) (cl : List vw_C) (tys : List (ClassId × FieldType)) (w : va_W) (sz : Nat) (f : (Nat → Nat) → S → va_W) (O : S × (String ⊕ Int32)) := va_Qi (fun r (u : (Nat → Nat) × S) => O = (u.2, .inr r)) (gB G cl tys w sz (fun u => f u.1 u.2)) (va_A w sz)
def qXv {S : Type} (G : va_G) (cl : List vw_C) (tys : List (ClassId × FieldType)) (w : va_W) (sz : Nat) (f : (Nat → Nat) → S → va_W) (O : S × (String ⊕ Unit)) := va_Qv (fun (u : (Nat → Nat) × S) => O = (u.2, .inr ())) (gB G cl tys w sz (fun u => f u.1 u.2)) (va_A w sz)
def xT {V : Type} (G : va_G) (cl : List vw_C) (tys : List (ClassId × FieldType)) (w : va_W) (sz : Nat) (O : String ⊕ V) := vx_X (fun (_ : Unit) => True) (fun E u t => O = .inl E ∧ gB G cl tys w sz (fun (_ : Unit) => w) u t) (va_A w sz)
def xX {S V : Type} (G : va_G) (cl : List vw_C) (tys : List (ClassId × FieldType)) (w : va_W) (sz : Nat) (f : (Nat → Nat) → S → va_W) (O : S × (String ⊕ V)) := vx_X (fun (_ : (Nat → Nat) × S) => True) (fun E u t => O = (u.2, .inl E) ∧ gB G cl tys w sz (fun u => f u.1 u.2) u t) (va_A w sz)
-- behind a call that returns
theorem gcRi {O : Int32} (hr : va_Run p l e R s m args below meth c H locs cells slots mc ms (F0 m pc ls st0) rest (qRi G cl tys w H.size O a) (va_A w H.size)) (hS : va_S A0 s.heap H locs) (hD : va_D A0 w) (hA : ∀ q : Nat, s.heap.size ≤ q → A0 q)
    (kk : ∀ (H1 : Heap) (locs1 : List Loc), va_P G cl w H1 → va_S A0 s.heap H1 locs1 → W p l e R s m args below meth c H1 locs1 (cells + mc) (slots + ms) Q (F0 m (pc + 3) ls (.int O :: rest))) : W p l e R s m args below meth c H locs cells slots Q (F0 m pc ls st0) := by
  have hF := gF hS hD hA
  refine va_calli hr hS (fun q _ h => hF q h) hF (fun r u t H1 locs1 ht hvm hw hB hz hk hS1 => ?_)
  subst hw
  exact kk H1 locs1 (by rw [← ht]; exact hB.1) hS1
theorem gcRl {O : Int64} (hr : va_Run p l e R s m args below meth c H locs cells slots mc ms (F0 m pc ls st0) rest (qRl G cl tys w H.size O a) (va_A w H.size)) (hS : va_S A0 s.heap H locs) (hD : va_D A0 w) (hA : ∀ q : Nat, s.heap.size ≤ q → A0 q)
    (kk : ∀ (H1 : Heap) (locs1 : List Loc), va_P G cl w H1 → va_S A0 s.heap H1 locs1 → W p l e R s m args below meth c H1 locs1 (cells + mc) (slots + ms) Q (F0 m (pc + 3) ls (.long O :: rest))) : W p l e R s m args below meth c H locs cells slots Q (F0 m pc ls st0) := by
  have hF := gF hS hD hA
  refine va_calll hr hS (fun q _ h => hF q h) hF (fun r u t H1 locs1 ht hvm hw hB hz hk hS1 => ?_)
  subst hw
  exact kk H1 locs1 (by rw [← ht]; exact hB.1) hS1
theorem gcWi {S : Type} {f : (Nat → Nat) → S → va_W} {z1 : S} {r1 : Int32} (hr : va_Run p l e R s m args below meth c H locs cells slots mc ms (F0 m pc ls st0) rest (qWi G cl tys w H.size f (z1, r1) a) (va_A w H.size)) (hS : va_S A0 s.heap H locs) (hD : va_D A0 w) (hA : ∀ q : Nat, s.heap.size ≤ q → A0 q)
    (kk : ∀ (A1 : Nat → Nat) (H1 : Heap) (locs1 : List Loc), va_P G cl (f A1 z1) H1 → va_D A0 (f A1 z1) → va_S A0 s.heap H1 locs1 → W p l e R s m args below meth c H1 locs1 (cells + mc) (slots + ms) Q (F0 m (pc + 3) ls (.int r1 :: rest))) : W p l e R s m args below meth c H locs cells slots Q (F0 m pc ls st0) := by
  have hF := gF hS hD hA
  refine va_calli hr hS (fun q _ h => hF q h) hF (fun r u t H1 locs1 ht hvm hw hB hz hk hS1 => ?_)
  obtain ⟨A1, z2⟩ := u
  cases hw
  exact kk A1 H1 locs1 (by rw [← ht]; exact hB.1) (hB.2.2.weaken (fun k q _ h => hF q.1 h)) hS1
theorem gcWv {S : Type} {f : (Nat → Nat) → S → va_W} {z1 : S} {o1 : Unit} (hr : va_Run p l e R s m args below meth c H locs cells slots mc ms (F0 m pc ls st0) rest (qWv G cl tys w H.size f (z1, o1) a) (va_A w H.size)) (hS : va_S A0 s.heap H locs) (hD : va_D A0 w) (hA : ∀ q : Nat, s.heap.size ≤ q → A0 q)
    (kk : ∀ (A1 : Nat → Nat) (H1 : Heap) (locs1 : List Loc), va_P G cl (f A1 z1) H1 → va_D A0 (f A1 z1) → va_S A0 s.heap H1 locs1 → W p l e R s m args below meth c H1 locs1 (cells + mc) (slots + ms) Q (F0 m (pc + 3) ls rest)) : W p l e R s m args below meth c H locs cells slots Q (F0 m pc ls st0) := by
  have hF := gF hS hD hA
  refine va_callv hr hS (fun q _ h => hF q h) hF (fun u t H1 locs1 ht hvm hw hB hz hk hS1 => ?_)
  obtain ⟨A1, z2⟩ := u
  cases hw
  exact kk A1 H1 locs1 (by rw [← ht]; exact hB.1) (hB.2.2.weaken (fun k q _ h => hF q.1 h)) hS1
-- behind a call that may throw, and returns
theorem gcTi {r1 : Int32} (hr : vx_Run p l e R s m args below meth c H locs cells slots mc ms (F0 m pc ls st0) rest (qTi G cl tys w H.size (.inr r1) a) (xT G cl tys w H.size (.inr r1 : String ⊕ Int32)) (va_A w H.size)) (hS : va_S A0 s.heap H locs) (hD : va_D A0 w) (hA : ∀ q : Nat, s.heap.size ≤ q → A0 q)
    (kk : ∀ (H1 : Heap) (locs1 : List Loc), va_P G cl w H1 → va_S A0 s.heap H1 locs1 → W p l e R s m args below meth c H1 locs1 (cells + mc) (slots + ms) Q (F0 m (pc + 3) ls (.int r1 :: rest))) : W p l e R s m args below meth c H locs cells slots Q (F0 m pc ls st0) := by
  have hF := gF hS hD hA
  refine vx_calli hr hS (fun q _ h => hF q h) hF (fun q _ h => hF q h) (fun E ce q9 u t H1 locs1 ht hvm hp hB hz hk hS1 _ _ _ => nomatch hB.1) (fun r u t H1 locs1 ht hvm hw hB hz hk hS1 => ?_)
  cases hw
  exact kk H1 locs1 (by rw [← ht]; exact hB.1) hS1
theorem gcTl {r1 : Int64} (hr : vx_Run p l e R s m args below meth c H locs cells slots mc ms (F0 m pc ls st0) rest (qTl G cl tys w H.size (.inr r1) a) (xT G cl tys w H.size (.inr r1 : String ⊕ Int64)) (va_A w H.size)) (hS : va_S A0 s.heap H locs) (hD : va_D A0 w) (hA : ∀ q : Nat, s.heap.size ≤ q → A0 q)
    (kk : ∀ (H1 : Heap) (locs1 : List Loc), va_P G cl w H1 → va_S A0 s.heap H1 locs1 → W p l e R s m args below meth c H1 locs1 (cells + mc) (slots + ms) Q (F0 m (pc + 3) ls (.long r1 :: rest))) : W p l e R s m args below meth c H locs cells slots Q (F0 m pc ls st0) := by
  have hF := gF hS hD hA
  refine vx_calll hr hS (fun q _ h => hF q h) hF (fun q _ h => hF q h) (fun E ce q9 u t H1 locs1 ht hvm hp hB hz hk hS1 _ _ _ => nomatch hB.1) (fun r u t H1 locs1 ht hvm hw hB hz hk hS1 => ?_)
  cases hw
  exact kk H1 locs1 (by rw [← ht]; exact hB.1) hS1
theorem gcTv {o1 : Unit} (hr : vx_Run p l e R s m args below meth c H locs cells slots mc ms (F0 m pc ls st0) rest (qTv G cl tys w H.size (.inr o1) a) (xT G cl tys w H.size (.inr o1 : String ⊕ Unit)) (va_A w H.size)) (hS : va_S A0 s.heap H locs) (hD : va_D A0 w) (hA : ∀ q : Nat, s.heap.size ≤ q → A0 q)
    (kk : ∀ (H1 : Heap) (locs1 : List Loc), va_P G cl w H1 → va_S A0 s.heap H1 locs1 → W p l e R s m args below meth c H1 locs1 (cells + mc) (slots + ms) Q (F0 m (pc + 3) ls rest)) : W p l e R s m args below meth c H locs cells slots Q (F0 m pc ls st0) := by
  have hF := gF hS hD hA
  refine vx_callv hr hS (fun q _ h => hF q h) hF (fun q _ h => hF q h) (fun E ce q9 u t H1 locs1 ht hvm hp hB hz hk hS1 _ _ _ => nomatch hB.1) (fun u t H1 locs1 ht hvm hw hB hz hk hS1 => ?_)
  exact kk H1 locs1 (by rw [← ht]; exact hB.1) hS1
theorem gcXi {S : Type} {f : (Nat → Nat) → S → va_W} {z1 : S} {r1 : Int32} (hr : vx_Run p l e R s m args below meth c H locs cells slots mc ms (F0 m pc ls st0) rest (qXi G cl tys w H.size f (z1, .inr r1) a) (xX G cl tys w H.size f (z1, (.inr r1 : String ⊕ Int32))) (va_A w H.size)) (hS : va_S A0 s.heap H locs) (hD : va_D A0 w) (hA : ∀ q : Nat, s.heap.size ≤ q → A0 q)
    (kk : ∀ (A1 : Nat → Nat) (H1 : Heap) (locs1 : List Loc), va_P G cl (f A1 z1) H1 → va_D A0 (f A1 z1) → va_S A0 s.heap H1 locs1 → W p l e R s m args below meth c H1 locs1 (cells + mc) (slots + ms) Q (F0 m (pc + 3) ls (.int r1 :: rest))) : W p l e R s m args below meth c H locs cells slots Q (F0 m pc ls st0) := by
  have hF := gF hS hD hA
  refine vx_calli hr hS (fun q _ h => hF q h) hF (fun q _ h => hF q h) (fun E ce q9 u t H1 locs1 ht hvm hp hB hz hk hS1 _ _ _ => by have h9 := hB.1; cases h9) (fun r u t H1 locs1 ht hvm hw hB hz hk hS1 => ?_)
  obtain ⟨A1, z2⟩ := u
  cases hw
  exact kk A1 H1 locs1 (by rw [← ht]; exact hB.1) (hB.2.2.weaken (fun k q _ h => hF q.1 h)) hS1
theorem gcXv {S : Type} {f : (Nat → Nat) → S → va_W} {z1 : S} {o1 : Unit} (hr : vx_Run p l e R s m args below meth c H locs cells slots mc ms (F0 m pc ls st0) rest (qXv G cl tys w H.size f (z1, .inr o1) a) (xX G cl tys w H.size f (z1, (.inr o1 : String ⊕ Unit))) (va_A w H.size)) (hS : va_S A0 s.heap H locs) (hD : va_D A0 w) (hA : ∀ q : Nat, s.heap.size ≤ q → A0 q)
    (kk : ∀ (A1 : Nat → Nat) (H1 : Heap) (locs1 : List Loc), va_P G cl (f A1 z1) H1 → va_D A0 (f A1 z1) → va_S A0 s.heap H1 locs1 → W p l e R s m args below meth c H1 locs1 (cells + mc) (slots + ms) Q (F0 m (pc + 3) ls rest)) : W p l e R s m args below meth c H locs cells slots Q (F0 m pc ls st0) := by
  have hF := gF hS hD hA
  refine vx_callv hr hS (fun q _ h => hF q h) hF (fun q _ h => hF q h) (fun E ce q9 u t H1 locs1 ht hvm hp hB hz hk hS1 _ _ _ => by have h9 := hB.1; cases h9) (fun u t H1 locs1 ht hvm hw hB hz hk hS1 => ?_)
  obtain ⟨A1, z2⟩ := u
  cases hw
  exact kk A1 H1 locs1 (by rw [← ht]; exact hB.1) (hB.2.2.weaken (fun k q _ h => hF q.1 h)) hS1
-- a callee has thrown, and there is no handler here: the caller ends so too
theorem goutT {V1 V2 : Type} {E1 : String} {Qa : State → Outcome → State → Prop} {Qc : Array Value → State → Outcome → State → Prop} {mcT msT : Nat} (hr : vx_Run p l e R s m args below meth c H locs cells slots mc ms (F0 m pc ls st0) rest Qa (xT G cl tys w H.size (.inl E1 : String ⊕ V1)) (va_A w H.size))
    (hno : ∀ st v t, ¬ Qa st (.returned v) t) (hS : va_S (va_A w s.heap.size) s.heap H locs) (hD : va_D (va_A w s.heap.size) w) (hK : va_K G cl tys s) (hE : ∀ x ∈ c.exceptionTable.toList, False) (hlocks : meth.locks = false) (hc : cells + mc ≤ mcT) (hs : slots + ms ≤ msT) :
    W p l e R s m args below meth c H locs cells slots (vx_MQ below Qc (xT G cl tys w s.heap.size (.inl E1 : String ⊕ V2)) args s mcT msT (va_A w s.heap.size)) (F0 m pc ls st0) := by
  have hA : ∀ q : Nat, s.heap.size ≤ q → va_A w s.heap.size q := fun q h => Or.inr h
  have hF := gF hS hD hA
  intro T hT X
  rcases hr T hT X with ⟨v, st₀, t, T', L, h0, X', hL, e1, e2, hq, st⟩ | ⟨q, st₀, t, T', L, E, ce, h0, X', hL, e1, e2, ⟨u, hp, ⟨hO, hB⟩, hFr⟩, hce, hcv, hcl, st⟩
  · exact absurd hq (hno _ _ _)
  · cases hO
    obtain ⟨k1, k2, k3⟩ := vx_keep h0 e1 hS (fun q _ h => hF q h) hF hL hFr
    obtain ⟨t2, a1, b1⟩ := vx_out (Qc := Qc) (XC := xT G cl tys w s.heap.size (.inl E1 : String ⊕ V2)) (free := va_A w s.heap.size) (R := R) (ls := ls) (pc := pc) (rest := rest) (mc := mcT) (ms := msT) (fun x hx => (hE x hx).elim) hlocks (by rw [e1]; exact hce) hcv hcl
      (fun t' ht' hv' => ⟨(), trivial, ⟨rfl, by rw [ht', e1]; exact hB.1, va_K.moved hv' hK, hD⟩, k3.F ht'⟩) k3.2.2 hc hs T' rfl X'
    exact ⟨t2, st.trans a1, b1⟩
theorem goutX {S V1 V2 : Type} {f : (Nat → Nat) → S → va_W} {E1 : String} {A9 : Nat → Nat} {z9 : S} {Qa : State → Outcome → State → Prop} {Qc : Array Value → State → Outcome → State → Prop} {mcT msT : Nat} (hr : vx_Run p l e R s m args below meth c H locs cells slots mc ms (F0 m pc ls st0) rest Qa (xT G cl tys (f A9 z9) H.size (.inl E1 : String ⊕ V1)) (va_A (f A9 z9) H.size))
    (hno : ∀ st v t, ¬ Qa st (.returned v) t) (hS : va_S (va_A w s.heap.size) s.heap H locs) (hD : va_D (va_A w s.heap.size) (f A9 z9)) (hK : va_K G cl tys s) (hE : ∀ x ∈ c.exceptionTable.toList, False) (hlocks : meth.locks = false) (hc : cells + mc ≤ mcT) (hs : slots + ms ≤ msT) :
    W p l e R s m args below meth c H locs cells slots (vx_MQ below Qc (xX G cl tys w s.heap.size f (z9, (.inl E1 : String ⊕ V2))) args s mcT msT (va_A w s.heap.size)) (F0 m pc ls st0) := by
  have hA : ∀ q : Nat, s.heap.size ≤ q → va_A w s.heap.size q := fun q h => Or.inr h
  have hF := gF hS hD hA
  intro T hT X
  rcases hr T hT X with ⟨v, st₀, t, T', L, h0, X', hL, e1, e2, hq, st⟩ | ⟨q, st₀, t, T', L, E, ce, h0, X', hL, e1, e2, ⟨u, hp, ⟨hO, hB⟩, hFr⟩, hce, hcv, hcl, st⟩
  · exact absurd hq (hno _ _ _)
  · cases hO
    obtain ⟨k1, k2, k3⟩ := vx_keep h0 e1 hS (fun q _ h => hF q h) hF hL hFr
    obtain ⟨t2, a1, b1⟩ := vx_out (Qc := Qc) (XC := xX G cl tys w s.heap.size f (z9, (.inl E1 : String ⊕ V2))) (free := va_A w s.heap.size) (R := R) (ls := ls) (pc := pc) (rest := rest) (mc := mcT) (ms := msT) (fun x hx => (hE x hx).elim) hlocks (by rw [e1]; exact hce) hcv hcl
      (fun t' ht' hv' => ⟨(A9, z9), trivial, ⟨rfl, by rw [ht', e1]; exact hB.1, va_K.moved hv' hK, hD⟩, k3.F ht'⟩) k3.2.2 hc hs T' rfl X'
    exact ⟨t2, st.trans a1, b1⟩
theorem goutXX {S V1 V2 : Type} {f : (Nat → Nat) → S → va_W} {E1 : String} {w9 : va_W} {z1 : S} {Qa : State → Outcome → State → Prop} {Qc : Array Value → State → Outcome → State → Prop} {mcT msT : Nat} (hr : vx_Run p l e R s m args below meth c H locs cells slots mc ms (F0 m pc ls st0) rest Qa (xX G cl tys w9 H.size f (z1, (.inl E1 : String ⊕ V1))) (va_A w9 H.size))
    (hno : ∀ st v t, ¬ Qa st (.returned v) t) (hS : va_S (va_A w s.heap.size) s.heap H locs) (hD : va_D (va_A w s.heap.size) w9) (hK : va_K G cl tys s) (hE : ∀ x ∈ c.exceptionTable.toList, False) (hlocks : meth.locks = false) (hc : cells + mc ≤ mcT) (hs : slots + ms ≤ msT) :
    W p l e R s m args below meth c H locs cells slots (vx_MQ below Qc (xX G cl tys w s.heap.size f (z1, (.inl E1 : String ⊕ V2))) args s mcT msT (va_A w s.heap.size)) (F0 m pc ls st0) := by
  have hA : ∀ q : Nat, s.heap.size ≤ q → va_A w s.heap.size q := fun q h => Or.inr h
  have hF := gF hS hD hA
  intro T hT X
  rcases hr T hT X with ⟨v, st₀, t, T', L, h0, X', hL, e1, e2, hq, st⟩ | ⟨q, st₀, t, T', L, E, ce, h0, X', hL, e1, e2, ⟨⟨A1, z2⟩, hp, ⟨hO, hB⟩, hFr⟩, hce, hcv, hcl, st⟩
  · exact absurd hq (hno _ _ _)
  · cases hO
    obtain ⟨k1, k2, k3⟩ := vx_keep h0 e1 hS (fun q _ h => hF q h) hF hL hFr
    obtain ⟨t2, a1, b1⟩ := vx_out (Qc := Qc) (XC := xX G cl tys w s.heap.size f (z2, (.inl E1 : String ⊕ V2))) (free := va_A w s.heap.size) (R := R) (ls := ls) (pc := pc) (rest := rest) (mc := mcT) (ms := msT) (fun x hx => (hE x hx).elim) hlocks (by rw [e1]; exact hce) hcv hcl
      (fun t' ht' hv' => ⟨(A1, z2), trivial, ⟨rfl, by rw [ht', e1]; exact hB.1, va_K.moved hv' hK, hB.2.2.weaken (fun k q _ h => hF q.1 h)⟩, k3.F ht'⟩) k3.2.2 hc hs T' rfl X'
    exact ⟨t2, st.trans a1, b1⟩
-- a thrown end is no answer
theorem noTi {E : String} : ∀ st v t, ¬ qTi G cl tys w sz (.inl E) a st (.returned v) t := by
  intro st v t h
  obtain ⟨⟨r, u, -, hp, -⟩, -⟩ := h
  cases hp
theorem noTl {E : String} : ∀ st v t, ¬ qTl G cl tys w sz (.inl E) a st (.returned v) t := by
  intro st v t h
  obtain ⟨⟨r, u, -, hp, -⟩, -⟩ := h
  cases hp
theorem noTv {E : String} : ∀ st v t, ¬ qTv G cl tys w sz (.inl E) a st (.returned v) t := by
  intro st v t h
  obtain ⟨⟨u, -, hp, -⟩, -⟩ := h
  cases hp
theorem noXi {S : Type} {f : (Nat → Nat) → S → va_W} {z1 : S} {E : String} : ∀ st v t, ¬ qXi G cl tys w sz f (z1, .inl E) a st (.returned v) t := by
  intro st v t h
  obtain ⟨⟨r, u, -, hp, -⟩, -⟩ := h
  cases hp
theorem noXv {S : Type} {f : (Nat → Nat) → S → va_W} {z1 : S} {E : String} : ∀ st v t, ¬ qXv G cl tys w sz f (z1, .inl E) a st (.returned v) t := by
  intro st v t h
  obtain ⟨⟨u, -, hp, -⟩, -⟩ := h
  cases hp
-- throw new E("text")
theorem gthr0 {Ts : List Cond} {cc : ByteArray} {own cls text : String} {names : List String} {ik is ic : Nat} {Qc : Array Value → State → Outcome → State → Prop} {XC : String → State → State → Prop} (hx : p.tables.exec = Jvm.exec) (hb : c.code = cc) (hl0 : l.stackTraces = false) (hown : s.vm.findClass own = some m.cls) (hts : ∀ w ∈ Ts, w.before args s = true)
    (hcls : Bundle.fit cls = true) (hnames : ∀ n ∈ names, Bundle.fit n = true) (hk : Cond.classLink own ik cls ∈ Ts) (hini : Cond.initialized cls ∈ Ts) (htx : (own, is, text) ∈ tx) (hat : ∀ w ∈ (vx_atS own ic cls names).filter goodWord, w ∈ Ts) (hat2 : ∀ w ∈ (vx_atS own ic cls names).filter (fun w => !goodWord w), w ∈ [Cond.castable cls cls, Cond.declares (Bundle.initS "java/lang/RuntimeException"), Cond.declares (Bundle.initS "java/lang/Exception"), Cond.declares (Bundle.initS Bundle.tN)]) (hxc : cls ∈ xCls)
    (hgood : ∀ w ∈ Cond.classLink own ik cls :: Cond.initialized cls :: vx_atS own ic cls names, vx_ot w = true) (hT : gTh tx A0 s s.heap) (hS : va_S A0 s.heap H locs) (hsize : ls.size = c.maxLocals)
    (d0 : decode cc pc = .ok (.new ik, 3)) (d3 : decode cc (pc + 3) = .ok (.dup, 1)) (d4 : decode cc (pc + 4) = .ok (.ldc is, 2)) (d6 : decode cc (pc + 6) = .ok (.invokespecial ic, 3)) (d9 : decode cc (pc + 9) = .ok (.athrow, 1)) (hE : ∀ x ∈ c.exceptionTable.toList, False)
    (hRframes : names.length + 3 < R.frames) (hRlocals : (rest.map fun v => v.category).sum + (13 * (names.length + 1) + 43) ≤ R.locals) (hRcells : cells + 1 ≤ R.cells) (hRslots : slots + 6 ≤ R.slots) (hlocks : meth.locks = false)
    (hq : ∀ t : State, s.vm.Alike t.vm → H.size ≤ t.heap.size → (∀ q : Nat, q < H.size → t.heap[q]? = H[q]?) → XC cls s t) (hf : ∀ z ∈ locs, free z.base) (hc : cells + 1 ≤ mc) (hs : slots + 6 ≤ ms) :
    W p l e R s m args below meth c H locs cells slots (vx_MQ below Qc XC args s mc ms free) (F0 m pc ls rest) := by
  obtain ⟨hU, hN, hX, hC, hDc⟩ := hT
  obtain ⟨sa, hstr⟩ := hX _ htx
  exact vx_throwS hx hb hl0 hown hcls hnames (hts _ hk) (hts _ hini) hstr (vx_hat (fun w h => hts w (hat w h)) hat2 (vx_c (va_Nw.use rfl (hC cls hxc)) (vx_c (va_Nw.use rfl (hDc _ (by simp [xDec]))) (vx_c (va_Nw.use rfl (hDc _ (by simp [xDec]))) (vx_c (va_Nw.use rfl (hDc _ (by simp [xDec]))) vx_n))))) hgood hU hN hS hsize d0 d3 d4 d6 d9 (fun x hx => (hE x hx).elim) hRframes hRlocals hRcells hRslots hlocks hq hf hc hs
theorem gkept (hP : va_P G cl w H) {t : State} (hk : ∀ q : Nat, q < H.size → t.heap[q]? = H[q]?) : va_P G cl w t.heap := hP.kept (fun k q h => hk q.1 (hP k q h).lt)
theorem gkeptF (hS : va_S A0 s.heap H locs) {t : State} (hz : H.size ≤ t.heap.size) (hk : ∀ q : Nat, q < H.size → t.heap[q]? = H[q]?) : va_F A0 s t := ⟨Nat.le_trans hS.1 hz, fun q h1 h2 => by rw [hk q (Nat.lt_of_lt_of_le h1 hS.1)]; exact hS.2.1 q h1 h2⟩
theorem gqT {V : Type} {cls : String} (hP : va_P G cl w H) (hK : va_K G cl tys s) (hD : va_D (va_A w s.heap.size) w) (hS : va_S (va_A w s.heap.size) s.heap H locs) : ∀ t : State, s.vm.Alike t.vm → H.size ≤ t.heap.size → (∀ q : Nat, q < H.size → t.heap[q]? = H[q]?) → xT G cl tys w s.heap.size (.inl cls : String ⊕ V) cls s t :=
  fun t hv hz hk => ⟨(), trivial, ⟨rfl, gkept hP hk, va_K.moved hv hK, hD⟩, gkeptF hS hz hk⟩
theorem gqX {S V : Type} {f : (Nat → Nat) → S → va_W} {A1 : Nat → Nat} {z1 : S} {cls : String} (hP : va_P G cl (f A1 z1) H) (hK : va_K G cl tys s) (hD : va_D (va_A w s.heap.size) (f A1 z1)) (hS : va_S (va_A w s.heap.size) s.heap H locs) : ∀ t : State, s.vm.Alike t.vm → H.size ≤ t.heap.size → (∀ q : Nat, q < H.size → t.heap[q]? = H[q]?) → xX G cl tys w s.heap.size f (z1, (.inl cls : String ⊕ V)) cls s t :=
  fun t hv hz hk => ⟨(A1, z1), trivial, ⟨rfl, gkept hP hk, va_K.moved hv hK, hD⟩, gkeptF hS hz hk⟩
-- the answers
theorem grRi {cc : ByteArray} {O : Int32} (hx : p.tables.exec = Jvm.exec) (hb : c.code = cc) (hr : meth.sig.returnType = some .int) (hlocks : meth.locks = false) (hP : va_P G cl w H) (hK : va_K G cl tys s) (hD : va_D (va_A w s.heap.size) w) (hS : va_S (va_A w s.heap.size) s.heap H locs) (hdg : decode cc pc = .ok (.ireturn, 1)) (hc : cells ≤ mc) (hs : slots ≤ ms) :
    W p l e R s m args below meth c H locs cells slots (MQ below (qRi G cl tys w s.heap.size O) args s mc ms (va_A w s.heap.size)) (F0 m pc ls [.int O]) :=
  W.widen hc hs (W.iret hx hb hr (fun t ht hW => ⟨⟨O, (), rfl, rfl, by rw [ht]; exact hP, va_K.moved hW.alike hK, hD⟩, hS.F ht⟩) hS.2.2 hdg)
theorem grRz {cc : ByteArray} {O : Int32} (hn : narrow .boolean (.int O) = .int O) (hx : p.tables.exec = Jvm.exec) (hb : c.code = cc) (hr : meth.sig.returnType = some .boolean) (hlocks : meth.locks = false) (hP : va_P G cl w H) (hK : va_K G cl tys s) (hD : va_D (va_A w s.heap.size) w) (hS : va_S (va_A w s.heap.size) s.heap H locs) (hdg : decode cc pc = .ok (.ireturn, 1)) (hc : cells ≤ mc) (hs : slots ≤ ms) :
    W p l e R s m args below meth c H locs cells slots (MQ below (qRi G cl tys w s.heap.size O) args s mc ms (va_A w s.heap.size)) (F0 m pc ls [.int O]) :=
  W.widen hc hs (W.zret hx hb hr hn (fun t ht hW => ⟨⟨O, (), rfl, rfl, by rw [ht]; exact hP, va_K.moved hW.alike hK, hD⟩, hS.F ht⟩) hS.2.2 hdg)
theorem grRl {cc : ByteArray} {O : Int64} (hx : p.tables.exec = Jvm.exec) (hb : c.code = cc) (hr : meth.sig.returnType = some .long) (hlocks : meth.locks = false) (hP : va_P G cl w H) (hK : va_K G cl tys s) (hD : va_D (va_A w s.heap.size) w) (hS : va_S (va_A w s.heap.size) s.heap H locs) (hdg : decode cc pc = .ok (.lreturn, 1)) (hc : cells ≤ mc) (hs : slots ≤ ms) :
    W p l e R s m args below meth c H locs cells slots (MQ below (qRl G cl tys w s.heap.size O) args s mc ms (va_A w s.heap.size)) (F0 m pc ls [.long O]) :=
  W.widen hc hs (W.lret hx hb hr (fun t ht hW => ⟨⟨O, (), rfl, rfl, by rw [ht]; exact hP, va_K.moved hW.alike hK, hD⟩, hS.F ht⟩) hS.2.2 hdg)
theorem grWi {S : Type} {f : (Nat → Nat) → S → va_W} {A1 : Nat → Nat} {z1 : S} {cc : ByteArray} {r1 : Int32} (hx : p.tables.exec = Jvm.exec) (hb : c.code = cc) (hr : meth.sig.returnType = some .int) (hlocks : meth.locks = false) (hP : va_P G cl (f A1 z1) H) (hK : va_K G cl tys s) (hD : va_D (va_A w s.heap.size) (f A1 z1)) (hS : va_S (va_A w s.heap.size) s.heap H locs) (hdg : decode cc pc = .ok (.ireturn, 1)) (hc : cells ≤ mc) (hs : slots ≤ ms) :
    W p l e R s m args below meth c H locs cells slots (MQ below (qWi G cl tys w s.heap.size f (z1, r1)) args s mc ms (va_A w s.heap.size)) (F0 m pc ls [.int r1]) :=
  W.widen hc hs (W.iret hx hb hr (fun t ht hW => ⟨⟨r1, (A1, z1), rfl, rfl, by rw [ht]; exact hP, va_K.moved hW.alike hK, hD⟩, hS.F ht⟩) hS.2.2 hdg)
theorem grWv {S : Type} {f : (Nat → Nat) → S → va_W} {A1 : Nat → Nat} {z1 : S} {cc : ByteArray} {o1 : Unit} (hx : p.tables.exec = Jvm.exec) (hb : c.code = cc) (hr : meth.sig.returnType = none) (hlocks : meth.locks = false) (hP : va_P G cl (f A1 z1) H) (hK : va_K G cl tys s) (hD : va_D (va_A w s.heap.size) (f A1 z1)) (hS : va_S (va_A w s.heap.size) s.heap H locs) (hdg : decode cc pc = .ok (.return_, 1)) (hc : cells ≤ mc) (hs : slots ≤ ms) :
    W p l e R s m args below meth c H locs cells slots (MQ below (qWv G cl tys w s.heap.size f (z1, o1)) args s mc ms (va_A w s.heap.size)) (F0 m pc ls []) :=
  W.widen hc hs (W.vret hx hb hr (fun t ht hW => ⟨⟨(A1, z1), rfl, rfl, by rw [ht]; exact hP, va_K.moved hW.alike hK, hD⟩, hS.F ht⟩) hS.2.2 hdg)
theorem grTi {XC : String → State → State → Prop} {cc : ByteArray} {O : Int32} (hx : p.tables.exec = Jvm.exec) (hb : c.code = cc) (hr : meth.sig.returnType = some .int) (hlocks : meth.locks = false) (hP : va_P G cl w H) (hK : va_K G cl tys s) (hD : va_D (va_A w s.heap.size) w) (hS : va_S (va_A w s.heap.size) s.heap H locs) (hdg : decode cc pc = .ok (.ireturn, 1)) (hc : cells ≤ mc) (hs : slots ≤ ms) :
    W p l e R s m args below meth c H locs cells slots (vx_MQ below (qTi G cl tys w s.heap.size (.inr O)) XC args s mc ms (va_A w s.heap.size)) (F0 m pc ls [.int O]) :=
  vx_ret (W.widen hc hs (W.iret hx hb hr (fun t ht hW => ⟨⟨O, (), rfl, rfl, by rw [ht]; exact hP, va_K.moved hW.alike hK, hD⟩, hS.F ht⟩) hS.2.2 hdg))
theorem grTz {XC : String → State → State → Prop} {cc : ByteArray} {O : Int32} (hn : narrow .boolean (.int O) = .int O) (hx : p.tables.exec = Jvm.exec) (hb : c.code = cc) (hr : meth.sig.returnType = some .boolean) (hlocks : meth.locks = false) (hP : va_P G cl w H) (hK : va_K G cl tys s) (hD : va_D (va_A w s.heap.size) w) (hS : va_S (va_A w s.heap.size) s.heap H locs) (hdg : decode cc pc = .ok (.ireturn, 1)) (hc : cells ≤ mc) (hs : slots ≤ ms) :
    W p l e R s m args below meth c H locs cells slots (vx_MQ below (qTi G cl tys w s.heap.size (.inr O)) XC args s mc ms (va_A w s.heap.size)) (F0 m pc ls [.int O]) :=
  vx_ret (W.widen hc hs (W.zret hx hb hr hn (fun t ht hW => ⟨⟨O, (), rfl, rfl, by rw [ht]; exact hP, va_K.moved hW.alike hK, hD⟩, hS.F ht⟩) hS.2.2 hdg))
theorem grTl {XC : String → State → State → Prop} {cc : ByteArray} {O : Int64} (hx : p.tables.exec = Jvm.exec) (hb : c.code = cc) (hr : meth.sig.returnType = some .long) (hlocks : meth.locks = false) (hP : va_P G cl w H) (hK : va_K G cl tys s) (hD : va_D (va_A w s.heap.size) w) (hS : va_S (va_A w s.heap.size) s.heap H locs) (hdg : decode cc pc = .ok (.lreturn, 1)) (hc : cells ≤ mc) (hs : slots ≤ ms) :
    W p l e R s m args below meth c H locs cells slots (vx_MQ below (qTl G cl tys w s.heap.size (.inr O)) XC args s mc ms (va_A w s.heap.size)) (F0 m pc ls [.long O]) :=
  vx_ret (W.widen hc hs (W.lret hx hb hr (fun t ht hW => ⟨⟨O, (), rfl, rfl, by rw [ht]; exact hP, va_K.moved hW.alike hK, hD⟩, hS.F ht⟩) hS.2.2 hdg))
theorem grTv {XC : String → State → State → Prop} {cc : ByteArray} {o1 : Unit} (hx : p.tables.exec = Jvm.exec) (hb : c.code = cc) (hr : meth.sig.returnType = none) (hlocks : meth.locks = false) (hP : va_P G cl w H) (hK : va_K G cl tys s) (hD : va_D (va_A w s.heap.size) w) (hS : va_S (va_A w s.heap.size) s.heap H locs) (hdg : decode cc pc = .ok (.return_, 1)) (hc : cells ≤ mc) (hs : slots ≤ ms) :
    W p l e R s m args below meth c H locs cells slots (vx_MQ below (qTv G cl tys w s.heap.size (.inr o1)) XC args s mc ms (va_A w s.heap.size)) (F0 m pc ls []) :=
  vx_ret (W.widen hc hs (W.vret hx hb hr (fun t ht hW => ⟨⟨(), rfl, rfl, by rw [ht]; exact hP, va_K.moved hW.alike hK, hD⟩, hS.F ht⟩) hS.2.2 hdg))
theorem grXi {S : Type} {f : (Nat → Nat) → S → va_W} {A1 : Nat → Nat} {z1 : S} {XC : String → State → State → Prop} {cc : ByteArray} {r1 : Int32} (hx : p.tables.exec = Jvm.exec) (hb : c.code = cc) (hr : meth.sig.returnType = some .int) (hlocks : meth.locks = false) (hP : va_P G cl (f A1 z1) H) (hK : va_K G cl tys s) (hD : va_D (va_A w s.heap.size) (f A1 z1)) (hS : va_S (va_A w s.heap.size) s.heap H locs) (hdg : decode cc pc = .ok (.ireturn, 1)) (hc : cells ≤ mc) (hs : slots ≤ ms) :
    W p l e R s m args below meth c H locs cells slots (vx_MQ below (qXi G cl tys w s.heap.size f (z1, .inr r1)) XC args s mc ms (va_A w s.heap.size)) (F0 m pc ls [.int r1]) :=
  vx_ret (W.widen hc hs (W.iret hx hb hr (fun t ht hW => ⟨⟨r1, (A1, z1), rfl, rfl, by rw [ht]; exact hP, va_K.moved hW.alike hK, hD⟩, hS.F ht⟩) hS.2.2 hdg))
theorem grXv {S : Type} {f : (Nat → Nat) → S → va_W} {A1 : Nat → Nat} {z1 : S} {XC : String → State → State → Prop} {cc : ByteArray} {o1 : Unit} (hx : p.tables.exec = Jvm.exec) (hb : c.code = cc) (hr : meth.sig.returnType = none) (hlocks : meth.locks = false) (hP : va_P G cl (f A1 z1) H) (hK : va_K G cl tys s) (hD : va_D (va_A w s.heap.size) (f A1 z1)) (hS : va_S (va_A w s.heap.size) s.heap H locs) (hdg : decode cc pc = .ok (.return_, 1)) (hc : cells ≤ mc) (hs : slots ≤ ms) :
    W p l e R s m args below meth c H locs cells slots (vx_MQ below (qXv G cl tys w s.heap.size f (z1, .inr o1)) XC args s mc ms (va_A w s.heap.size)) (F0 m pc ls []) :=
  vx_ret (W.widen hc hs (W.vret hx hb hr (fun t ht hW => ⟨⟨(A1, z1), rfl, rfl, by rw [ht]; exact hP, va_K.moved hW.alike hK, hD⟩, hS.F ht⟩) hS.2.2 hdg))
-- the entry
theorem gMet {y : MethodName} {ws ws' : List Cond} {rm : Room} {Qc : Array Value → State → Outcome → State → Prop} {cc : ByteArray} {maxL : Nat} {ret : Option FieldType} {av : List Value} {w : va_W} {sz : Nat}
    (hy : plainName y.cls = true) (hw : ws = Cond.code y cc maxL ret :: ws') (hl0 : (lg_sl av).length ≤ maxL)
    (body : ∀ (p : Program) (e : Env) (s : State) (m : MethodId) (below : List Frame) (meth : Method) (c : Code) (ls : Array Slot), MC p s m av.toArray meth c cc maxL ret y.cls ws → va_K G cl tys s → va_P G cl w s.heap → va_D (va_A w s.heap.size) w → s.heap.size = sz → lv_has ls maxL (lv_args 0 av) →
      W p l e rm s m av.toArray below meth c s.heap [] 0 0 (MQ below Qc av.toArray s mc ms free) (F0 m 0 ls [])) : Met l y ws rm (gPc G cl tys av w sz) Qc mc ms free := by
  refine Met.ofW (cc := cc) (maxL := maxL) (ret := ret) hy hw ?_
  intro p e s m args below meth c s₁ B hml hv
  obtain ⟨rfl, hsz, hP, hK, hD0⟩ := hv
  have hl := lv_entry av (n := maxL) hl0
  rw [lg_entry_eq]
  exact body p e s m below meth c _ ⟨B.exec, B.bytes, B.returns, hml, findClass_of_methodNamed B.named, atoms_spec (ws := ws) B.pre, B.notSynchronized⟩ hK hP hD0.self hsz hl
theorem gMetx {y : MethodName} {ws ws' : List Cond} {rm : Room} {Qc : Array Value → State → Outcome → State → Prop} {XC : String → State → State → Prop} {cc : ByteArray} {maxL : Nat} {ret : Option FieldType} {av : List Value} {w : va_W} {sz : Nat}
    (hy : plainName y.cls = true) (hw : ws = Cond.code y cc maxL ret :: ws') (hl0 : (lg_sl av).length ≤ maxL)
    (body : ∀ (p : Program) (e : Env) (s : State) (m : MethodId) (below : List Frame) (meth : Method) (c : Code) (ls : Array Slot), MC p s m av.toArray meth c cc maxL ret y.cls ws → (∀ x ∈ c.exceptionTable.toList, False) → va_K G cl tys s → va_P G cl w s.heap → va_D (va_A w s.heap.size) w → gTh tx (va_A w s.heap.size) s s.heap → s.heap.size = sz → lv_has ls maxL (lv_args 0 av) →
      W p l e rm s m av.toArray below meth c s.heap [] 0 0 (vx_MQ below Qc XC av.toArray s mc ms free) (F0 m 0 ls [])) : vx_Met l y ws rm (gPx tx G cl tys av w sz) Qc XC mc ms free := by
  refine vx_ofW (cc := cc) (maxL := maxL) (ret := ret) hy hw ?_
  intro p e s m args below meth c s₁ B hml hE hv
  obtain ⟨rfl, hsz, hP, hK, hD0, hT⟩ := hv
  have hl := lv_entry av (n := maxL) hl0
  rw [lg_entry_eq]
  exact body p e s m below meth c _ ⟨B.exec, B.bytes, B.returns, hml, findClass_of_methodNamed B.named, atoms_spec (ws := ws) B.pre, B.notSynchronized⟩ hE hK hP hD0.self (by rw [hsz]; exact hT) hsz hl
end GB
-- words of a call, all among AW
theorem gi_V {a9 cd : Cond} {own C : String} {idx : Nat} {y : MethodName} (h1 : Cond.methodLink own idx y ∈ AW) (h2 : Cond.instanceMethod y ∈ AW) (h3 : Cond.selects C y y ∈ AW) (h4 : Cond.initialized C ∈ AW) (h5 : cd ∈ AW) : GoodIn (a9 :: AW) (wsV own idx C y (cd :: AW)) := by
  intro w hw
  have h : w ∈ AW := by
    simp only [wsV, List.cons_append, List.nil_append, List.mem_cons] at hw
    rcases hw with rfl | rfl | rfl | rfl | rfl | hw
    · exact h1
    · exact h2
    · exact h3
    · exact h4
    · exact h5
    · exact hw
  exact ⟨.tail _ h, AW_good h⟩
theorem gi_S {a9 cd : Cond} {own : String} {idx : Nat} {y : MethodName} (h1 : Cond.methodLink own idx y ∈ AW) (h2 : Cond.static y ∈ AW) (h4 : Cond.initialized own ∈ AW) (h5 : cd ∈ AW) : GoodIn (a9 :: AW) (wsS own idx y (cd :: AW)) := by
  intro w hw
  have h : w ∈ AW := by
    simp only [wsS, List.cons_append, List.nil_append, List.mem_cons] at hw
    rcases hw with rfl | rfl | rfl | rfl | hw
    · exact h1
    · exact h2
    · exact h4
    · exact h5
    · exact hw
  exact ⟨.tail _ h, AW_good h⟩
theorem gi_SU {a9 cd : Cond} {own : String} {idx : Nat} {y : MethodName} (h1 : Cond.methodLink own idx y ∈ AW) (h2 : Cond.static y ∈ AW) (h4 : Cond.initialized y.cls ∈ AW) (h5 : cd ∈ AW) : GoodIn (a9 :: AW) (va_wsS own idx y (cd :: AW)) := by
  intro w hw
  have h : w ∈ AW := by
    simp only [va_wsS, List.cons_append, List.nil_append, List.mem_cons] at hw
    rcases hw with rfl | rfl | rfl | rfl | hw
    · exact h1
    · exact h2
    · exact h4
    · exact h5
    · exact hw
  exact ⟨.tail _ h, AW_good h⟩
