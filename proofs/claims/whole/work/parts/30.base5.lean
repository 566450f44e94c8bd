/-! The law's wrappers: calls of methods that may throw, caught here. -/
def hbt {R Z : Type} (x : Option (String ⊕ R)) (h : String → Option Z) (k : R → Option Z) : Option Z := match x with
  | none => none
  | some (.inl e) => h e
  | some (.inr r) => k r
theorem of_hbt {R Z : Type} {x : Option (String ⊕ R)} {h : String → Option Z} {k : R → Option Z} {z : Z} (q : hbt x h k = some z) : ∃ o, x = some o ∧ ((∃ e, o = .inl e ∧ h e = some z) ∨ ∃ r, o = .inr r ∧ k r = some z) := by
  cases x with
  | none => cases q
  | some o => cases o with
    | inl e => exact ⟨_, rfl, Or.inl ⟨e, rfl, q⟩⟩
    | inr r => exact ⟨_, rfl, Or.inr ⟨r, rfl, q⟩⟩
def hbwt {S R Z : Type} (x : Option (S × (String ⊕ R))) (h : S → String → Option Z) (k : S → R → Option Z) : Option Z := match x with
  | none => none
  | some (s, .inl e) => h s e
  | some (s, .inr r) => k s r
theorem of_hbwt {S R Z : Type} {x : Option (S × (String ⊕ R))} {h : S → String → Option Z} {k : S → R → Option Z} {z : Z} (q : hbwt x h k = some z) : ∃ o, x = some o ∧ ((∃ s e, o = (s, .inl e) ∧ h s e = some z) ∨ ∃ s r, o = (s, .inr r) ∧ k s r = some z) := by
  cases x with
  | none => cases q
  | some o => obtain ⟨s, o⟩ := o; cases o with
    | inl e => exact ⟨_, rfl, Or.inl ⟨s, e, rfl, q⟩⟩
    | inr r => exact ⟨_, rfl, Or.inr ⟨s, r, rfl, q⟩⟩
def hbcwt {S R Z : Type} (x : Option (Nat × S × (String ⊕ R))) (h : S → String → Option (Nat × Z)) (k : S → R → Option (Nat × Z)) : Option (Nat × Z) := match x with
  | none => none
  | some (c, s, .inl e) => addc c (h s e)
  | some (c, s, .inr r) => addc c (k s r)
theorem of_hbcwt {S R Z : Type} {x : Option (Nat × S × (String ⊕ R))} {h : S → String → Option (Nat × Z)} {k : S → R → Option (Nat × Z)} {c0 : Nat} {z : Z} (q : hbcwt x h k = some (c0, z)) : ∃ c o d, x = some (c, o) ∧ c0 = c + d ∧ ((∃ s e, o = (s, .inl e) ∧ h s e = some (d, z)) ∨ ∃ s r, o = (s, .inr r) ∧ k s r = some (d, z)) := by
  cases x with
  | none => cases q
  | some o => obtain ⟨c, s, o⟩ := o; cases o with
    | inl e => obtain ⟨d, h1, h2⟩ := of_addc q; exact ⟨c, _, d, rfl, h2, Or.inl ⟨s, e, rfl, h1⟩⟩
    | inr r => obtain ⟨d, h1, h2⟩ := of_addc q; exact ⟨c, _, d, rfl, h2, Or.inr ⟨s, r, rfl, h1⟩⟩
/-- pairs of exceptions' classes, the one no kind of the other -/
def ncL : List (String × String) := [("java/lang/IllegalStateException", "java/lang/IllegalArgumentException"), ("java/lang/UnsupportedOperationException", "java/lang/IllegalArgumentException"), ("java/lang/IndexOutOfBoundsException", "java/lang/IllegalArgumentException"), ("java/util/NoSuchElementException", "java/lang/IllegalArgumentException"), ("java/lang/IllegalStateException", "java/lang/UnsupportedOperationException"), ("java/lang/IndexOutOfBoundsException", "java/lang/UnsupportedOperationException"), ("java/util/NoSuchElementException", "java/lang/UnsupportedOperationException"), ("java/lang/IllegalStateException", "java/lang/IndexOutOfBoundsException"), ("java/util/NoSuchElementException", "java/lang/IndexOutOfBoundsException")]
def gNc (U : State) : Prop := ∀ q ∈ ncL, va_Nc q.1 q.2 U
def gPn (tx : List (String × Nat × String)) (G : va_G) (cl : List vw_C) (tys : List (ClassId × FieldType)) (av : List Value) (w : va_W) (sz : Nat) : Array Value → State → Prop := va_Pc av (fun U => U.heap.size = sz ∧ va_P G cl w U.heap ∧ va_K G cl tys U ∧ va_D (fun _ => True) w ∧ gTh tx (va_A w sz) U U.heap ∧ gNc U)
section GB5
variable {p : Program} {l : Launch} {e : Env} {R : Room} {s : State} {m : MethodId} {args : Array Value} {below : List Frame} {meth : Method} {c : Code} {H H1 : Heap} {locs : List Loc} {cells slots : Nat} {Q : State → Prop}
variable {G : va_G} {cl : List vw_C} {tys : List (ClassId × FieldType)} {w w0 wr w1 : va_W} {sz mc ms pc : Nat} {ls : Array Slot} {rest st0 : List Value} {a : Array Value} {A0 : Nat → Prop} {free : Addr → Prop} {tx : List (String × Nat × String)}
theorem gNc.moved {U V : State} (hv : U.vm.Alike V.vm) (h : gNc U) : gNc V := fun q hq => va_Nc.moved hv (h q hq)
theorem gPn_bl {av : List Value} : FrameBlind (gPn tx G cl tys av w sz) := by
  intro a U g mk q
  obtain ⟨q0, q1, qP, qK, qD, qT, qN⟩ := q
  exact ⟨q0, q1, qP, va_K.moved (u := U) (U := U.calling g mk a) (Vm.Alike.refl U.vm) qK, qD, gTh.calling qT, gNc.moved (U := U) (V := U.calling g mk a) (Vm.Alike.refl U.vm) qN⟩
/-- the callee's cells stand first, the rest behind them: the rest stays -/
theorem gfr (hP : va_P G cl (w ++ wr) H) (hD : va_D A0 (w ++ wr)) (hk : ∀ q : Nat, q < H.size → ¬ va_A w H.size q → H1[q]? = H[q]?) (hF : ∀ q, va_A w H.size q → A0 q) (hP1 : va_P G cl w1 H1) (hD1 : va_D (va_A w H.size) w1) : va_P G cl (w1 ++ wr) H1 ∧ va_D A0 (w1 ++ wr) := by
  have hr : ∀ (j : Nat) (q : Nat × va_E), wr[j]? = some q → (w ++ wr)[w.length + j]? = some q := by
    intro j q h
    rw [List.getElem?_append_right (by omega), Nat.add_sub_cancel_left]
    exact h
  have hw : ∀ (j : Nat) (q : Nat × va_E), w[j]? = some q → (w ++ wr)[j]? = some q := by
    intro j q h
    rw [List.getElem?_append_left (List.getElem?_eq_some_iff.mp h).1]
    exact h
  have apart : ∀ (j : Nat) (q : Nat × va_E), wr[j]? = some q → q.1 < H.size ∧ ¬ va_A w H.size q.1 := by
    intro j q hq
    have hl := (hP _ q (hr j q hq)).lt
    refine ⟨hl, fun h => ?_⟩
    rcases h with ⟨k, e9, h⟩ | h
    · have h1 := hD.1 k (w.length + j) (q.1, e9) q (hw k _ h) (hr j q hq) rfl
      have h2 := (List.getElem?_eq_some_iff.mp h).1
      omega
    · omega
  refine ⟨va_P.app hP1 (fun k q hq => (hP _ q (hr k q hq)).kept (hk q.1 (apart k q hq).1 (apart k q hq).2)), va_D.app (hD1.weaken (fun k q _ h => hF q.1 h)) ⟨fun i j x y hx hy hxy => ?_, fun k q hq => hD.2 _ q (hr k q hq)⟩ (fun i j x y hx hy hxy => ?_)⟩
  · have := hD.1 _ _ x y (hr i x hx) (hr j y hy) hxy
    omega
  · exact (apart j y hy).2 (by rw [← hxy]; exact hD1.2 i x hx)
theorem gFF (hS : va_S A0 s.heap H locs) (hD : va_D A0 (w ++ wr)) (hA : ∀ q : Nat, s.heap.size ≤ q → A0 q) : ∀ q, va_A w H.size q → A0 q := by
  intro q h
  rcases h with ⟨k, e9, h⟩ | h
  · exact hD.2 k (q, e9) (by rw [List.getElem?_append_left (List.getElem?_eq_some_iff.mp h).1]; exact h)
  · exact hA q (Nat.le_trans hS.1 h)
theorem gDl (hD : va_D A0 (w ++ wr)) : va_D A0 w := ⟨fun i j p q hi hj h => hD.1 i j p q (by rw [List.getElem?_append_left (List.getElem?_eq_some_iff.mp hi).1]; exact hi) (by rw [List.getElem?_append_left (List.getElem?_eq_some_iff.mp hj).1]; exact hj) h, fun k q hk => hD.2 k q (by rw [List.getElem?_append_left (List.getElem?_eq_some_iff.mp hk).1]; exact hk)⟩
theorem gPl (hP : va_P G cl (w ++ wr) H) : va_P G cl w H := fun k q hk => hP k q (by rw [List.getElem?_append_left (List.getElem?_eq_some_iff.mp hk).1]; exact hk)
theorem gfTi {O1 : String ⊕ Int32} (hr : vx_Run p l e R s m args below meth c H locs cells slots mc ms (F0 m pc ls st0) rest (qTi G cl tys w H.size O1 a) (xT G cl tys w H.size O1) (va_A w H.size)) (hP : va_P G cl (w ++ wr) H) (hS : va_S A0 s.heap H locs) (hD : va_D A0 (w ++ wr)) (hA : ∀ q : Nat, s.heap.size ≤ q → A0 q)
    (kx : ∀ (E : String) (ce : Cell) (q9 : Addr) (H1 : Heap) (locs1 : List Loc), O1 = .inl E → va_P G cl (w ++ wr) H1 → va_S A0 s.heap H1 locs1 → H1[q9]? = some ce → ce.vm = .none → s.vm.findClass E = some ce.cls → vx_W p l e R s m args below meth c H1 locs1 (cells + mc) (slots + ms) Q (F0 m pc ls rest) q9)
    (kk : ∀ (r : Int32) (H1 : Heap) (locs1 : List Loc), O1 = .inr r → va_P G cl (w ++ wr) H1 → va_S A0 s.heap H1 locs1 → W p l e R s m args below meth c H1 locs1 (cells + mc) (slots + ms) Q (F0 m (pc + 3) ls (.int r :: rest))) : W p l e R s m args below meth c H locs cells slots Q (F0 m pc ls st0) := by
  have hF := gFF hS hD hA
  refine vx_calli hr hS (fun q _ h => hF q h) hF (fun q _ h => hF q h) (fun E ce q9 u t H1 locs1 ht hvm hp hB hz hk hS1 hce hcv hcl => ?_) (fun r u t H1 locs1 ht hvm hw hB hz hk hS1 => ?_)
  · exact kx E ce q9 H1 locs1 hB.1 (gfr hP hD hk hF (by rw [← ht]; exact hB.2.1) hB.2.2.2).1 hS1 hce hcv hcl
  · exact kk r H1 locs1 hw (gfr hP hD hk hF (by rw [← ht]; exact hB.1) hB.2.2).1 hS1
theorem gfTl {O1 : String ⊕ Int64} (hr : vx_Run p l e R s m args below meth c H locs cells slots mc ms (F0 m pc ls st0) rest (qTl G cl tys w H.size O1 a) (xT G cl tys w H.size O1) (va_A w H.size)) (hP : va_P G cl (w ++ wr) H) (hS : va_S A0 s.heap H locs) (hD : va_D A0 (w ++ wr)) (hA : ∀ q : Nat, s.heap.size ≤ q → A0 q)
    (kx : ∀ (E : String) (ce : Cell) (q9 : Addr) (H1 : Heap) (locs1 : List Loc), O1 = .inl E → va_P G cl (w ++ wr) H1 → va_S A0 s.heap H1 locs1 → H1[q9]? = some ce → ce.vm = .none → s.vm.findClass E = some ce.cls → vx_W p l e R s m args below meth c H1 locs1 (cells + mc) (slots + ms) Q (F0 m pc ls rest) q9)
    (kk : ∀ (r : Int64) (H1 : Heap) (locs1 : List Loc), O1 = .inr r → va_P G cl (w ++ wr) H1 → va_S A0 s.heap H1 locs1 → W p l e R s m args below meth c H1 locs1 (cells + mc) (slots + ms) Q (F0 m (pc + 3) ls (.long r :: rest))) : W p l e R s m args below meth c H locs cells slots Q (F0 m pc ls st0) := by
  have hF := gFF hS hD hA
  refine vx_calll hr hS (fun q _ h => hF q h) hF (fun q _ h => hF q h) (fun E ce q9 u t H1 locs1 ht hvm hp hB hz hk hS1 hce hcv hcl => ?_) (fun r u t H1 locs1 ht hvm hw hB hz hk hS1 => ?_)
  · exact kx E ce q9 H1 locs1 hB.1 (gfr hP hD hk hF (by rw [← ht]; exact hB.2.1) hB.2.2.2).1 hS1 hce hcv hcl
  · exact kk r H1 locs1 hw (gfr hP hD hk hF (by rw [← ht]; exact hB.1) hB.2.2).1 hS1
theorem gfXi {S : Type} {f : (Nat → Nat) → S → va_W} {O1 : S × (String ⊕ Int32)} (hr : vx_Run p l e R s m args below meth c H locs cells slots mc ms (F0 m pc ls st0) rest (qXi G cl tys w H.size f O1 a) (xX G cl tys w H.size f O1) (va_A w H.size)) (hP : va_P G cl (w ++ wr) H) (hS : va_S A0 s.heap H locs) (hD : va_D A0 (w ++ wr)) (hA : ∀ q : Nat, s.heap.size ≤ q → A0 q)
    (kx : ∀ (E : String) (A1 : Nat → Nat) (z1 : S) (ce : Cell) (q9 : Addr) (H1 : Heap) (locs1 : List Loc), O1 = (z1, .inl E) → va_P G cl (f A1 z1 ++ wr) H1 → va_D A0 (f A1 z1 ++ wr) → va_S A0 s.heap H1 locs1 → H1[q9]? = some ce → ce.vm = .none → s.vm.findClass E = some ce.cls → vx_W p l e R s m args below meth c H1 locs1 (cells + mc) (slots + ms) Q (F0 m pc ls rest) q9)
    (kk : ∀ (r : Int32) (A1 : Nat → Nat) (z1 : S) (H1 : Heap) (locs1 : List Loc), O1 = (z1, .inr r) → va_P G cl (f A1 z1 ++ wr) H1 → va_D A0 (f A1 z1 ++ wr) → va_S A0 s.heap H1 locs1 → W p l e R s m args below meth c H1 locs1 (cells + mc) (slots + ms) Q (F0 m (pc + 3) ls (.int r :: rest))) : W p l e R s m args below meth c H locs cells slots Q (F0 m pc ls st0) := by
  have hF := gFF hS hD hA
  refine vx_calli hr hS (fun q _ h => hF q h) hF (fun q _ h => hF q h) (fun E ce q9 u t H1 locs1 ht hvm hp hB hz hk hS1 hce hcv hcl => ?_) (fun r u t H1 locs1 ht hvm hw hB hz hk hS1 => ?_)
  · obtain ⟨h1, h2⟩ := gfr hP hD hk hF (by rw [← ht]; exact hB.2.1) hB.2.2.2
    exact kx E u.1 u.2 ce q9 H1 locs1 hB.1 h1 h2 hS1 hce hcv hcl
  · obtain ⟨h1, h2⟩ := gfr hP hD hk hF (by rw [← ht]; exact hB.1) hB.2.2
    exact kk r u.1 u.2 H1 locs1 hw h1 h2 hS1
theorem gfXv {S : Type} {f : (Nat → Nat) → S → va_W} {O1 : S × (String ⊕ Unit)} (hr : vx_Run p l e R s m args below meth c H locs cells slots mc ms (F0 m pc ls st0) rest (qXv G cl tys w H.size f O1 a) (xX G cl tys w H.size f O1) (va_A w H.size)) (hP : va_P G cl (w ++ wr) H) (hS : va_S A0 s.heap H locs) (hD : va_D A0 (w ++ wr)) (hA : ∀ q : Nat, s.heap.size ≤ q → A0 q)
    (kx : ∀ (E : String) (A1 : Nat → Nat) (z1 : S) (ce : Cell) (q9 : Addr) (H1 : Heap) (locs1 : List Loc), O1 = (z1, .inl E) → va_P G cl (f A1 z1 ++ wr) H1 → va_D A0 (f A1 z1 ++ wr) → va_S A0 s.heap H1 locs1 → H1[q9]? = some ce → ce.vm = .none → s.vm.findClass E = some ce.cls → vx_W p l e R s m args below meth c H1 locs1 (cells + mc) (slots + ms) Q (F0 m pc ls rest) q9)
    (kk : ∀ (r : Unit) (A1 : Nat → Nat) (z1 : S) (H1 : Heap) (locs1 : List Loc), O1 = (z1, .inr r) → va_P G cl (f A1 z1 ++ wr) H1 → va_D A0 (f A1 z1 ++ wr) → va_S A0 s.heap H1 locs1 → W p l e R s m args below meth c H1 locs1 (cells + mc) (slots + ms) Q (F0 m (pc + 3) ls rest)) : W p l e R s m args below meth c H locs cells slots Q (F0 m pc ls st0) := by
  have hF := gFF hS hD hA
  refine vx_callv hr hS (fun q _ h => hF q h) hF (fun q _ h => hF q h) (fun E ce q9 u t H1 locs1 ht hvm hp hB hz hk hS1 hce hcv hcl => ?_) (fun u t H1 locs1 ht hvm hw hB hz hk hS1 => ?_)
  · obtain ⟨h1, h2⟩ := gfr hP hD hk hF (by rw [← ht]; exact hB.2.1) hB.2.2.2
    exact kx E u.1 u.2 ce q9 H1 locs1 hB.1 h1 h2 hS1 hce hcv hcl
  · obtain ⟨h1, h2⟩ := gfr hP hD hk hF (by rw [← ht]; exact hB.1) hB.2.2
    exact kk () u.1 u.2 H1 locs1 hw h1 h2 hS1
/-- caught by a row of this method's table -/
theorem gcatch {own name E : String} {ce : Cell} {q9 : Addr} {h1 h2 : List (Nat × Nat × Nat × Nat)} {st en hd ct : Nat} (hown : s.vm.findClass own = some m.cls) (hE : c.exceptionTable.toList = tableOf (h1 ++ (st, en, hd, ct) :: h2))
    (hpass : ∀ q ∈ h1, q.2.2.2 ≠ 0 ∧ ∃ nm : String, (Cond.classLink own q.2.2.2 nm).before args s = true ∧ va_Nc E nm s) (hcov : covers ⟨st, en, hd, ct⟩ pc = true) (h0 : ct ≠ 0) (hlink : (Cond.classLink own ct name).before args s = true) (hcast : (Cond.castable E name).before args s = true) (hcell : H[q9]? = some ce) (hv : ce.vm = .none) (hcl : s.vm.findClass E = some ce.cls)
    (kk : W p l e R s m args below meth c H locs cells slots Q (F0 m hd ls [.ref q9])) : vx_W p l e R s m args below meth c H locs cells slots Q (F0 m pc ls rest) q9 := by
  refine vx_catch hown (tableOf h1) ⟨st, en, hd, ct⟩ (tableOf h2) (by rw [hE]; simp [tableOf]) (fun z hz => ?_) hcov h0 hlink hcast hcell hv hcl kk
  obtain ⟨q, hq, rfl⟩ := List.mem_map.mp hz
  exact Or.inr (hpass q hq)
theorem gMetW {y : MethodName} {ws ws' : List Cond} {rm : Room} {Qc : Array Value → State → Outcome → State → Prop} {cc : ByteArray} {maxL : Nat} {ret : Option FieldType} {hh : List (Nat × Nat × Nat × Nat)} {av : List Value} {w : va_W} {sz : Nat}
    (hy : plainName y.cls = true) (hw : ws = Cond.codeWith y cc maxL ret hh :: ws') (hl0 : (lg_sl av).length ≤ maxL)
    (body : ∀ (p : Program) (e : Env) (s : State) (m : MethodId) (below : List Frame) (meth : Method) (c : Code) (ls : Array Slot), MC p s m av.toArray meth c cc maxL ret y.cls ws → c.exceptionTable.toList = tableOf hh → va_K G cl tys s → va_P G cl w s.heap → va_D (va_A w s.heap.size) w → gTh tx (va_A w s.heap.size) s s.heap → gNc s → s.heap.size = sz → lv_has ls maxL (lv_args 0 av) →
      W p l e rm s m av.toArray below meth c s.heap [] 0 0 (MQ below Qc av.toArray s mc ms free) (F0 m 0 ls [])) : Met l y ws rm (gPn tx G cl tys av w sz) Qc mc ms free := by
  refine va_MetW (cc := cc) (maxL := maxL) (ret := ret) (hh := hh) hy hw ?_
  intro p e s m args below meth c s₁ B hml hv
  obtain ⟨rfl, hsz, hP, hK, hD0, hT, hN⟩ := hv
  have hl := lv_entry av (n := maxL) hl0
  have hts := atoms_spec (ws := ws) B.pre
  have hE := vx_table (x := y) B (hts (Cond.codeWith y cc maxL ret hh) (by rw [hw]; exact List.mem_cons_self))
  rw [lg_entry_eq]
  exact body p e s m below meth c _ ⟨B.exec, B.bytes, B.returns, hml, findClass_of_methodNamed B.named, hts, B.notSynchronized⟩ hE hK hP hD0.self (by rw [hsz]; exact hT) hN hsz hl
end GB5
