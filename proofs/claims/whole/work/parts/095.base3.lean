section GB3
variable {p : Program} {l : Launch} {e : Env} {R : Room} {s : State} {m : MethodId} {args : Array Value} {below : List Frame} {meth : Method} {c : Code} {H : Heap} {locs : List Loc} {cells slots : Nat} {Q : State → Prop}
variable {G : va_G} {cl : List vw_C} {tys : List (ClassId × FieldType)} {w w0 : va_W} {sz mc ms pc : Nat} {ls : Array Slot} {rest st0 : List Value} {a : Array Value} {A0 : Nat → Prop} {free : Addr → Prop} {tx : List (String × Nat × String)}
def qRv (G : va_G) (cl : List vw_C) (tys : List (ClassId × FieldType)) (w : va_W) (sz : Nat) (O : Unit) := va_Qv (fun (_ : Unit) => O = ()) (gB G cl tys w sz (fun _ => w)) (va_A w sz)
theorem gcRv {O : Unit} (hr : va_Run p l e R s m args below meth c H locs cells slots mc ms (F0 m pc ls st0) rest (qRv G cl tys w H.size O a) (va_A w H.size)) (hS : va_S A0 s.heap H locs) (hD : va_D A0 w) (hA : ∀ q : Nat, s.heap.size ≤ q → A0 q)
    (kk : ∀ (H1 : Heap) (locs1 : List Loc), va_P G cl w H1 → va_S A0 s.heap H1 locs1 → W p l e R s m args below meth c H1 locs1 (cells + mc) (slots + ms) Q (F0 m (pc + 3) ls rest)) : W p l e R s m args below meth c H locs cells slots Q (F0 m pc ls st0) := by
  have hF := gF hS hD hA
  refine va_callv hr hS (fun q _ h => hF q h) hF (fun u t H1 locs1 ht hvm hw hB hz hk hS1 => ?_)
  exact kk H1 locs1 (by rw [← ht]; exact hB.1) hS1
theorem grRv {cc : ByteArray} {O : Unit} (hx : p.tables.exec = Jvm.exec) (hb : c.code = cc) (hr : meth.sig.returnType = none) (hlocks : meth.locks = false) (hP : va_P G cl w H) (hK : va_K G cl tys s) (hD : va_D (va_A w s.heap.size) w) (hS : va_S (va_A w s.heap.size) s.heap H locs) (hdg : decode cc pc = .ok (.return_, 1)) (hc : cells ≤ mc) (hs : slots ≤ ms) :
    W p l e R s m args below meth c H locs cells slots (MQ below (qRv G cl tys w s.heap.size O) args s mc ms (va_A w s.heap.size)) (F0 m pc ls []) :=
  W.widen hc hs (W.vret hx hb hr (fun t ht hW => ⟨⟨(), rfl, rfl, by rw [ht]; exact hP, va_K.moved hW.alike hK, hD⟩, hS.F ht⟩) hS.2.2 hdg)
def qWl {S : Type} (G : va_G) (cl : List vw_C) (tys : List (ClassId × FieldType)) (w : va_W) (sz : Nat) (f : (Nat → Nat) → S → va_W) (O : S × Int64) := va_Ql (fun r (u : (Nat → Nat) × S) => O = (u.2, r)) (gB G cl tys w sz (fun u => f u.1 u.2)) (va_A w sz)
theorem gcWl {S : Type} {f : (Nat → Nat) → S → va_W} {z1 : S} {r1 : Int64} (hr : va_Run p l e R s m args below meth c H locs cells slots mc ms (F0 m pc ls st0) rest (qWl G cl tys w H.size f (z1, r1) a) (va_A w H.size)) (hS : va_S A0 s.heap H locs) (hD : va_D A0 w) (hA : ∀ q : Nat, s.heap.size ≤ q → A0 q)
    (kk : ∀ (A1 : Nat → Nat) (H1 : Heap) (locs1 : List Loc), va_P G cl (f A1 z1) H1 → va_D A0 (f A1 z1) → va_S A0 s.heap H1 locs1 → W p l e R s m args below meth c H1 locs1 (cells + mc) (slots + ms) Q (F0 m (pc + 3) ls (.long r1 :: rest))) : W p l e R s m args below meth c H locs cells slots Q (F0 m pc ls st0) := by
  have hF := gF hS hD hA
  refine va_calll hr hS (fun q _ h => hF q h) hF (fun r u t H1 locs1 ht hvm hw hB hz hk hS1 => ?_)
  obtain ⟨A1, z2⟩ := u
  cases hw
  exact kk A1 H1 locs1 (by rw [← ht]; exact hB.1) (hB.2.2.weaken (fun k q _ h => hF q.1 h)) hS1
theorem grWl {S : Type} {f : (Nat → Nat) → S → va_W} {A1 : Nat → Nat} {z1 : S} {cc : ByteArray} {r1 : Int64} (hx : p.tables.exec = Jvm.exec) (hb : c.code = cc) (hr : meth.sig.returnType = some .long) (hlocks : meth.locks = false) (hP : va_P G cl (f A1 z1) H) (hK : va_K G cl tys s) (hD : va_D (va_A w s.heap.size) (f A1 z1)) (hS : va_S (va_A w s.heap.size) s.heap H locs) (hdg : decode cc pc = .ok (.lreturn, 1)) (hc : cells ≤ mc) (hs : slots ≤ ms) :
    W p l e R s m args below meth c H locs cells slots (MQ below (qWl G cl tys w s.heap.size f (z1, r1)) args s mc ms (va_A w s.heap.size)) (F0 m pc ls [.long r1]) :=
  W.widen hc hs (W.lret hx hb hr (fun t ht hW => ⟨⟨r1, (A1, z1), rfl, rfl, by rw [ht]; exact hP, va_K.moved hW.alike hK, hD⟩, hS.F ht⟩) hS.2.2 hdg)
theorem grWz {S : Type} {f : (Nat → Nat) → S → va_W} {A1 : Nat → Nat} {z1 : S} {cc : ByteArray} {r1 : Int32} (hn : narrow .boolean (.int r1) = .int r1) (hx : p.tables.exec = Jvm.exec) (hb : c.code = cc) (hr : meth.sig.returnType = some .boolean) (hlocks : meth.locks = false) (hP : va_P G cl (f A1 z1) H) (hK : va_K G cl tys s) (hD : va_D (va_A w s.heap.size) (f A1 z1)) (hS : va_S (va_A w s.heap.size) s.heap H locs) (hdg : decode cc pc = .ok (.ireturn, 1)) (hc : cells ≤ mc) (hs : slots ≤ ms) :
    W p l e R s m args below meth c H locs cells slots (MQ below (qWi G cl tys w s.heap.size f (z1, r1)) args s mc ms (va_A w s.heap.size)) (F0 m pc ls [.int r1]) :=
  W.widen hc hs (W.zret hx hb hr hn (fun t ht hW => ⟨⟨r1, (A1, z1), rfl, rfl, by rw [ht]; exact hP, va_K.moved hW.alike hK, hD⟩, hS.F ht⟩) hS.2.2 hdg)
end GB3
