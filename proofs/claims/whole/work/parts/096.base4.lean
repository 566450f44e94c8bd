section GB4
variable {p : Program} {l : Launch} {e : Env} {R : Room} {s : State} {m : MethodId} {args : Array Value} {below : List Frame} {meth : Method} {c : Code} {H : Heap} {locs : List Loc} {cells slots : Nat} {Q : State → Prop}
variable {G : va_G} {cl : List vw_C} {tys : List (ClassId × FieldType)} {w w0 : va_W} {sz mc ms pc : Nat} {ls : Array Slot} {rest st0 : List Value} {a : Array Value} {A0 : Nat → Prop} {free : Addr → Prop}
/-- an array of twice the length: sizes that may be -/
def wdb (n : Nat) : Bool := decide (64 ≤ n ∧ n ≤ 16777216)
theorem wdb_in {n : Nat} (h : wdb n = true) : 64 ≤ n ∧ n ≤ 16777216 := of_decide_eq_true h
def wdI (f : Nat → Int32) (n : Nat) : Nat → Int32 := fun j => if j < n then f j else 0
def wdJ (f : Nat → Int64) (n : Nat) : Nat → Int64 := fun j => if j < n then f j else 0
def wdZ (f : Nat → Int32) (n : Nat) : Nat → Int32 := fun j => if j < n then vp_nar .boolean (f j) else 0
def wdB (f : Nat → Int32) (n : Nat) : Nat → Int32 := fun j => if j < n then vp_nar .byte (f j) else 0
/-- a callee over one cell that answers a new one -/
def qA (G : va_G) (cl : List vw_C) (tys : List (ClassId × FieldType)) (a0 : Nat) (E0 E1 : va_E) (sz : Nat) := va_Qr (fun (_ : Unit) => True) (fun _ a t => va_P G cl [(a0, E0), (a, E1)] t.heap ∧ va_K G cl tys t ∧ va_D (va_A [(a0, E0)] sz) [(a0, E0), (a, E1)]) (va_A [(a0, E0)] sz)
theorem gcA {a0 q0 : Nat} {E0 E1 : va_E} (hr : va_Run p l e R s m args below meth c H locs cells slots mc ms (F0 m pc ls st0) rest (qA G cl tys a0 E0 E1 H.size a) (va_A [(a0, E0)] H.size)) (hP : va_P G cl w H) (he : w[q0]? = some (a0, E0)) (hS : va_S A0 s.heap H locs) (hD : va_D A0 w) (hA : ∀ q : Nat, s.heap.size ≤ q → A0 q)
    (kk : ∀ (x : Nat) (H1 : Heap) (locs1 : List Loc), va_P G cl (w ++ [(x, E1)]) H1 → va_D A0 (w ++ [(x, E1)]) → va_S A0 s.heap H1 locs1 → W p l e R s m args below meth c H1 locs1 (cells + mc) (slots + ms) Q (F0 m (pc + 3) ls (.ref x :: rest))) : W p l e R s m args below meth c H locs cells slots Q (F0 m pc ls st0) := by
  have hF : ∀ q, va_A [(a0, E0)] H.size q → A0 q := by
    intro q h
    rcases h with ⟨k, e9, h⟩ | h
    · have h2 := List.mem_of_getElem? h
      simp only [List.mem_singleton, Prod.mk.injEq] at h2
      rw [h2.1]
      exact hD.2 q0 _ he
    · exact hA q (Nat.le_trans hS.1 h)
  refine va_callr hr hS (fun q _ h => hF q h) hF (fun u x t H1 locs1 ht hvm hw hB hz hk hS1 => ?_)
  obtain ⟨hP1, -, hD1⟩ := hB
  rw [ht] at hP1
  have hx : x ≠ a0 := fun e => absurd (hD1.1 0 1 (a0, E0) (x, E1) rfl rfl e.symm) (by decide)
  have hnew : H.size ≤ x := by
    rcases hD1.2 1 (x, E1) rfl with ⟨k, e9, h⟩ | h
    · have h2 := List.mem_of_getElem? h
      simp only [List.mem_singleton, Prod.mk.injEq] at h2
      exact absurd h2.1 hx
    · exact h
  have hkeep : ∀ (k : Nat) (q : Nat × va_E), w[k]? = some q → va_at G cl q H1 := by
    intro k q hq
    by_cases hk0 : k = q0
    · subst hk0
      cases Option.some.inj (he.symm.trans hq)
      exact hP1 0 _ rfl
    · refine (hP k q hq).kept (hk q.1 (hP k q hq).lt ?_)
      intro h
      rcases h with ⟨j, e9, h⟩ | h
      · have h2 := List.mem_of_getElem? h
        simp only [List.mem_singleton, Prod.mk.injEq] at h2
        exact hk0 (hD.1 k q0 q (a0, E0) hq he h2.1)
      · exact absurd (hP k q hq).lt (Nat.not_lt.mpr h)
  refine kk x H1 locs1 ?_ ?_ hS1
  · exact va_P.app (fun k q hq => hkeep k q hq) (fun k q hq => by
      have h2 := List.mem_of_getElem? hq
      simp only [List.mem_singleton] at h2
      rw [h2]
      exact hP1 1 _ rfl)
  · refine va_D.app hD ⟨fun i j p9 q9 hi hj _ => ?_, fun k q hq => ?_⟩ (fun i j x9 y9 hx9 hy9 hxy => ?_)
    · have := (List.getElem?_eq_some_iff.mp hi).1
      have := (List.getElem?_eq_some_iff.mp hj).1
      simp at *
      omega
    · have h2 := List.mem_of_getElem? hq
      simp only [List.mem_singleton] at h2
      rw [h2]
      exact hF _ (Or.inr hnew)
    · have h2 := List.mem_of_getElem? hy9
      simp only [List.mem_singleton] at h2
      rw [h2] at hxy
      have h3 := (hP i x9 hx9).lt
      have : x9.1 = x := hxy
      omega
/-- newarray, its class known -/
theorem gnewa {cc : ByteArray} {t0 : Nat} {cA : ClassId} {ty : FieldType} (hx : p.tables.exec = Jvm.exec) (hb : c.code = cc) {atype : ArrayType} (harr : (Cond.arrayClass (newarray.typeOf atype)).before args s = true) (hty : newarray.typeOf atype = ty) (hpr : ∀ C, ty ≠ .object C) (hK : va_K G cl tys s) (ht : tys[t0]? = some (cA, ty)) (hP : va_P G cl w H) (hD : va_D A0 w) (hS : va_S A0 s.heap H locs) (hA : ∀ q : Nat, s.heap.size ≤ q → A0 q)
    {n : Int32} {a0 : vp_A} (ha : ∀ cA : ClassId, vp_cell cA a0 = arrV cA n.toNatClampNeg (fun _ => defaultValue ty)) (hn : ¬ n < 0) (hbytes : n.toNatClampNeg * componentBytes ty ≤ 536870912) (hcells : cells + 1 ≤ R.cells) (hslots : slots + n.toNatClampNeg ≤ R.slots) (hdg : decode cc pc = .ok (.newarray atype, 2))
    (kk : ∀ (x : Nat) (H1 : Heap), va_P G cl (w ++ [(x, .inl (cA, a0))]) H1 → va_D A0 (w ++ [(x, .inl (cA, a0))]) → va_S A0 s.heap H1 locs → W p l e R s m args below meth c H1 locs (cells + 1) (slots + n.toNatClampNeg) Q (F0 m (pc + 2) ls (.ref x :: rest))) : W p l e R s m args below meth c H locs cells slots Q (F0 m pc ls (.int n :: rest)) := by
  refine va_newa hx hb harr hty hK hP hD hS hA ha hn rfl hbytes hcells hslots hdg (fun x cA9 H1 hK1 hP1 hD1 hS1 => ?_)
  have h1 := (hK.2 t0 _ ht).2
  have h2 := (hK1.2 tys.length (cA9, ty) (by simp)).2
  have h3 : cA9 = cA := by
    cases ty with
    | object C => exact absurd rfl (hpr C)
    | _ => exact Option.some.inj ((show s.vm.findClass _ = some cA9 from h2).symm.trans (show s.vm.findClass _ = some cA from h1))
  subst h3
  exact kk x H1 hP1 hD1 hS1
end GB4
