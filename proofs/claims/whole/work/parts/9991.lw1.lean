/-! The law: calls out of it, its two worlds side by side, its script. -/
section GB7
variable {p : Program} {l : Launch} {e : Env} {R : Room} {s : State} {m : MethodId} {args : Array Value} {below : List Frame} {meth : Method} {c : Code} {H H1 : Heap} {locs : List Loc} {cells slots : Nat} {Q : State → Prop}
variable {G : va_G} {cl : List vw_C} {tys : List (ClassId × FieldType)} {w w0 wr w1 : va_W} {sz mc ms pc : Nat} {ls : Array Slot} {rest st0 : List Value} {a : Array Value} {A0 : Nat → Prop} {free : Addr → Prop} {tx : List (String × Nat × String)}
theorem gpren (hK : va_K G cl tys s) (hP : va_P G cl w H) (hD : va_D A0 w) (hT : gTh tx A0 s s.heap) (hN : gNc s) (hS : va_S A0 s.heap H locs) (hA : ∀ q : Nat, s.heap.size ≤ q → A0 q) {av : List Value} : ∀ U : State, U.heap = H → s.WarmedH U.vm → gPn tx G cl tys av w H.size av.toArray U := fun U hU hW =>
  ⟨rfl, by rw [hU], by rw [hU]; exact hP, va_K.moved hW.alike hK, hD.weaken (fun _ _ _ _ => trivial), by rw [hU]; exact gTh.moved hW ((hT.kept hS.2.1).narrow (gF hS hD hA)), gNc.moved hW.alike hN⟩
theorem gSn {cc bytes : ByteArray} {nL maxL n index : Nat} {Ts ws : List Cond} {own : String} {y : MethodName} {ret : Option FieldType} {hh : List (Nat × Nat × Nat × Nat)} {rm : Room} {Qc : Array Value → State → Outcome → State → Prop}
    (S : CallFix p m c cc nL s args Ts own) (As : List Value) (hM : Met l y ws rm (gPn tx G cl tys As w H.size) Qc mc ms free) (cw : vx_CSW R s args own index y bytes maxL ret hh ws rm mc ms n)
    (hK : va_K G cl tys s) (hP : va_P G cl w H) (hD : va_D A0 w) (hT : gTh tx A0 s s.heap) (hN : gNc s) (hS : va_S A0 s.heap H locs) (hA : ∀ q : Nat, s.heap.size ≤ q → A0 q) (hn : As.length = n) (hsize : ls.size = nL) (hW : (rest.map fun v => v.category).sum ≤ 8)
    (hdg : decode cc pc = .ok (.invokestatic index, 3)) (hf : cells + mc ≤ R.cells ∧ slots + ms ≤ R.slots) :
    va_Run p l e R s m args below meth c H locs cells slots mc ms (F0 m pc ls (As.reverse ++ rest)) rest (Qc As.toArray) free :=
  vx_runSW S hM cw ⟨gPn_bl, gpren hK hP hD hT hN hS hA⟩ rfl hn hsize rfl (lv_room hW) hdg hf
theorem gPr (hP : va_P G cl (w ++ wr) H) : va_P G cl wr H := fun k q hk => hP (w.length + k) q (by rw [List.getElem?_append_right (by omega), Nat.add_sub_cancel_left]; exact hk)
theorem gsP (hP : va_P G cl (w ++ wr) H) : va_P G cl (wr ++ w) H := va_P.app (gPr hP) (gPl hP)
theorem gDr (hD : va_D A0 (w ++ wr)) : va_D A0 wr := by
  have hr : ∀ (j : Nat) (q : Nat × va_E), wr[j]? = some q → (w ++ wr)[w.length + j]? = some q := by
    intro j q h
    rw [List.getElem?_append_right (by omega), Nat.add_sub_cancel_left]
    exact h
  refine ⟨fun i j p q hi hj h => ?_, fun k q hk => hD.2 _ q (hr k q hk)⟩
  have := hD.1 _ _ p q (hr i p hi) (hr j q hj) h
  omega
theorem gsD (hD : va_D A0 (w ++ wr)) : va_D A0 (wr ++ w) := by
  refine va_D.app (gDr hD) (gDl hD) (fun i j x y hx hy hxy => ?_)
  have h1 := (List.getElem?_eq_some_iff.mp hy).1
  have := hD.1 j (w.length + i) y x (by rw [List.getElem?_append_left h1]; exact hy) (by rw [List.getElem?_append_right (by omega), Nat.add_sub_cancel_left]; exact hx) hxy.symm
  omega
/-- a call that makes and changes nothing, and looks at no world: its answer alone -/
theorem gcN {r1 : Int32} {S : Type} (hr : va_Run p l e R s m args below meth c H locs cells slots mc ms (F0 m pc ls st0) rest (va_Qi (fun r (_ : S) => r = r1) (fun _ _ => True) (fun q => H.size ≤ q) a) (fun q => H.size ≤ q)) (hP : va_P G cl w H) (hS : va_S A0 s.heap H locs) (hA : ∀ q : Nat, s.heap.size ≤ q → A0 q)
    (kk : ∀ (H1 : Heap) (locs1 : List Loc), va_P G cl w H1 → va_S A0 s.heap H1 locs1 → W p l e R s m args below meth c H1 locs1 (cells + mc) (slots + ms) Q (F0 m (pc + 3) ls (.int r1 :: rest))) : W p l e R s m args below meth c H locs cells slots Q (F0 m pc ls st0) := by
  refine va_calli hr hS (fun q _ h => hA q (Nat.le_trans hS.1 h)) (fun q h => hA q (Nat.le_trans hS.1 h)) (fun r u t H1 locs1 ht hvm hw hB hz hk hS1 => ?_)
  subst hw
  exact kk H1 locs1 (fun k q hq => (hP k q hq).kept (hk q.1 (hP k q hq).lt (Nat.not_le.mpr (hP k q hq).lt))) hS1
end GB7
theorem lgc0 {x y : Int64} (h : x = y) : lg_cmp x y = 0 := by
  subst h
  unfold lg_cmp
  rw [if_neg (show ¬ (x > x) from Int64.lt_irrefl), if_pos rfl]
/-- cell(script, 0) -/
def cv0 (L : Nat) (xs : Nat → Int32) : Int32 := if Int32.ofNat L ≤ 0 then 0 else xs 0
def vL_cell : List Cond := .code yL_cell cL_cell 2 (some .int) :: AW
def cellP (b L : Nat) (xs : Nat → Int32) (sz : Nat) : Array Value → State → Prop := va_Pc [.ref b, .int 0] (fun U => U.heap.size = sz ∧ va_X b L xs U U.heap)
theorem cellP_bl {b L sz : Nat} {xs : Nat → Int32} : FrameBlind (cellP b L xs sz) := by
  intro a U g mk q
  obtain ⟨q0, q1, qX⟩ := q
  exact ⟨q0, q1, va_X.moved (u := U) (U := U.calling g mk a) (Vm.Alike.refl U.vm) qX⟩
set_option maxHeartbeats 4000000 in
set_option maxRecDepth 100000 in
theorem c_la_cell (l : Launch) (b L : Nat) (xs : Nat → Int32) (sz : Nat) (hL : L ≤ 2561) (hbl : b < sz) : Met l yL_cell vL_cell { frames := 0, cells := 0, slots := 0, locals := 0 } (cellP b L xs sz) (va_Qi (fun r (_ : Unit) => r = cv0 L xs) (fun _ _ => True) (fun q => sz ≤ q)) 0 0 (fun q => sz ≤ q) := by
  refine Met.ofW (cc := cL_cell) (maxL := 2) (ret := some .int) (by decide) rfl ?_
  intro p e s m args below meth c s₁ B hml hv
  obtain ⟨rfl, hsz, hX⟩ := hv
  have hx := B.exec
  have hb := B.bytes
  have hr := B.returns
  subst hsz
  have hbA : ¬ (fun q : Nat => s.heap.size ≤ q) b := Nat.not_le.mpr hbl
  have hS : va_S (fun q : Nat => s.heap.size ≤ q) s.heap s.heap [] := va_S.rf
  have hl := lv_entry ([.ref b, .int 0]) (n := 2) (Nat.le_of_ble_eq_true rfl)
  rw [lg_entry_eq]
  generalize (lg_sl ([.ref b, .int 0]) ++ List.replicate (2 - (lg_sl ([.ref b, .int 0])).length) Slot.unset).toArray = ls at hl ⊢
  have hl : lv_has ls 2 [(0, .ref b), (1, .int 0)] := hl
  refine lv_iload_n hx hb dL_cell_0 rfl (lv_at hl 1 rfl) ?_
  refine lv_aload_n hx hb dL_cell_1 rfl (lv_at hl 0 rfl) ?_
  refine va_slen hx hb hX hbl hbA hS dL_cell_2 ?_
  refine lv_icmp_ge (tgt := 12) hx hb dL_cell_3 (by decide) (fun h9 => ?_) (fun h9 => ?_)
  · refine lv_iconst (v := 0) hx hb dL_cell_12 (by decide) ?_
    exact W.widen (Nat.le_refl _) (Nat.le_refl _) (W.iret hx hb hr (fun t ht hW => ⟨⟨0, (), rfl, (if_pos h9).symm, trivial⟩, hS.F ht⟩) hS.2.2 dL_cell_13)
  · have hin : vp_in (0 : Int32) L := by
      refine inb_in (q_inb (a := 0) ?_ (by omega))
      rcases Nat.eq_zero_or_pos L with h | h
      · subst h
        exact absurd (by decide) h9
      · exact h
    refine lv_aload_n hx hb dL_cell_6 rfl (lv_at hl 0 rfl) ?_
    refine lv_iload_n hx hb dL_cell_7 rfl (lv_at hl 1 rfl) ?_
    refine va_sld hx hb hX hbl hbA hS hin dL_cell_8 ?_
    refine lv_goto (tgt := 13) hx hb dL_cell_9 (by decide) ?_
    exact W.widen (Nat.le_refl _) (Nat.le_refl _) (W.iret hx hb hr (fun t ht hW => ⟨⟨xs 0, (), rfl, (if_neg h9).symm, trivial⟩, hS.F ht⟩) hS.2.2 dL_cell_13)
/-- what the law's words are -/
def lwT : List Cond := .initialized RL :: AW
def lwA (s : State) : Nat → Prop := fun q => s.heap.size ≤ q
/-- what stands all the while -/
def LX (p : Program) (l : Launch) (s : State) (m : MethodId) (meth : Method) (c : Code) (b L : Nat) (xs : Nat → Int32) (G : va_G) (cI cL cZ cB : ClassId) : Prop :=
  p.tables.exec = Jvm.exec ∧ c.code = code ∧ meth.sig.returnType = ret ∧ c.maxLocals = 8 ∧ s.vm.findClass RL = some m.cls ∧ (∀ w ∈ lwT, w.before #[Value.ref b] s = true) ∧ va_X b L xs s s.heap ∧ b < s.heap.size ∧ meth.locks = false ∧ l.stackTraces = false ∧ va_K G vwCl (mt cI cL cZ cB) s ∧ gTh txC (lwA s) s s.heap ∧ gNc s ∧ L ≤ 2561
/-- the two worlds -/
def LI (s : State) (G : va_G) (cI cL cZ cB : ClassId) (Qf : Nat → Nat) (q bo : Nat) (H : Heap) (locs : List Loc) (A1 A2 : Nat → Nat) (z : Lo) (mm : Ms) : Prop :=
  va_P G vwCl (lwd cL cZ Qf bo A1 z ++ mw cI cL cZ cB q A2 mm) H ∧ va_D (lwA s) (lwd cL cZ Qf bo A1 z ++ mw cI cL cZ cB q A2 mm) ∧ va_S (lwA s) s.heap H locs
/-- alike so far, in so much room -/
def LB (lm t cells slots : Nat) (z : Lo) (mm : Ms) : Prop := St z.h mm lm t ∧ 64 * cells ≤ 4096 + 1024 * t + Pot lm z.h mm ∧ slots ≤ 4096 + 64 * t + Pot lm z.h mm
abbrev lvL (b : Nat) (Qf : Nat → Nat) (q bo : Nat) (iv : Int32) : List (Nat × Value) := [(0, .ref b), (1, .ref (Qf 0)), (2, .ref q), (3, .ref bo), (4, .int iv)]
/-- behind a case -/
def LK (p : Program) (l : Launch) (e : Env) (s : State) (m : MethodId) (below : List Frame) (meth : Method) (c : Code) (b : Nat) (G : va_G) (cI cL cZ cB : ClassId) (Qf : Nat → Nat) (q bo : Nat) (iv : Int32) (lm t : Nat) : Prop :=
  ∀ (H : Heap) (locs : List Loc) (ls : Array Slot) (A1 A2 : Nat → Nat) (z : Lo) (mm : Ms) (cells slots : Nat), LI s G cI cL cZ cB Qf q bo H locs A1 A2 z mm → lv_has ls 8 (lvL b Qf q bo iv) → LB lm (t + 1) cells slots z mm →
    W p l e room_1 s m #[Value.ref b] below meth c H locs cells slots (lw_Z below #[Value.ref b] s) (F0 m 1806 ls [])
theorem PotM {z : Hs} {m : Ms} {lm t : Nat} (S : St z m lm t) : Pot lm z m ≤ 4833391 := by
  obtain ⟨g, o, q, a, c, R, A, h1, h2⟩ := S
  have lm1 := A.lm
  have b1 := c.i.bl
  have b2 := c.i.sl
  have e1 := c.lm
  have Z := R.z
  have k1 := Z.K
  have k2 := Z.so
  have k3 := Z.wl
  have k4 := Z.by
  have k5 := Z.el
  unfold Pot PH PW PM
  have i1 : (if z.nst = lm + 1 then 3 * z.nst else 0) ≤ 3 * z.nst := by split <;> omega
  have i2 : (if z.nbt = 17 + lm then 2 * z.nbt else 0) ≤ 2 * z.nbt := by split <;> omega
  omega
theorem lw_in {i k L : Nat} {iv kv : Int32} (h : i + 5 ≤ L) (hL : L ≤ 2561) (hiv : iv = Int32.ofNat i) (hk : k < 5) (hkv : kv = Int32.ofNat k) : vp_in (iv + kv) L := by
  rw [hiv, hkv, q_add]
  exact inb_in (q_inb (by omega) (by omega))
section GB8
variable {p : Program} {l : Launch} {e : Env} {R : Room} {s : State} {m : MethodId} {args : Array Value} {below : List Frame} {meth : Method} {c : Code} {H H1 : Heap} {locs : List Loc} {cells slots : Nat} {Q : State → Prop}
variable {sz mc ms pc : Nat} {ls : Array Slot} {rest st0 : List Value} {A0 : Nat → Prop} {free : Addr → Prop}
theorem gSc {cc bytes : ByteArray} {nL maxL index b L : Nat} {xs : Nat → Int32} {Ts ws : List Cond} {own : String} {y : MethodName} {ret : Option FieldType} {rm : Room} {Qc : Array Value → State → Outcome → State → Prop}
    (S : CallFix p m c cc nL s args Ts own) (hM : Met l y ws rm (cellP b L xs H.size) Qc mc ms free) (cw : CallB R s args own index y bytes maxL ret ws rm mc ms 2 ∧ (Cond.static y).before args s = true)
    (hX : va_X b L xs s s.heap) (hbl : b < s.heap.size) (hbA : ¬ A0 b) (hS : va_S A0 s.heap H locs) (hsize : ls.size = nL) (hW : (rest.map fun v => v.category).sum ≤ 8)
    (hdg : decode cc pc = .ok (.invokestatic index, 3)) (hf : cells + mc ≤ R.cells ∧ slots + ms ≤ R.slots) :
    va_Run p l e R s m args below meth c H locs cells slots mc ms (F0 m pc ls (.int 0 :: .ref b :: rest)) rest (Qc [.ref b, .int 0].toArray) free :=
  va_runS (As := [.ref b, .int 0]) S hM cw ⟨cellP_bl, fun U hU hW => ⟨rfl, by rw [hU], by rw [hU]; exact va_X.moved hW.alike (hX.kept (hS.2.1 b hbl hbA))⟩⟩ rfl rfl hsize rfl (lv_room hW) hdg hf
end GB8
