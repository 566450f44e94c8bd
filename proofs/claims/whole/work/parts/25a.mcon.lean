set_option maxHeartbeats 4000000 in
set_option maxRecDepth 100000 in
theorem c_md_thrown (l : Launch) (G : va_G) (cI cL cZ cB : ClassId) (q : Nat) (A : Nat → Nat) (z : Ms) (sz : Nat) (O0 : Int32) (hf : md_thrown z = some O0) : Met l yX4_thrown vX4_thrown { frames := 0, cells := 0, slots := 0, locals := 0 } (gPc G vwCl (mt cI cL cZ cB) [.ref q] (mw cI cL cZ cB q A z) sz) (qRi G vwCl (mt cI cL cZ cB) (mw cI cL cZ cB q A z) sz O0) 0 0 (va_A (mw cI cL cZ cB q A z) sz) := by
  refine gMet (by decide) rfl (Nat.le_of_ble_eq_true rfl) ?_
  intro p e s m below meth c ls C hK hP hD hsz hl
  subst hsz
  obtain ⟨hx, hb, hr, hml, hown, hts, hlocks⟩ := id C
  have FX : CallFix p m c cX4_thrown 1 s _ vX4_thrown RX4 := ⟨hx, hb, hml, hown, hts⟩
  have hA : ∀ q9 : Nat, s.heap.size ≤ q9 → va_A (mw cI cL cZ cB q A z) s.heap.size q9 := fun q9 h => Or.inr h
  have hS : va_S (va_A (mw cI cL cZ cB q A z) s.heap.size) s.heap s.heap [] := va_S.rf
  have hl : lv_has ls 1 [(0, .ref q)] := hl
  unfold md_thrown at hf
  refine lv_aload_n hx hb dX4_thrown_0 rfl (lv_at hl 0 rfl) ?_
  refine va_get (D := G) (ci := 4) (v := .int (Ms.thr z)) (C := RX4) (T := TX4) (N := 32) hx hb hts (fun w h => .tail _ (wl_X4 w h)) hown hK hP 0 rfl rfl 0 (by decide) (hts _ (.tail _ wm_0)) (fun _ h9 => h9) rfl dX4_thrown_1 ?_
  obtain rfl := Option.some.inj hf
  exact grRi hx hb hr hlocks hP hK hD hS dX4_thrown_4 (by omega) (by omega)
def At_md_isRegister_j14 (l : Launch) (G : va_G) (cI cL cZ cB : ClassId) (q : Nat) (A : Nat → Nat) (z : Ms) (p : Program) (e : Env) (s : State) (m : MethodId) (args : Array Value) (below : List Frame) (meth : Method) (c : Code) (O0 : Int32) (mcT msT : Nat) (F : Ms → Option (Int32)) : Prop := ∀ (_ : Unit) (H : Heap) (locs : List Loc) (ls : Array Slot) (cells slots : Nat), va_P G vwCl (mw cI cL cZ cB q A z) H → va_D (va_A (mw cI cL cZ cB q A z) s.heap.size) (mw cI cL cZ cB q A z) → va_S (va_A (mw cI cL cZ cB q A z) s.heap.size) s.heap H locs → lv_has ls 1 [] → F z = some O0 → cells + 0 ≤ mcT → slots + 0 ≤ msT → W p l e { frames := 0, cells := mcT, slots := msT, locals := 0 } s m args below meth c H locs cells slots (MQ below (qRi G vwCl (mt cI cL cZ cB) (mw cI cL cZ cB q A z) s.heap.size O0) args s mcT msT (va_A (mw cI cL cZ cB q A z) s.heap.size)) (F0 m 14 ls [])
set_option maxHeartbeats 4000000 in
set_option maxRecDepth 100000 in
theorem L_md_isRegister_j14 (l : Launch) (G : va_G) (cI cL cZ cB : ClassId) (q : Nat) (A : Nat → Nat) (z : Ms) (p : Program) (e : Env) (s : State) (m : MethodId) (args : Array Value) (below : List Frame) (meth : Method) (c : Code) (O0 : Int32) (mcT msT : Nat) (C : MC p s m args meth c cX4_isRegister 1 (some .boolean) RX4 vX4_isRegister) (hK : va_K G vwCl (mt cI cL cZ cB) s) : At_md_isRegister_j14 l G cI cL cZ cB q A z p e s m args below meth c O0 mcT msT md_isRegister_j14 := by
  obtain ⟨hx, hb, hr, hml, hown, hts, hlocks⟩ := id C
  have FX : CallFix p m c cX4_isRegister 1 s args vX4_isRegister RX4 := ⟨hx, hb, hml, hown, hts⟩
  have hA : ∀ q9 : Nat, s.heap.size ≤ q9 → va_A (mw cI cL cZ cB q A z) s.heap.size q9 := fun q9 h => Or.inr h
  intro _ H locs ls cells slots hP hD hS hl hf hcc hss
  unfold md_isRegister_j14 at hf
  refine lv_iconst (v := 0) hx hb dX4_isRegister_14 (by decide) ?_
  obtain rfl := Option.some.inj hf
  exact grRz (by decide) hx hb hr hlocks hP hK hD hS dX4_isRegister_15 (by omega) (by omega)
set_option maxHeartbeats 4000000 in
set_option maxRecDepth 100000 in
theorem c_md_isRegister (l : Launch) (G : va_G) (cI cL cZ cB : ClassId) (q : Nat) (A : Nat → Nat) (z : Ms) (sz : Nat) (p0 : Int32) (O0 : Int32) (hf : md_isRegister z p0 = some O0) : Met l yX4_isRegister vX4_isRegister { frames := 0, cells := 0, slots := 0, locals := 0 } (gPc G vwCl (mt cI cL cZ cB) [.int p0] (mw cI cL cZ cB q A z) sz) (qRi G vwCl (mt cI cL cZ cB) (mw cI cL cZ cB q A z) sz O0) 0 0 (va_A (mw cI cL cZ cB q A z) sz) := by
  refine gMet (by decide) rfl (Nat.le_of_ble_eq_true rfl) ?_
  intro p e s m below meth c ls C hK hP hD hsz hl
  subst hsz
  obtain ⟨hx, hb, hr, hml, hown, hts, hlocks⟩ := id C
  have FX : CallFix p m c cX4_isRegister 1 s _ vX4_isRegister RX4 := ⟨hx, hb, hml, hown, hts⟩
  have hA : ∀ q9 : Nat, s.heap.size ≤ q9 → va_A (mw cI cL cZ cB q A z) s.heap.size q9 := fun q9 h => Or.inr h
  have hS : va_S (va_A (mw cI cL cZ cB q A z) s.heap.size) s.heap s.heap [] := va_S.rf
  have hl : lv_has ls 1 [(0, .int p0)] := hl
  unfold md_isRegister at hf
  refine lv_iload_n hx hb dX4_isRegister_0 rfl (lv_at hl 0 rfl) ?_
  refine lv_if_lt (tgt := 14) hx hb dX4_isRegister_1 (by decide) (fun c1 => ?_) (fun c1 => ?_)
  · have hf := (if_pos c1).symm.trans hf
    exact L_md_isRegister_j14 _ _ _ _ _ _ _ _ _ _ _ _ _ _ _ _ _ _ _ _ C hK () _ _ _ _ _ hP hD hS (lv_sub hl [] rfl) hf (by omega) (by omega)
  · have hf := (if_neg c1).symm.trans hf
    refine lv_iload_n hx hb dX4_isRegister_4 rfl (lv_at hl 0 rfl) ?_
    refine lv_bipush (v := 16) hx hb dX4_isRegister_5 (by decide) ?_
    refine lv_icmp_ge (tgt := 14) hx hb dX4_isRegister_7 (by decide) (fun c2 => ?_) (fun c2 => ?_)
    · have hf := (if_pos c2).symm.trans hf
      exact L_md_isRegister_j14 _ _ _ _ _ _ _ _ _ _ _ _ _ _ _ _ _ _ _ _ C hK () _ _ _ _ _ hP hD hS (lv_sub hl [] rfl) hf (by omega) (by omega)
    · have hf := (if_neg c2).symm.trans hf
      refine lv_iconst (v := 1) hx hb dX4_isRegister_10 (by decide) ?_
      refine lv_goto (tgt := 15) hx hb dX4_isRegister_11 (by decide) ?_
      obtain rfl := Option.some.inj hf
      exact grRz (by decide) hx hb hr hlocks hP hK hD hS dX4_isRegister_15 (by omega) (by omega)
def At_md_outside_j10 (l : Launch) (G : va_G) (cI cL cZ cB : ClassId) (q : Nat) (A : Nat → Nat) (z : Ms) (p : Program) (e : Env) (s : State) (m : MethodId) (args : Array Value) (below : List Frame) (meth : Method) (c : Code) (O0 : Int32) (mcT msT : Nat) (F : Ms → Option (Int32)) : Prop := ∀ (_ : Unit) (H : Heap) (locs : List Loc) (ls : Array Slot) (cells slots : Nat), va_P G vwCl (mw cI cL cZ cB q A z) H → va_D (va_A (mw cI cL cZ cB q A z) s.heap.size) (mw cI cL cZ cB q A z) → va_S (va_A (mw cI cL cZ cB q A z) s.heap.size) s.heap H locs → lv_has ls 3 [] → F z = some O0 → cells + 0 ≤ mcT → slots + 0 ≤ msT → W p l e { frames := 0, cells := mcT, slots := msT, locals := 0 } s m args below meth c H locs cells slots (MQ below (qRi G vwCl (mt cI cL cZ cB) (mw cI cL cZ cB q A z) s.heap.size O0) args s mcT msT (va_A (mw cI cL cZ cB q A z) s.heap.size)) (F0 m 10 ls [])
set_option maxHeartbeats 4000000 in
set_option maxRecDepth 100000 in
theorem L_md_outside_j10 (l : Launch) (G : va_G) (cI cL cZ cB : ClassId) (q : Nat) (A : Nat → Nat) (z : Ms) (p : Program) (e : Env) (s : State) (m : MethodId) (args : Array Value) (below : List Frame) (meth : Method) (c : Code) (O0 : Int32) (mcT msT : Nat) (C : MC p s m args meth c cX4_outside 3 (some .boolean) RX4 vX4_outside) (hK : va_K G vwCl (mt cI cL cZ cB) s) : At_md_outside_j10 l G cI cL cZ cB q A z p e s m args below meth c O0 mcT msT md_outside_j10 := by
  obtain ⟨hx, hb, hr, hml, hown, hts, hlocks⟩ := id C
  have FX : CallFix p m c cX4_outside 3 s args vX4_outside RX4 := ⟨hx, hb, hml, hown, hts⟩
  have hA : ∀ q9 : Nat, s.heap.size ≤ q9 → va_A (mw cI cL cZ cB q A z) s.heap.size q9 := fun q9 h => Or.inr h
  intro _ H locs ls cells slots hP hD hS hl hf hcc hss
  unfold md_outside_j10 at hf
  refine lv_iconst (v := 1) hx hb dX4_outside_10 (by decide) ?_
  refine lv_goto (tgt := 15) hx hb dX4_outside_11 (by decide) ?_
  obtain rfl := Option.some.inj hf
  exact grRz (by decide) hx hb hr hlocks hP hK hD hS dX4_outside_15 (by omega) (by omega)
set_option maxHeartbeats 4000000 in
set_option maxRecDepth 100000 in
theorem c_md_outside (l : Launch) (G : va_G) (cI cL cZ cB : ClassId) (q : Nat) (A : Nat → Nat) (z : Ms) (sz : Nat) (p0 : Int32) (p1 : Int32) (p2 : Int32) (O0 : Int32) (hf : md_outside z p0 p1 p2 = some O0) : Met l yX4_outside vX4_outside { frames := 0, cells := 0, slots := 0, locals := 0 } (gPc G vwCl (mt cI cL cZ cB) [.int p0, .int p1, .int p2] (mw cI cL cZ cB q A z) sz) (qRi G vwCl (mt cI cL cZ cB) (mw cI cL cZ cB q A z) sz O0) 0 0 (va_A (mw cI cL cZ cB q A z) sz) := by
  refine gMet (by decide) rfl (Nat.le_of_ble_eq_true rfl) ?_
  intro p e s m below meth c ls C hK hP hD hsz hl
  subst hsz
  obtain ⟨hx, hb, hr, hml, hown, hts, hlocks⟩ := id C
  have FX : CallFix p m c cX4_outside 3 s _ vX4_outside RX4 := ⟨hx, hb, hml, hown, hts⟩
  have hA : ∀ q9 : Nat, s.heap.size ≤ q9 → va_A (mw cI cL cZ cB q A z) s.heap.size q9 := fun q9 h => Or.inr h
  have hS : va_S (va_A (mw cI cL cZ cB q A z) s.heap.size) s.heap s.heap [] := va_S.rf
  have hl : lv_has ls 3 [(0, .int p0), (1, .int p1), (2, .int p2)] := hl
  unfold md_outside at hf
  refine lv_iload_n hx hb dX4_outside_0 rfl (lv_at hl 0 rfl) ?_
  refine lv_iload_n hx hb dX4_outside_1 rfl (lv_at hl 1 rfl) ?_
  refine lv_icmp_lt (tgt := 10) hx hb dX4_outside_2 (by decide) (fun c1 => ?_) (fun c1 => ?_)
  · have hf := (if_pos c1).symm.trans hf
    exact L_md_outside_j10 _ _ _ _ _ _ _ _ _ _ _ _ _ _ _ _ _ _ _ _ C hK () _ _ _ _ _ hP hD hS (lv_sub hl [] rfl) hf (by omega) (by omega)
  · have hf := (if_neg c1).symm.trans hf
    refine lv_iload_n hx hb dX4_outside_5 rfl (lv_at hl 0 rfl) ?_
    refine lv_iload_n hx hb dX4_outside_6 rfl (lv_at hl 2 rfl) ?_
    refine lv_icmp_le (tgt := 14) hx hb dX4_outside_7 (by decide) (fun c2 => ?_) (fun c2 => ?_)
    · have hf := (if_pos c2).symm.trans hf
      refine lv_iconst (v := 0) hx hb dX4_outside_14 (by decide) ?_
      obtain rfl := Option.some.inj hf
      exact grRz (by decide) hx hb hr hlocks hP hK hD hS dX4_outside_15 (by omega) (by omega)
    · have hf := (if_neg c2).symm.trans hf
      exact L_md_outside_j10 _ _ _ _ _ _ _ _ _ _ _ _ _ _ _ _ _ _ _ _ C hK () _ _ _ _ _ hP hD hS (lv_sub hl [] rfl) hf (by omega) (by omega)
def At_md_is_j28 (l : Launch) (G : va_G) (cI cL cZ cB : ClassId) (q : Nat) (A : Nat → Nat) (z : Ms) (p : Program) (e : Env) (s : State) (m : MethodId) (args : Array Value) (below : List Frame) (meth : Method) (c : Code) (O0 : Int32) (mcT msT : Nat) (F : Ms → Option (Int32)) : Prop := ∀ (_ : Unit) (H : Heap) (locs : List Loc) (ls : Array Slot) (cells slots : Nat), va_P G vwCl (mw cI cL cZ cB q A z) H → va_D (va_A (mw cI cL cZ cB q A z) s.heap.size) (mw cI cL cZ cB q A z) → va_S (va_A (mw cI cL cZ cB q A z) s.heap.size) s.heap H locs → lv_has ls 3 [] → F z = some O0 → cells + 0 ≤ mcT → slots + 0 ≤ msT → W p l e { frames := 0, cells := mcT, slots := msT, locals := 0 } s m args below meth c H locs cells slots (MQ below (qRi G vwCl (mt cI cL cZ cB) (mw cI cL cZ cB q A z) s.heap.size O0) args s mcT msT (va_A (mw cI cL cZ cB q A z) s.heap.size)) (F0 m 28 ls [])
set_option maxHeartbeats 4000000 in
set_option maxRecDepth 100000 in
theorem L_md_is_j28 (l : Launch) (G : va_G) (cI cL cZ cB : ClassId) (q : Nat) (A : Nat → Nat) (z : Ms) (p : Program) (e : Env) (s : State) (m : MethodId) (args : Array Value) (below : List Frame) (meth : Method) (c : Code) (O0 : Int32) (mcT msT : Nat) (C : MC p s m args meth c cX4_is 3 (some .boolean) RX4 vX4_is) (hK : va_K G vwCl (mt cI cL cZ cB) s) : At_md_is_j28 l G cI cL cZ cB q A z p e s m args below meth c O0 mcT msT md_is_j28 := by
  obtain ⟨hx, hb, hr, hml, hown, hts, hlocks⟩ := id C
  have FX : CallFix p m c cX4_is 3 s args vX4_is RX4 := ⟨hx, hb, hml, hown, hts⟩
  have hA : ∀ q9 : Nat, s.heap.size ≤ q9 → va_A (mw cI cL cZ cB q A z) s.heap.size q9 := fun q9 h => Or.inr h
  intro _ H locs ls cells slots hP hD hS hl hf hcc hss
  unfold md_is_j28 at hf
  refine lv_iconst (v := 0) hx hb dX4_is_28 (by decide) ?_
  obtain rfl := Option.some.inj hf
  exact grRz (by decide) hx hb hr hlocks hP hK hD hS dX4_is_29 (by omega) (by omega)
set_option maxHeartbeats 4000000 in
set_option maxRecDepth 100000 in
theorem c_md_is (l : Launch) (G : va_G) (cI cL cZ cB : ClassId) (q : Nat) (A : Nat → Nat) (z : Ms) (sz : Nat) (p0 : Int32) (p1 : Int32) (O0 : Int32) (hf : md_is z p0 p1 = some O0) : Met l yX4_is vX4_is { frames := 0, cells := 0, slots := 0, locals := 0 } (gPc G vwCl (mt cI cL cZ cB) [.ref q, .int p0, .int p1] (mw cI cL cZ cB q A z) sz) (qRi G vwCl (mt cI cL cZ cB) (mw cI cL cZ cB q A z) sz O0) 0 0 (va_A (mw cI cL cZ cB q A z) sz) := by
  refine gMet (by decide) rfl (Nat.le_of_ble_eq_true rfl) ?_
  intro p e s m below meth c ls C hK hP hD hsz hl
  subst hsz
  obtain ⟨hx, hb, hr, hml, hown, hts, hlocks⟩ := id C
  have FX : CallFix p m c cX4_is 3 s _ vX4_is RX4 := ⟨hx, hb, hml, hown, hts⟩
  have hA : ∀ q9 : Nat, s.heap.size ≤ q9 → va_A (mw cI cL cZ cB q A z) s.heap.size q9 := fun q9 h => Or.inr h
  have hS : va_S (va_A (mw cI cL cZ cB q A z) s.heap.size) s.heap s.heap [] := va_S.rf
  have hl : lv_has ls 3 [(0, .ref q), (1, .int p0), (2, .int p1)] := hl
  unfold md_is at hf
  refine lv_aload_n hx hb dX4_is_0 rfl (lv_at hl 0 rfl) ?_
  refine va_get (D := G) (ci := 4) (v := .ref (A 1)) (C := RX4) (T := TX4) (N := 32) hx hb hts (fun w h => .tail _ (wl_X4 w h)) hown hK hP 0 rfl rfl 7 (by decide) (hts _ (.tail _ wm_1)) (fun _ h9 => h9) rfl dX4_is_1 ?_
  refine lv_iload_n hx hb dX4_is_4 rfl (lv_at hl 1 rfl) ?_
  obtain ⟨hg1, hf⟩ := of_gd hf
  refine va_iald (f := (Ms.atg z)) (n := (Ms.ntg z)) hx hb hK hP 1 0 rfl rfl (inb_in hg1) dX4_is_5 ?_
  refine lv_if_le (tgt := 28) hx hb dX4_is_6 (by decide) (fun c2 => ?_) (fun c2 => ?_)
  · have hf := (if_pos c2).symm.trans hf
    exact L_md_is_j28 _ _ _ _ _ _ _ _ _ _ _ _ _ _ _ _ _ _ _ _ C hK () _ _ _ _ _ hP hD hS (lv_sub hl [] rfl) hf (by omega) (by omega)
  · have hf := (if_neg c2).symm.trans hf
    refine lv_aload_n hx hb dX4_is_9 rfl (lv_at hl 0 rfl) ?_
    refine va_get (D := G) (ci := 4) (v := .ref (A 3)) (C := RX4) (T := TX4) (N := 32) hx hb hts (fun w h => .tail _ (wl_X4 w h)) hown hK hP 0 rfl rfl 10 (by decide) (hts _ (.tail _ wm_2)) (fun _ h9 => h9) rfl dX4_is_10 ?_
    refine lv_aload_n hx hb dX4_is_13 rfl (lv_at hl 0 rfl) ?_
    refine va_get (D := G) (ci := 4) (v := .ref (A 1)) (C := RX4) (T := TX4) (N := 32) hx hb hts (fun w h => .tail _ (wl_X4 w h)) hown hK hP 0 rfl rfl 7 (by decide) (hts _ (.tail _ wm_1)) (fun _ h9 => h9) rfl dX4_is_14 ?_
    refine lv_iload_n hx hb dX4_is_17 rfl (lv_at hl 1 rfl) ?_
    obtain ⟨hg3, hf⟩ := of_gd hf
    refine va_iald (f := (Ms.atg z)) (n := (Ms.ntg z)) hx hb hK hP 1 0 rfl rfl (inb_in hg3) dX4_is_18 ?_
    obtain ⟨hg4, hf⟩ := of_gd hf
    refine va_iald (f := (Ms.aso z)) (n := (Ms.nso z)) hx hb hK hP 3 0 rfl rfl (inb_in hg4) dX4_is_19 ?_
    refine lv_iload_n hx hb dX4_is_20 rfl (lv_at hl 2 rfl) ?_
    refine lv_icmp_ne (tgt := 28) hx hb dX4_is_21 (by decide) (fun c5 => ?_) (fun c5 => ?_)
    · have hf := (if_neg c5).symm.trans hf
      exact L_md_is_j28 _ _ _ _ _ _ _ _ _ _ _ _ _ _ _ _ _ _ _ _ C hK () _ _ _ _ _ hP hD hS (lv_sub hl [] rfl) hf (by omega) (by omega)
    · have hf := (if_pos c5).symm.trans hf
      refine lv_iconst (v := 1) hx hb dX4_is_24 (by decide) ?_
      refine lv_goto (tgt := 29) hx hb dX4_is_25 (by decide) ?_
      obtain rfl := Option.some.inj hf
      exact grRz (by decide) hx hb hr hlocks hP hK hD hS dX4_is_29 (by omega) (by omega)
def At_md_isText_j19 (l : Launch) (G : va_G) (cI cL cZ cB : ClassId) (q : Nat) (A : Nat → Nat) (z : Ms) (p : Program) (e : Env) (s : State) (m : MethodId) (args : Array Value) (below : List Frame) (meth : Method) (c : Code) (O0 : Int32) (mcT msT : Nat) (F : Ms → Option (Int32)) : Prop := ∀ (_ : Unit) (H : Heap) (locs : List Loc) (ls : Array Slot) (cells slots : Nat), va_P G vwCl (mw cI cL cZ cB q A z) H → va_D (va_A (mw cI cL cZ cB q A z) s.heap.size) (mw cI cL cZ cB q A z) → va_S (va_A (mw cI cL cZ cB q A z) s.heap.size) s.heap H locs → lv_has ls 2 [] → F z = some O0 → cells + 0 ≤ mcT → slots + 0 ≤ msT → W p l e { frames := 1, cells := mcT, slots := msT, locals := 22 } s m args below meth c H locs cells slots (MQ below (qRi G vwCl (mt cI cL cZ cB) (mw cI cL cZ cB q A z) s.heap.size O0) args s mcT msT (va_A (mw cI cL cZ cB q A z) s.heap.size)) (F0 m 19 ls [])
set_option maxHeartbeats 4000000 in
set_option maxRecDepth 100000 in
theorem L_md_isText_j19 (l : Launch) (G : va_G) (cI cL cZ cB : ClassId) (q : Nat) (A : Nat → Nat) (z : Ms) (p : Program) (e : Env) (s : State) (m : MethodId) (args : Array Value) (below : List Frame) (meth : Method) (c : Code) (O0 : Int32) (mcT msT : Nat) (C : MC p s m args meth c cX4_isText 2 (some .boolean) RX4 vX4_isText) (hK : va_K G vwCl (mt cI cL cZ cB) s) : At_md_isText_j19 l G cI cL cZ cB q A z p e s m args below meth c O0 mcT msT md_isText_j19 := by
  obtain ⟨hx, hb, hr, hml, hown, hts, hlocks⟩ := id C
  have FX : CallFix p m c cX4_isText 2 s args vX4_isText RX4 := ⟨hx, hb, hml, hown, hts⟩
  have hA : ∀ q9 : Nat, s.heap.size ≤ q9 → va_A (mw cI cL cZ cB q A z) s.heap.size q9 := fun q9 h => Or.inr h
  intro _ H locs ls cells slots hP hD hS hl hf hcc hss
  unfold md_isText_j19 at hf
  refine lv_iconst (v := 1) hx hb dX4_isText_19 (by decide) ?_
  refine lv_goto (tgt := 24) hx hb dX4_isText_20 (by decide) ?_
  obtain rfl := Option.some.inj hf
  exact grRz (by decide) hx hb hr hlocks hP hK hD hS dX4_isText_24 (by omega) (by omega)
set_option maxHeartbeats 4000000 in
set_option maxRecDepth 100000 in
theorem c_md_isText (l : Launch) (G : va_G) (cI cL cZ cB : ClassId) (q : Nat) (A : Nat → Nat) (z : Ms) (sz : Nat) (p0 : Int32) (O0 : Int32) (hf : md_isText z p0 = some O0) : Met l yX4_isText vX4_isText { frames := 1, cells := 0, slots := 0, locals := 22 } (gPc G vwCl (mt cI cL cZ cB) [.ref q, .int p0] (mw cI cL cZ cB q A z) sz) (qRi G vwCl (mt cI cL cZ cB) (mw cI cL cZ cB q A z) sz O0) 0 0 (va_A (mw cI cL cZ cB q A z) sz) := by
  refine gMet (by decide) rfl (Nat.le_of_ble_eq_true rfl) ?_
  intro p e s m below meth c ls C hK hP hD hsz hl
  subst hsz
  obtain ⟨hx, hb, hr, hml, hown, hts, hlocks⟩ := id C
  have FX : CallFix p m c cX4_isText 2 s _ vX4_isText RX4 := ⟨hx, hb, hml, hown, hts⟩
  have hA : ∀ q9 : Nat, s.heap.size ≤ q9 → va_A (mw cI cL cZ cB q A z) s.heap.size q9 := fun q9 h => Or.inr h
  have hS : va_S (va_A (mw cI cL cZ cB q A z) s.heap.size) s.heap s.heap [] := va_S.rf
  have hl : lv_has ls 2 [(0, .ref q), (1, .int p0)] := hl
  unfold md_isText at hf
  refine lv_aload_n hx hb dX4_isText_0 rfl (lv_at hl 0 rfl) ?_
  refine va_get (D := G) (ci := 4) (v := .ref (A 1)) (C := RX4) (T := TX4) (N := 32) hx hb hts (fun w h => .tail _ (wl_X4 w h)) hown hK hP 0 rfl rfl 7 (by decide) (hts _ (.tail _ wm_1)) (fun _ h9 => h9) rfl dX4_isText_1 ?_
  refine lv_iload_n hx hb dX4_isText_4 rfl (lv_at hl 1 rfl) ?_
  obtain ⟨hg1, hf⟩ := of_gd hf
  refine va_iald (f := (Ms.atg z)) (n := (Ms.ntg z)) hx hb hK hP 1 0 rfl rfl (inb_in hg1) dX4_isText_5 ?_
  refine lv_iconst (v := (-1)) hx hb dX4_isText_6 (by decide) ?_
  refine lv_icmp_eq (tgt := 19) hx hb dX4_isText_7 (by decide) (fun c2 => ?_) (fun c2 => ?_)
  · have hf := (if_pos c2).symm.trans hf
    exact L_md_isText_j19 _ _ _ _ _ _ _ _ _ _ _ _ _ _ _ _ _ _ _ _ C hK () _ _ _ _ _ hP hD hS (lv_sub hl [] rfl) hf (by omega) (by omega)
  · have hf := (if_neg c2).symm.trans hf
    refine lv_aload_n hx hb dX4_isText_10 rfl (lv_at hl 0 rfl) ?_
    refine lv_iload_n hx hb dX4_isText_11 rfl (lv_at hl 1 rfl) ?_
    refine lv_iconst (v := 3) hx hb dX4_isText_12 (by decide) ?_
    obtain ⟨r3, ho3, hf⟩ := of_b0 hf
    refine gcRi (gV FX [.int p0, .int 3] (c_md_is l G cI cL cZ cB q A z _ p0 3 _ ho3) (cwV 2 hts (gi_V wm_3 wm_4 wm_5 wm_6 wm_7) rfl rfl rfl hdV_X4_is ⟨Nat.le_of_ble_eq_true rfl, Nat.le_of_ble_eq_true rfl⟩) hK hP hD 0 rfl rfl rfl hl.1 (Nat.le_of_ble_eq_true rfl) dX4_isText_13 ⟨by show _ ≤ 0; omega, by show _ ≤ 0; omega⟩) hS hD hA (fun H locs hP hS => ?_)
    refine lv_if_eq (tgt := 23) hx hb dX4_isText_16 (by decide) (fun c4 => ?_) (fun c4 => ?_)
    · have hf := (if_pos c4).symm.trans hf
      refine lv_iconst (v := 0) hx hb dX4_isText_23 (by decide) ?_
      obtain rfl := Option.some.inj hf
      exact grRz (by decide) hx hb hr hlocks hP hK hD hS dX4_isText_24 (by omega) (by omega)
    · have hf := (if_neg c4).symm.trans hf
      exact L_md_isText_j19 _ _ _ _ _ _ _ _ _ _ _ _ _ _ _ _ _ _ _ _ C hK () _ _ _ _ _ hP hD hS (lv_sub hl [] rfl) hf (by omega) (by omega)
set_option maxHeartbeats 4000000 in
set_option maxRecDepth 100000 in
theorem c_md_set (l : Launch) (G : va_G) (cI cL cZ cB : ClassId) (q : Nat) (A : Nat → Nat) (z : Ms) (sz : Nat) (p0 : Int32) (p1 : Int32) (p2 : Int64) (O0 : Ms × Unit) (hf : md_set z p0 p1 p2 = some O0) : Met l yX4_set vX4_set { frames := 0, cells := 0, slots := 0, locals := 0 } (gPc G vwCl (mt cI cL cZ cB) [.ref q, .int p0, .int p1, .long p2] (mw cI cL cZ cB q A z) sz) (qWv G vwCl (mt cI cL cZ cB) (mw cI cL cZ cB q A z) sz (mw cI cL cZ cB q) O0) 0 0 (va_A (mw cI cL cZ cB q A z) sz) := by
  refine gMet (by decide) rfl (Nat.le_of_ble_eq_true rfl) ?_
  intro p e s m below meth c ls C hK hP hD hsz hl
  subst hsz
  obtain ⟨hx, hb, hr, hml, hown, hts, hlocks⟩ := id C
  have FX : CallFix p m c cX4_set 5 s _ vX4_set RX4 := ⟨hx, hb, hml, hown, hts⟩
  have hA : ∀ q9 : Nat, s.heap.size ≤ q9 → va_A (mw cI cL cZ cB q A z) s.heap.size q9 := fun q9 h => Or.inr h
  have hS : va_S (va_A (mw cI cL cZ cB q A z) s.heap.size) s.heap s.heap [] := va_S.rf
  have hl : lv_has ls 5 [(0, .ref q), (1, .int p0), (2, .int p1), (3, .long p2)] := hl
  unfold md_set at hf
  refine lv_aload_n hx hb dX4_set_0 rfl (lv_at hl 0 rfl) ?_
  refine va_get (D := G) (ci := 4) (v := .ref (A 1)) (C := RX4) (T := TX4) (N := 32) hx hb hts (fun w h => .tail _ (wl_X4 w h)) hown hK hP 0 rfl rfl 7 (by decide) (hts _ (.tail _ wm_1)) (fun _ h9 => h9) rfl dX4_set_1 ?_
  refine lv_iload_n hx hb dX4_set_4 rfl (lv_at hl 1 rfl) ?_
  refine lv_iload_n hx hb dX4_set_5 rfl (lv_at hl 2 rfl) ?_
  obtain ⟨hg1, hf⟩ := of_gd hf
  refine va_iast (f := (Ms.atg z)) (n := (Ms.ntg z)) hx hb hK hP hD hS 1 0 rfl rfl (inb_in hg1) dX4_set_6 (fun H locs hP hD hS => ?_)
  have hP : va_P G vwCl (mw cI cL cZ cB q A (Ms.wtg z (upd (Ms.atg z) (p0.toNatClampNeg) p1))) H := hP
  have hD : va_D _ (mw cI cL cZ cB q A (Ms.wtg z (upd (Ms.atg z) (p0.toNatClampNeg) p1))) := hD
  refine lv_aload_n hx hb dX4_set_7 rfl (lv_at hl 0 rfl) ?_
  refine va_get (D := G) (ci := 4) (v := .ref (A 2)) (C := RX4) (T := TX4) (N := 32) hx hb hts (fun w h => .tail _ (wl_X4 w h)) hown hK hP 0 rfl rfl 8 (by decide) (hts _ (.tail _ wm_8)) (fun _ h9 => h9) rfl dX4_set_8 ?_
  refine lv_iload_n hx hb dX4_set_11 rfl (lv_at hl 1 rfl) ?_
  refine lv_lload_n hx hb dX4_set_12 rfl (lv_at hl 3 rfl) ?_
  obtain ⟨hg2, hf⟩ := of_gd hf
  refine va_last (f := (Ms.avl z)) (n := (Ms.nvl z)) hx hb hK hP hD hS 2 1 rfl rfl (inb_in hg2) dX4_set_13 (fun H locs hP hD hS => ?_)
  have hP : va_P G vwCl (mw cI cL cZ cB q A (Ms.wvl (Ms.wtg z (upd (Ms.atg z) (p0.toNatClampNeg) p1)) (vp_updL (Ms.avl z) (p0.toNatClampNeg) p2))) H := hP
  have hD : va_D _ (mw cI cL cZ cB q A (Ms.wvl (Ms.wtg z (upd (Ms.atg z) (p0.toNatClampNeg) p1)) (vp_updL (Ms.avl z) (p0.toNatClampNeg) p2))) := hD
  obtain rfl := Option.some.inj hf
  exact grWv hx hb hr hlocks hP hK hD hS dX4_set_14 (by omega) (by omega)
set_option maxHeartbeats 4000000 in
set_option maxRecDepth 100000 in
theorem c_md_tableOf (l : Launch) (G : va_G) (cI cL cZ cB : ClassId) (q : Nat) (A : Nat → Nat) (z : Ms) (sz : Nat) (p0 : Int32) (p1 : Int64) (O0 : Int64) (hf : md_tableOf z p0 p1 = some O0) : Met l yX4_tableOf vX4_tableOf { frames := 0, cells := 0, slots := 0, locals := 0 } (gPc G vwCl (mt cI cL cZ cB) [.ref q, .int p0, .long p1] (mw cI cL cZ cB q A z) sz) (qRl G vwCl (mt cI cL cZ cB) (mw cI cL cZ cB q A z) sz O0) 0 0 (va_A (mw cI cL cZ cB q A z) sz) := by
  refine gMet (by decide) rfl (Nat.le_of_ble_eq_true rfl) ?_
  intro p e s m below meth c ls C hK hP hD hsz hl
  subst hsz
  obtain ⟨hx, hb, hr, hml, hown, hts, hlocks⟩ := id C
  have FX : CallFix p m c cX4_tableOf 4 s _ vX4_tableOf RX4 := ⟨hx, hb, hml, hown, hts⟩
  have hA : ∀ q9 : Nat, s.heap.size ≤ q9 → va_A (mw cI cL cZ cB q A z) s.heap.size q9 := fun q9 h => Or.inr h
  have hS : va_S (va_A (mw cI cL cZ cB q A z) s.heap.size) s.heap s.heap [] := va_S.rf
  have hl : lv_has ls 4 [(0, .ref q), (1, .int p0), (2, .long p1)] := hl
  unfold md_tableOf at hf
  refine lv_lload_n hx hb dX4_tableOf_0 rfl (lv_at hl 2 rfl) ?_
  refine lv_iconst (v := 3) hx hb dX4_tableOf_1 (by decide) ?_
  refine lv_aload_n hx hb dX4_tableOf_2 rfl (lv_at hl 0 rfl) ?_
  refine va_get (D := G) (ci := 4) (v := .ref (A 6)) (C := RX4) (T := TX4) (N := 32) hx hb hts (fun w h => .tail _ (wl_X4 w h)) hown hK hP 0 rfl rfl 13 (by decide) (hts _ (.tail _ wm_9)) (fun _ h9 => h9) rfl dX4_tableOf_3 ?_
  refine lv_iload_n hx hb dX4_tableOf_6 rfl (lv_at hl 1 rfl) ?_
  obtain ⟨hg1, hf⟩ := of_gd hf
  refine va_iald (f := (Ms.ake z)) (n := (Ms.nke z)) hx hb hK hP 6 0 rfl rfl (inb_in hg1) dX4_tableOf_7 ?_
  refine lv_iadd hx hb dX4_tableOf_8 ?_
  refine lv_aload_n hx hb dX4_tableOf_9 rfl (lv_at hl 0 rfl) ?_
  refine va_get (D := G) (ci := 4) (v := .ref (A 7)) (C := RX4) (T := TX4) (N := 32) hx hb hts (fun w h => .tail _ (wl_X4 w h)) hown hK hP 0 rfl rfl 14 (by decide) (hts _ (.tail _ wm_10)) (fun _ h9 => h9) rfl dX4_tableOf_10 ?_
  refine lv_iload_n hx hb dX4_tableOf_13 rfl (lv_at hl 1 rfl) ?_
  obtain ⟨hg2, hf⟩ := of_gd hf
  refine va_iald (f := (Ms.ava z)) (n := (Ms.nva z)) hx hb hK hP 7 0 rfl rfl (inb_in hg2) dX4_tableOf_14 ?_
  refine lv_iadd hx hb dX4_tableOf_15 ?_
  refine lv_i2l hx hb dX4_tableOf_16 rfl ?_
  refine lv_lmul hx hb dX4_tableOf_17 ?_
  refine lv_lconst (v := 1) hx hb dX4_tableOf_18 (by decide) ?_
  refine lv_ladd hx hb dX4_tableOf_19 ?_
  obtain rfl := Option.some.inj hf
  exact grRl hx hb hr hlocks hP hK hD hS dX4_tableOf_20 (by omega) (by omega)
set_option maxHeartbeats 4000000 in
set_option maxRecDepth 100000 in
theorem c_md_takes (l : Launch) (G : va_G) (cI cL cZ cB : ClassId) (q : Nat) (A : Nat → Nat) (z : Ms) (sz : Nat) (p0 : Int32) (O0 : Int64) (hf : md_takes z p0 = some O0) : Met l yX4_takes vX4_takes { frames := 1, cells := 0, slots := 0, locals := 23 } (gPc G vwCl (mt cI cL cZ cB) [.ref q, .int p0] (mw cI cL cZ cB q A z) sz) (qRl G vwCl (mt cI cL cZ cB) (mw cI cL cZ cB q A z) sz O0) 0 0 (va_A (mw cI cL cZ cB q A z) sz) := by
  refine gMet (by decide) rfl (Nat.le_of_ble_eq_true rfl) ?_
  intro p e s m below meth c ls C hK hP hD hsz hl
  subst hsz
  obtain ⟨hx, hb, hr, hml, hown, hts, hlocks⟩ := id C
  have FX : CallFix p m c cX4_takes 2 s _ vX4_takes RX4 := ⟨hx, hb, hml, hown, hts⟩
  have hA : ∀ q9 : Nat, s.heap.size ≤ q9 → va_A (mw cI cL cZ cB q A z) s.heap.size q9 := fun q9 h => Or.inr h
  have hS : va_S (va_A (mw cI cL cZ cB q A z) s.heap.size) s.heap s.heap [] := va_S.rf
  have hl : lv_has ls 2 [(0, .ref q), (1, .int p0)] := hl
  unfold md_takes at hf
  refine lv_aload_n hx hb dX4_takes_0 rfl (lv_at hl 0 rfl) ?_
  refine va_get (D := G) (ci := 4) (v := .ref (A 3)) (C := RX4) (T := TX4) (N := 32) hx hb hts (fun w h => .tail _ (wl_X4 w h)) hown hK hP 0 rfl rfl 10 (by decide) (hts _ (.tail _ wm_2)) (fun _ h9 => h9) rfl dX4_takes_1 ?_
  refine lv_iload_n hx hb dX4_takes_4 rfl (lv_at hl 1 rfl) ?_
  obtain ⟨hg1, hf⟩ := of_gd hf
  refine va_iald (f := (Ms.aso z)) (n := (Ms.nso z)) hx hb hK hP 3 0 rfl rfl (inb_in hg1) dX4_takes_5 ?_
  refine lv_iconst (v := 2) hx hb dX4_takes_6 (by decide) ?_
  refine lv_icmp_ne (tgt := 20) hx hb dX4_takes_7 (by decide) (fun c2 => ?_) (fun c2 => ?_)
  · have hf := (if_neg c2).symm.trans hf
    refine lv_aload_n hx hb dX4_takes_20 rfl (lv_at hl 0 rfl) ?_
    refine va_get (D := G) (ci := 4) (v := .ref (A 3)) (C := RX4) (T := TX4) (N := 32) hx hb hts (fun w h => .tail _ (wl_X4 w h)) hown hK hP 0 rfl rfl 10 (by decide) (hts _ (.tail _ wm_2)) (fun _ h9 => h9) rfl dX4_takes_21 ?_
    refine lv_iload_n hx hb dX4_takes_24 rfl (lv_at hl 1 rfl) ?_
    obtain ⟨hg3, hf⟩ := of_gd hf
    refine va_iald (f := (Ms.aso z)) (n := (Ms.nso z)) hx hb hK hP 3 0 rfl rfl (inb_in hg3) dX4_takes_25 ?_
    refine lv_iconst (v := 3) hx hb dX4_takes_26 (by decide) ?_
    refine lv_icmp_ne (tgt := 48) hx hb dX4_takes_27 (by decide) (fun c4 => ?_) (fun c4 => ?_)
    · have hf := (if_neg c4).symm.trans hf
      refine lv_ldc2 (v := 6) hx hb hown (hts _ (.tail _ wm_11)) dX4_takes_48 ?_
      refine lv_aload_n hx hb dX4_takes_51 rfl (lv_at hl 0 rfl) ?_
      refine lv_iload_n hx hb dX4_takes_52 rfl (lv_at hl 1 rfl) ?_
      refine lv_aload_n hx hb dX4_takes_53 rfl (lv_at hl 0 rfl) ?_
      refine va_get (D := G) (ci := 4) (v := .ref (A 9)) (C := RX4) (T := TX4) (N := 32) hx hb hts (fun w h => .tail _ (wl_X4 w h)) hown hK hP 0 rfl rfl 16 (by decide) (hts _ (.tail _ wm_12)) (fun _ h9 => h9) rfl dX4_takes_54 ?_
      refine lv_iload_n hx hb dX4_takes_57 rfl (lv_at hl 1 rfl) ?_
      obtain ⟨hg5, hf⟩ := of_gd hf
      refine va_iald (f := (Ms.aca z)) (n := (Ms.nca z)) hx hb hK hP 9 0 rfl rfl (inb_in hg5) dX4_takes_58 ?_
      refine lv_i2l hx hb dX4_takes_59 rfl ?_
      obtain ⟨r6, ho6, hf⟩ := of_b0 hf
      refine gcRl (gV FX [.int p0, .long (((Ms.aca z) p0.toNatClampNeg).toInt64)] (c_md_tableOf l G cI cL cZ cB q A z _ p0 (((Ms.aca z) p0.toNatClampNeg).toInt64) _ ho6) (cwV 2 hts (gi_V wm_13 wm_14 wm_15 wm_6 wm_16) rfl rfl rfl hdV_X4_tableOf ⟨Nat.le_of_ble_eq_true rfl, Nat.le_of_ble_eq_true rfl⟩) hK hP hD 0 rfl rfl rfl hl.1 (Nat.le_of_ble_eq_true rfl) dX4_takes_60 ⟨by show _ ≤ 0; omega, by show _ ≤ 0; omega⟩) hS hD hA (fun H locs hP hS => ?_)
      refine lv_ladd hx hb dX4_takes_63 ?_
      obtain rfl := Option.some.inj hf
      exact grRl hx hb hr hlocks hP hK hD hS dX4_takes_64 (by omega) (by omega)
    · have hf := (if_pos c4).symm.trans hf
      refine lv_aload_n hx hb dX4_takes_30 rfl (lv_at hl 0 rfl) ?_
      refine va_get (D := G) (ci := 4) (v := .ref (A 4)) (C := RX4) (T := TX4) (N := 32) hx hb hts (fun w h => .tail _ (wl_X4 w h)) hown hK hP 0 rfl rfl 11 (by decide) (hts _ (.tail _ wm_17)) (fun _ h9 => h9) rfl dX4_takes_31 ?_
      refine lv_iload_n hx hb dX4_takes_34 rfl (lv_at hl 1 rfl) ?_
      obtain ⟨hg7, hf⟩ := of_gd hf
      refine va_iald (f := (Ms.asi z)) (n := (Ms.nsi z)) hx hb hK hP 4 0 rfl rfl (inb_in hg7) dX4_takes_35 ?_
      refine lv_bipush (v := 7) hx hb dX4_takes_36 (by decide) ?_
      refine lv_iadd hx hb dX4_takes_38 ?_
      refine lv_bipush (v := 8) hx hb dX4_takes_39 (by decide) ?_
      obtain ⟨hg8, hf⟩ := of_gd hf
      refine lv_idiv hx hb dX4_takes_41 (nzb_ne hg8) ?_
      refine lv_i2l hx hb dX4_takes_42 rfl ?_
      refine lv_lconst (v := 1) hx hb dX4_takes_43 (by decide) ?_
      refine lv_ladd hx hb dX4_takes_44 ?_
      refine lv_goto (tgt := 64) hx hb dX4_takes_45 (by decide) ?_
      obtain rfl := Option.some.inj hf
      exact grRl hx hb hr hlocks hP hK hD hS dX4_takes_64 (by omega) (by omega)
  · have hf := (if_pos c2).symm.trans hf
    refine lv_aload_n hx hb dX4_takes_10 rfl (lv_at hl 0 rfl) ?_
    refine va_get (D := G) (ci := 4) (v := .ref (A 4)) (C := RX4) (T := TX4) (N := 32) hx hb hts (fun w h => .tail _ (wl_X4 w h)) hown hK hP 0 rfl rfl 11 (by decide) (hts _ (.tail _ wm_17)) (fun _ h9 => h9) rfl dX4_takes_11 ?_
    refine lv_iload_n hx hb dX4_takes_14 rfl (lv_at hl 1 rfl) ?_
    obtain ⟨hg9, hf⟩ := of_gd hf
    refine va_iald (f := (Ms.asi z)) (n := (Ms.nsi z)) hx hb hK hP 4 0 rfl rfl (inb_in hg9) dX4_takes_15 ?_
    refine lv_i2l hx hb dX4_takes_16 rfl ?_
    refine lv_lconst (v := 1) hx hb dX4_takes_17 (by decide) ?_
    refine lv_ladd hx hb dX4_takes_18 ?_
    obtain rfl := Option.some.inj hf
    exact grRl hx hb hr hlocks hP hK hD hS dX4_takes_19 (by omega) (by omega)
set_option maxHeartbeats 4000000 in
set_option maxRecDepth 100000 in
theorem c_md_reach (l : Launch) (G : va_G) (cI cL cZ cB : ClassId) (q : Nat) (A : Nat → Nat) (z : Ms) (sz : Nat) (p0 : Int32) (O0 : Ms × Int32) (hf : md_reach z p0 = some O0) : Met l yX4_reach vX4_reach { frames := 0, cells := 0, slots := 0, locals := 0 } (gPc G vwCl (mt cI cL cZ cB) [.ref q, .int p0] (mw cI cL cZ cB q A z) sz) (qWi G vwCl (mt cI cL cZ cB) (mw cI cL cZ cB q A z) sz (mw cI cL cZ cB q) O0) 0 0 (va_A (mw cI cL cZ cB q A z) sz) := by
  refine gMet (by decide) rfl (Nat.le_of_ble_eq_true rfl) ?_
  intro p e s m below meth c ls C hK hP hD hsz hl
  subst hsz
  obtain ⟨hx, hb, hr, hml, hown, hts, hlocks⟩ := id C
  have FX : CallFix p m c cX4_reach 2 s _ vX4_reach RX4 := ⟨hx, hb, hml, hown, hts⟩
  have hA : ∀ q9 : Nat, s.heap.size ≤ q9 → va_A (mw cI cL cZ cB q A z) s.heap.size q9 := fun q9 h => Or.inr h
  have hS : va_S (va_A (mw cI cL cZ cB q A z) s.heap.size) s.heap s.heap [] := va_S.rf
  have hl : lv_has ls 2 [(0, .ref q), (1, .int p0)] := hl
  unfold md_reach at hf
  refine lv_iload_n hx hb dX4_reach_0 rfl (lv_at hl 1 rfl) ?_
  refine lv_if_le (tgt := 13) hx hb dX4_reach_1 (by decide) (fun c1 => ?_) (fun c1 => ?_)
  · have hf := (if_pos c1).symm.trans hf
    refine lv_iconst (v := 0) hx hb dX4_reach_13 (by decide) ?_
    obtain rfl := Option.some.inj hf
    exact grWz (by decide) hx hb hr hlocks hP hK hD hS dX4_reach_14 (by omega) (by omega)
  · have hf := (if_neg c1).symm.trans hf
    refine lv_aload_n hx hb dX4_reach_4 rfl (lv_at hl 0 rfl) ?_
    refine va_get (D := G) (ci := 4) (v := .ref (A 14)) (C := RX4) (T := TX4) (N := 32) hx hb hts (fun w h => .tail _ (wl_X4 w h)) hown hK hP 0 rfl rfl 21 (by decide) (hts _ (.tail _ wm_18)) (fun _ h9 => h9) rfl dX4_reach_5 ?_
    refine lv_iload_n hx hb dX4_reach_8 rfl (lv_at hl 1 rfl) ?_
    obtain ⟨hg2, hf⟩ := of_gd hf
    refine va_zald (f := (Ms.are z)) (n := (Ms.nre z)) hx hb hK hP 14 2 rfl rfl (inb_in hg2) dX4_reach_9 ?_
    refine lv_if_eq (tgt := 15) hx hb dX4_reach_10 (by decide) (fun c3 => ?_) (fun c3 => ?_)
    · have hf := (if_pos c3).symm.trans hf
      refine lv_aload_n hx hb dX4_reach_15 rfl (lv_at hl 0 rfl) ?_
      refine va_get (D := G) (ci := 4) (v := .ref (A 14)) (C := RX4) (T := TX4) (N := 32) hx hb hts (fun w h => .tail _ (wl_X4 w h)) hown hK hP 0 rfl rfl 21 (by decide) (hts _ (.tail _ wm_18)) (fun _ h9 => h9) rfl dX4_reach_16 ?_
      refine lv_iload_n hx hb dX4_reach_19 rfl (lv_at hl 1 rfl) ?_
      refine lv_iconst (v := 1) hx hb dX4_reach_20 (by decide) ?_
      obtain ⟨hg4, hf⟩ := of_gd hf
      refine va_zast (f := (Ms.are z)) (n := (Ms.nre z)) hx hb hK hP hD hS 14 2 rfl rfl (inb_in hg4) dX4_reach_21 (fun H locs hP hD hS => ?_)
      have hP : va_P G vwCl (mw cI cL cZ cB q A (Ms.wre z (upd (Ms.are z) (p0.toNatClampNeg) (vp_nar .boolean 1)))) H := hP
      have hD : va_D _ (mw cI cL cZ cB q A (Ms.wre z (upd (Ms.are z) (p0.toNatClampNeg) (vp_nar .boolean 1)))) := hD
      refine lv_iconst (v := 1) hx hb dX4_reach_22 (by decide) ?_
      obtain rfl := Option.some.inj hf
      exact grWz (by decide) hx hb hr hlocks hP hK hD hS dX4_reach_23 (by omega) (by omega)
    · have hf := (if_neg c3).symm.trans hf
      refine lv_iconst (v := 0) hx hb dX4_reach_13 (by decide) ?_
      obtain rfl := Option.some.inj hf
      exact grWz (by decide) hx hb hr hlocks hP hK hD hS dX4_reach_14 (by omega) (by omega)
def At_md_findReached_j209 (l : Launch) (G : va_G) (cI cL cZ cB : ClassId) (q : Nat) (w : va_W) (p : Program) (e : Env) (s : State) (m : MethodId) (args : Array Value) (below : List Frame) (meth : Method) (c : Code) (O0 : Ms × Unit) (mcT msT : Nat) (F : Int32 → Int32 → Int32 → Ms → Option (Ms × Unit)) : Prop := ∀ (A : Nat → Nat) (z : Ms) (x2 : Int32) (x3 : Int32) (x4 : Int32) (H : Heap) (locs : List Loc) (ls : Array Slot) (cells slots : Nat), va_P G vwCl (mw cI cL cZ cB q A z) H → va_D (va_A w s.heap.size) (mw cI cL cZ cB q A z) → va_S (va_A w s.heap.size) s.heap H locs → lv_has ls 5 [(0, .ref q), (2, .int x2), (3, .int x3), (4, .int x4)] → F x2 x3 x4 z = some O0 → cells + 0 ≤ mcT → slots + 0 ≤ msT → W p l e { frames := 1, cells := mcT, slots := msT, locals := 21 } s m args below meth c H locs cells slots (MQ below (qWv G vwCl (mt cI cL cZ cB) w s.heap.size (mw cI cL cZ cB q) O0) args s mcT msT (va_A w s.heap.size)) (F0 m 209 ls [])
def At_md_findReached_l159 (l : Launch) (G : va_G) (cI cL cZ cB : ClassId) (q : Nat) (w : va_W) (p : Program) (e : Env) (s : State) (m : MethodId) (args : Array Value) (below : List Frame) (meth : Method) (c : Code) (O0 : Ms × Unit) (mcT msT : Nat) (F : Int32 → Int32 → Int32 → Int32 → Ms → Option (Ms × Unit)) : Prop := ∀ (A : Nat → Nat) (z : Ms) (x1 : Int32) (x2 : Int32) (x3 : Int32) (x4 : Int32) (H : Heap) (locs : List Loc) (ls : Array Slot) (cells slots : Nat), va_P G vwCl (mw cI cL cZ cB q A z) H → va_D (va_A w s.heap.size) (mw cI cL cZ cB q A z) → va_S (va_A w s.heap.size) s.heap H locs → lv_has ls 5 [(0, .ref q), (1, .int x1), (2, .int x2), (3, .int x3), (4, .int x4)] → F x1 x2 x3 x4 z = some O0 → cells + 0 ≤ mcT → slots + 0 ≤ msT → W p l e { frames := 1, cells := mcT, slots := msT, locals := 21 } s m args below meth c H locs cells slots (MQ below (qWv G vwCl (mt cI cL cZ cB) w s.heap.size (mw cI cL cZ cB q) O0) args s mcT msT (va_A w s.heap.size)) (F0 m 159 ls [])
def At_md_findReached_l141 (l : Launch) (G : va_G) (cI cL cZ cB : ClassId) (q : Nat) (w : va_W) (p : Program) (e : Env) (s : State) (m : MethodId) (args : Array Value) (below : List Frame) (meth : Method) (c : Code) (O0 : Ms × Unit) (mcT msT : Nat) (F : Int32 → Int32 → Ms → Option (Ms × Unit)) : Prop := ∀ (A : Nat → Nat) (z : Ms) (x1 : Int32) (x2 : Int32) (H : Heap) (locs : List Loc) (ls : Array Slot) (cells slots : Nat), va_P G vwCl (mw cI cL cZ cB q A z) H → va_D (va_A w s.heap.size) (mw cI cL cZ cB q A z) → va_S (va_A w s.heap.size) s.heap H locs → lv_has ls 5 [(0, .ref q), (1, .int x1), (2, .int x2)] → F x1 x2 z = some O0 → cells + 0 ≤ mcT → slots + 0 ≤ msT → W p l e { frames := 1, cells := mcT, slots := msT, locals := 21 } s m args below meth c H locs cells slots (MQ below (qWv G vwCl (mt cI cL cZ cB) w s.heap.size (mw cI cL cZ cB q) O0) args s mcT msT (va_A w s.heap.size)) (F0 m 141 ls [])
def At_md_findReached_j121 (l : Launch) (G : va_G) (cI cL cZ cB : ClassId) (q : Nat) (w : va_W) (p : Program) (e : Env) (s : State) (m : MethodId) (args : Array Value) (below : List Frame) (meth : Method) (c : Code) (O0 : Ms × Unit) (mcT msT : Nat) (F : Int32 → Int32 → Ms → Option (Ms × Unit)) : Prop := ∀ (A : Nat → Nat) (z : Ms) (x2 : Int32) (x3 : Int32) (H : Heap) (locs : List Loc) (ls : Array Slot) (cells slots : Nat), va_P G vwCl (mw cI cL cZ cB q A z) H → va_D (va_A w s.heap.size) (mw cI cL cZ cB q A z) → va_S (va_A w s.heap.size) s.heap H locs → lv_has ls 5 [(0, .ref q), (2, .int x2), (3, .int x3)] → F x2 x3 z = some O0 → cells + 0 ≤ mcT → slots + 0 ≤ msT → W p l e { frames := 1, cells := mcT, slots := msT, locals := 21 } s m args below meth c H locs cells slots (MQ below (qWv G vwCl (mt cI cL cZ cB) w s.heap.size (mw cI cL cZ cB q) O0) args s mcT msT (va_A w s.heap.size)) (F0 m 121 ls [])
def At_md_findReached_l68 (l : Launch) (G : va_G) (cI cL cZ cB : ClassId) (q : Nat) (w : va_W) (p : Program) (e : Env) (s : State) (m : MethodId) (args : Array Value) (below : List Frame) (meth : Method) (c : Code) (O0 : Ms × Unit) (mcT msT : Nat) (F : Int32 → Int32 → Int32 → Ms → Option (Ms × Unit)) : Prop := ∀ (A : Nat → Nat) (z : Ms) (x1 : Int32) (x2 : Int32) (x3 : Int32) (H : Heap) (locs : List Loc) (ls : Array Slot) (cells slots : Nat), va_P G vwCl (mw cI cL cZ cB q A z) H → va_D (va_A w s.heap.size) (mw cI cL cZ cB q A z) → va_S (va_A w s.heap.size) s.heap H locs → lv_has ls 5 [(0, .ref q), (1, .int x1), (2, .int x2), (3, .int x3)] → F x1 x2 x3 z = some O0 → cells + 0 ≤ mcT → slots + 0 ≤ msT → W p l e { frames := 1, cells := mcT, slots := msT, locals := 21 } s m args below meth c H locs cells slots (MQ below (qWv G vwCl (mt cI cL cZ cB) w s.heap.size (mw cI cL cZ cB q) O0) args s mcT msT (va_A w s.heap.size)) (F0 m 68 ls [])
def At_md_findReached_l58 (l : Launch) (G : va_G) (cI cL cZ cB : ClassId) (q : Nat) (w : va_W) (p : Program) (e : Env) (s : State) (m : MethodId) (args : Array Value) (below : List Frame) (meth : Method) (c : Code) (O0 : Ms × Unit) (mcT msT : Nat) (F : Int32 → Int32 → Ms → Option (Ms × Unit)) : Prop := ∀ (A : Nat → Nat) (z : Ms) (x1 : Int32) (x2 : Int32) (H : Heap) (locs : List Loc) (ls : Array Slot) (cells slots : Nat), va_P G vwCl (mw cI cL cZ cB q A z) H → va_D (va_A w s.heap.size) (mw cI cL cZ cB q A z) → va_S (va_A w s.heap.size) s.heap H locs → lv_has ls 5 [(0, .ref q), (1, .int x1), (2, .int x2)] → F x1 x2 z = some O0 → cells + 0 ≤ mcT → slots + 0 ≤ msT → W p l e { frames := 1, cells := mcT, slots := msT, locals := 21 } s m args below meth c H locs cells slots (MQ below (qWv G vwCl (mt cI cL cZ cB) w s.heap.size (mw cI cL cZ cB q) O0) args s mcT msT (va_A w s.heap.size)) (F0 m 58 ls [])
def At_md_findReached_l50 (l : Launch) (G : va_G) (cI cL cZ cB : ClassId) (q : Nat) (w : va_W) (p : Program) (e : Env) (s : State) (m : MethodId) (args : Array Value) (below : List Frame) (meth : Method) (c : Code) (O0 : Ms × Unit) (mcT msT : Nat) (F : Int32 → Ms → Option (Ms × Unit)) : Prop := ∀ (A : Nat → Nat) (z : Ms) (x1 : Int32) (H : Heap) (locs : List Loc) (ls : Array Slot) (cells slots : Nat), va_P G vwCl (mw cI cL cZ cB q A z) H → va_D (va_A w s.heap.size) (mw cI cL cZ cB q A z) → va_S (va_A w s.heap.size) s.heap H locs → lv_has ls 5 [(0, .ref q), (1, .int x1)] → F x1 z = some O0 → cells + 0 ≤ mcT → slots + 0 ≤ msT → W p l e { frames := 1, cells := mcT, slots := msT, locals := 21 } s m args below meth c H locs cells slots (MQ below (qWv G vwCl (mt cI cL cZ cB) w s.heap.size (mw cI cL cZ cB q) O0) args s mcT msT (va_A w s.heap.size)) (F0 m 50 ls [])
def At_md_findReached_l25 (l : Launch) (G : va_G) (cI cL cZ cB : ClassId) (q : Nat) (w : va_W) (p : Program) (e : Env) (s : State) (m : MethodId) (args : Array Value) (below : List Frame) (meth : Method) (c : Code) (O0 : Ms × Unit) (mcT msT : Nat) (F : Int32 → Ms → Option (Ms × Unit)) : Prop := ∀ (A : Nat → Nat) (z : Ms) (x1 : Int32) (H : Heap) (locs : List Loc) (ls : Array Slot) (cells slots : Nat), va_P G vwCl (mw cI cL cZ cB q A z) H → va_D (va_A w s.heap.size) (mw cI cL cZ cB q A z) → va_S (va_A w s.heap.size) s.heap H locs → lv_has ls 5 [(0, .ref q), (1, .int x1)] → F x1 z = some O0 → cells + 0 ≤ mcT → slots + 0 ≤ msT → W p l e { frames := 1, cells := mcT, slots := msT, locals := 21 } s m args below meth c H locs cells slots (MQ below (qWv G vwCl (mt cI cL cZ cB) w s.heap.size (mw cI cL cZ cB q) O0) args s mcT msT (va_A w s.heap.size)) (F0 m 25 ls [])
def At_md_findReached_l2 (l : Launch) (G : va_G) (cI cL cZ cB : ClassId) (q : Nat) (w : va_W) (p : Program) (e : Env) (s : State) (m : MethodId) (args : Array Value) (below : List Frame) (meth : Method) (c : Code) (O0 : Ms × Unit) (mcT msT : Nat) (F : Int32 → Ms → Option (Ms × Unit)) : Prop := ∀ (A : Nat → Nat) (z : Ms) (x1 : Int32) (H : Heap) (locs : List Loc) (ls : Array Slot) (cells slots : Nat), va_P G vwCl (mw cI cL cZ cB q A z) H → va_D (va_A w s.heap.size) (mw cI cL cZ cB q A z) → va_S (va_A w s.heap.size) s.heap H locs → lv_has ls 5 [(0, .ref q), (1, .int x1)] → F x1 z = some O0 → cells + 0 ≤ mcT → slots + 0 ≤ msT → W p l e { frames := 1, cells := mcT, slots := msT, locals := 21 } s m args below meth c H locs cells slots (MQ below (qWv G vwCl (mt cI cL cZ cB) w s.heap.size (mw cI cL cZ cB q) O0) args s mcT msT (va_A w s.heap.size)) (F0 m 2 ls [])
set_option maxHeartbeats 4000000 in
set_option maxRecDepth 100000 in
theorem L_md_findReached_j209 (l : Launch) (G : va_G) (cI cL cZ cB : ClassId) (q : Nat) (w : va_W) (p : Program) (e : Env) (s : State) (m : MethodId) (args : Array Value) (below : List Frame) (meth : Method) (c : Code) (O0 : Ms × Unit) (mcT msT : Nat) (C : MC p s m args meth c cX4_findReached 5 (none) RX4 vX4_findReached) (hK : va_K G vwCl (mt cI cL cZ cB) s) (K50 : Int32 → Ms → Option (Ms × Unit)) (K141 : Int32 → Int32 → Ms → Option (Ms × Unit)) (K159 : Int32 → Int32 → Int32 → Int32 → Ms → Option (Ms × Unit)) (hK50 : At_md_findReached_l50 l G cI cL cZ cB q w p e s m args below meth c O0 mcT msT K50) (hK141 : At_md_findReached_l141 l G cI cL cZ cB q w p e s m args below meth c O0 mcT msT K141) (hK159 : At_md_findReached_l159 l G cI cL cZ cB q w p e s m args below meth c O0 mcT msT K159) : At_md_findReached_j209 l G cI cL cZ cB q w p e s m args below meth c O0 mcT msT (md_findReached_j209 K50 K141 K159 ) := by
  obtain ⟨hx, hb, hr, hml, hown, hts, hlocks⟩ := id C
  have FX : CallFix p m c cX4_findReached 5 s args vX4_findReached RX4 := ⟨hx, hb, hml, hown, hts⟩
  have hA : ∀ q9 : Nat, s.heap.size ≤ q9 → va_A w s.heap.size q9 := fun q9 h => Or.inr h
  intro A z x2 x3 x4 H locs ls cells slots hP hD hS hl hf hcc hss
  unfold md_findReached_j209 at hf
  refine lv_iconst (v := 1) hx hb dX4_findReached_209 (by decide) ?_
  refine lv_goto (tgt := 214) hx hb dX4_findReached_210 (by decide) ?_
  refine lv_istore_n (lv' := [(1, .int 1), (0, .ref q), (2, .int x2), (3, .int x3), (4, .int x4)]) hx hb dX4_findReached_214 rfl hl (by decide) rfl (fun ls hl => ?_)
  refine lv_iinc (v := (x4 + 1)) (lv' := [(4, .int (x4 + 1)), (1, .int 1), (0, .ref q), (2, .int x2), (3, .int x3)]) hx hb dX4_findReached_215 hl (k := 4) rfl rfl (by decide) rfl (fun ls hl => ?_)
  refine lv_goto (tgt := 159) hx hb dX4_findReached_218 (by decide) ?_
  exact hK159 _ _ _ _ _ _ _ _ _ _ _ hP hD hS (lv_sub hl [2, 1, 3, 4, 0] rfl) hf (by omega) (by omega)
set_option maxHeartbeats 4000000 in
set_option maxRecDepth 100000 in
theorem L_md_findReached_l159 (l : Launch) (G : va_G) (cI cL cZ cB : ClassId) (q : Nat) (w : va_W) (p : Program) (e : Env) (s : State) (m : MethodId) (args : Array Value) (below : List Frame) (meth : Method) (c : Code) (O0 : Ms × Unit) (mcT msT : Nat) (C : MC p s m args meth c cX4_findReached 5 (none) RX4 vX4_findReached) (hK : va_K G vwCl (mt cI cL cZ cB) s) (K50 : Int32 → Ms → Option (Ms × Unit)) (K141 : Int32 → Int32 → Ms → Option (Ms × Unit)) (hK50 : At_md_findReached_l50 l G cI cL cZ cB q w p e s m args below meth c O0 mcT msT K50) (hK141 : At_md_findReached_l141 l G cI cL cZ cB q w p e s m args below meth c O0 mcT msT K141) : ∀ n : Nat, At_md_findReached_l159 l G cI cL cZ cB q w p e s m args below meth c O0 mcT msT (md_findReached_l159 K50 K141 n) := by
  obtain ⟨hx, hb, hr, hml, hown, hts, hlocks⟩ := id C
  have FX : CallFix p m c cX4_findReached 5 s args vX4_findReached RX4 := ⟨hx, hb, hml, hown, hts⟩
  have hA : ∀ q9 : Nat, s.heap.size ≤ q9 → va_A w s.heap.size q9 := fun q9 h => Or.inr h
  intro n
  induction n with
  | zero =>
    intro A z x1 x2 x3 x4 H locs ls cells slots hP hD hS hl hf hcc hss
    exact nomatch (show none = some _ from hf)
  | succ n ih =>
    intro A z x1 x2 x3 x4 H locs ls cells slots hP hD hS hl hf hcc hss
    rw [md_findReached_l159] at hf
    refine lv_iload hx hb dX4_findReached_159 (lv_at hl 4 rfl) ?_
    refine lv_aload_n hx hb dX4_findReached_161 rfl (lv_at hl 0 rfl) ?_
    refine va_get (D := G) (ci := 4) (v := .ref (A 6)) (C := RX4) (T := TX4) (N := 32) hx hb hts (fun w h => .tail _ (wl_X4 w h)) hown hK hP 0 rfl rfl 13 (by decide) (hts _ (.tail _ wm_9)) (fun _ h9 => h9) rfl dX4_findReached_162 ?_
    refine lv_iload_n hx hb dX4_findReached_165 rfl (lv_at hl 3 rfl) ?_
    obtain ⟨hg21, hf⟩ := of_gd hf
    refine va_iald (f := (Ms.ake z)) (n := (Ms.nke z)) hx hb hK hP 6 0 rfl rfl (inb_in hg21) dX4_findReached_166 ?_
    refine lv_aload_n hx hb dX4_findReached_167 rfl (lv_at hl 0 rfl) ?_
    refine va_get (D := G) (ci := 4) (v := .ref (A 7)) (C := RX4) (T := TX4) (N := 32) hx hb hts (fun w h => .tail _ (wl_X4 w h)) hown hK hP 0 rfl rfl 14 (by decide) (hts _ (.tail _ wm_10)) (fun _ h9 => h9) rfl dX4_findReached_168 ?_
    refine lv_iload_n hx hb dX4_findReached_171 rfl (lv_at hl 3 rfl) ?_
    obtain ⟨hg22, hf⟩ := of_gd hf
    refine va_iald (f := (Ms.ava z)) (n := (Ms.nva z)) hx hb hK hP 7 0 rfl rfl (inb_in hg22) dX4_findReached_172 ?_
    refine lv_iadd hx hb dX4_findReached_173 ?_
    refine lv_icmp_ge (tgt := 221) hx hb dX4_findReached_174 (by decide) (fun c23 => ?_) (fun c23 => ?_)
    · have hf := (if_pos c23).symm.trans hf
      refine lv_iinc (v := (x2 + 1)) (lv' := [(2, .int (x2 + 1)), (0, .ref q), (1, .int x1), (3, .int x3), (4, .int x4)]) hx hb dX4_findReached_221 hl (k := 2) rfl rfl (by decide) rfl (fun ls hl => ?_)
      refine lv_goto (tgt := 141) hx hb dX4_findReached_224 (by decide) ?_
      exact hK141 _ _ _ _ _ _ _ _ _ hP hD hS (lv_sub hl [1, 2, 0] rfl) hf (by omega) (by omega)
    · have hf := (if_neg c23).symm.trans hf
      refine lv_aload_n hx hb dX4_findReached_177 rfl (lv_at hl 0 rfl) ?_
      refine va_get (D := G) (ci := 4) (v := .ref (A 14)) (C := RX4) (T := TX4) (N := 32) hx hb hts (fun w h => .tail _ (wl_X4 w h)) hown hK hP 0 rfl rfl 21 (by decide) (hts _ (.tail _ wm_18)) (fun _ h9 => h9) rfl dX4_findReached_178 ?_
      refine lv_iload_n hx hb dX4_findReached_181 rfl (lv_at hl 3 rfl) ?_
      obtain ⟨hg24, hf⟩ := of_gd hf
      refine va_zald (f := (Ms.are z)) (n := (Ms.nre z)) hx hb hK hP 14 2 rfl rfl (inb_in hg24) dX4_findReached_182 ?_
      refine lv_if_eq (tgt := 221) hx hb dX4_findReached_183 (by decide) (fun c25 => ?_) (fun c25 => ?_)
      · have hf := (if_pos c25).symm.trans hf
        refine lv_iinc (v := (x2 + 1)) (lv' := [(2, .int (x2 + 1)), (0, .ref q), (1, .int x1), (3, .int x3), (4, .int x4)]) hx hb dX4_findReached_221 hl (k := 2) rfl rfl (by decide) rfl (fun ls hl => ?_)
        refine lv_goto (tgt := 141) hx hb dX4_findReached_224 (by decide) ?_
        exact hK141 _ _ _ _ _ _ _ _ _ hP hD hS (lv_sub hl [1, 2, 0] rfl) hf (by omega) (by omega)
      · have hf := (if_neg c25).symm.trans hf
        refine lv_aload_n hx hb dX4_findReached_186 rfl (lv_at hl 0 rfl) ?_
        refine lv_aload_n hx hb dX4_findReached_187 rfl (lv_at hl 0 rfl) ?_
        refine va_get (D := G) (ci := 4) (v := .ref (A 20)) (C := RX4) (T := TX4) (N := 32) hx hb hts (fun w h => .tail _ (wl_X4 w h)) hown hK hP 0 rfl rfl 29 (by decide) (hts _ (.tail _ wm_28)) (fun _ h9 => h9) rfl dX4_findReached_188 ?_
        refine lv_bipush (v := 8) hx hb dX4_findReached_191 (by decide) ?_
        refine lv_iload_n hx hb dX4_findReached_193 rfl (lv_at hl 2 rfl) ?_
        refine lv_imul hx hb dX4_findReached_194 ?_
        refine lv_iload hx hb dX4_findReached_195 (lv_at hl 4 rfl) ?_
        refine lv_iadd hx hb dX4_findReached_197 ?_
        obtain ⟨hg26, hf⟩ := of_gd hf
        refine va_iald (f := (Ms.aet z)) (n := (Ms.net z)) hx hb hK hP 20 0 rfl rfl (inb_in hg26) dX4_findReached_198 ?_
        obtain ⟨z27, r27, ho27, hf⟩ := of_bw hf
        refine gcWi (gV FX [.int ((Ms.aet z) ((8 * x2) + x4).toNatClampNeg)] (c_md_reach l G cI cL cZ cB q A z _ ((Ms.aet z) ((8 * x2) + x4).toNatClampNeg) _ ho27) (cwV 1 hts (gi_V wm_20 wm_21 wm_22 wm_6 wm_23) rfl rfl rfl hdV_X4_reach ⟨Nat.le_of_ble_eq_true rfl, Nat.le_of_ble_eq_true rfl⟩) hK hP hD 0 rfl rfl rfl hl.1 (Nat.le_of_ble_eq_true rfl) dX4_findReached_199 ⟨by show _ ≤ mcT; omega, by show _ ≤ msT; omega⟩) hS hD hA (fun A H locs hP hD hS => ?_)
        refine lv_if_ne (tgt := 209) hx hb dX4_findReached_202 (by decide) (fun c28 => ?_) (fun c28 => ?_)
        · have hf := (if_neg c28).symm.trans hf
          exact L_md_findReached_j209 _ _ _ _ _ _ _ _ _ _ _ _ _ _ _ _ _ _ _ C hK _ _ _ hK50 hK141 ih _ _ _ _ _ _ _ _ _ _ hP hD hS (lv_sub hl [0, 2, 3, 4] rfl) hf (by omega) (by omega)
        · have hf := (if_pos c28).symm.trans hf
          refine lv_iload_n hx hb dX4_findReached_205 rfl (lv_at hl 1 rfl) ?_
          refine lv_if_eq (tgt := 213) hx hb dX4_findReached_206 (by decide) (fun c29 => ?_) (fun c29 => ?_)
          · have hf := (if_pos c29).symm.trans hf
            refine lv_iconst (v := 0) hx hb dX4_findReached_213 (by decide) ?_
            refine lv_istore_n (lv' := [(1, .int 0), (0, .ref q), (2, .int x2), (3, .int x3), (4, .int x4)]) hx hb dX4_findReached_214 rfl hl (by decide) rfl (fun ls hl => ?_)
            refine lv_iinc (v := (x4 + 1)) (lv' := [(4, .int (x4 + 1)), (1, .int 0), (0, .ref q), (2, .int x2), (3, .int x3)]) hx hb dX4_findReached_215 hl (k := 4) rfl rfl (by decide) rfl (fun ls hl => ?_)
            refine lv_goto (tgt := 159) hx hb dX4_findReached_218 (by decide) ?_
            exact ih _ _ _ _ _ _ _ _ _ _ _ hP hD hS (lv_sub hl [2, 1, 3, 4, 0] rfl) hf (by omega) (by omega)
          · have hf := (if_neg c29).symm.trans hf
            exact L_md_findReached_j209 _ _ _ _ _ _ _ _ _ _ _ _ _ _ _ _ _ _ _ C hK _ _ _ hK50 hK141 ih _ _ _ _ _ _ _ _ _ _ hP hD hS (lv_sub hl [0, 2, 3, 4] rfl) hf (by omega) (by omega)
set_option maxHeartbeats 4000000 in
set_option maxRecDepth 100000 in
theorem L_md_findReached_l141 (l : Launch) (G : va_G) (cI cL cZ cB : ClassId) (q : Nat) (w : va_W) (p : Program) (e : Env) (s : State) (m : MethodId) (args : Array Value) (below : List Frame) (meth : Method) (c : Code) (O0 : Ms × Unit) (mcT msT : Nat) (C : MC p s m args meth c cX4_findReached 5 (none) RX4 vX4_findReached) (hK : va_K G vwCl (mt cI cL cZ cB) s) (K50 : Int32 → Ms → Option (Ms × Unit)) (hK50 : At_md_findReached_l50 l G cI cL cZ cB q w p e s m args below meth c O0 mcT msT K50) : ∀ n : Nat, At_md_findReached_l141 l G cI cL cZ cB q w p e s m args below meth c O0 mcT msT (md_findReached_l141 K50 n) := by
  obtain ⟨hx, hb, hr, hml, hown, hts, hlocks⟩ := id C
  have FX : CallFix p m c cX4_findReached 5 s args vX4_findReached RX4 := ⟨hx, hb, hml, hown, hts⟩
  have hA : ∀ q9 : Nat, s.heap.size ≤ q9 → va_A w s.heap.size q9 := fun q9 h => Or.inr h
  intro n
  induction n with
  | zero =>
    intro A z x1 x2 H locs ls cells slots hP hD hS hl hf hcc hss
    exact nomatch (show none = some _ from hf)
  | succ n ih =>
    intro A z x1 x2 H locs ls cells slots hP hD hS hl hf hcc hss
    rw [md_findReached_l141] at hf
    refine lv_iload_n hx hb dX4_findReached_141 rfl (lv_at hl 2 rfl) ?_
    refine lv_aload_n hx hb dX4_findReached_142 rfl (lv_at hl 0 rfl) ?_
    refine va_get (D := G) (ci := 4) (v := .int (Ms.ent z)) (C := RX4) (T := TX4) (N := 32) hx hb hts (fun w h => .tail _ (wl_X4 w h)) hown hK hP 0 rfl rfl 31 (by decide) (hts _ (.tail _ wm_24)) (fun _ h9 => h9) rfl dX4_findReached_143 ?_
    refine lv_icmp_ge (tgt := 227) hx hb dX4_findReached_146 (by decide) (fun c8 => ?_) (fun c8 => ?_)
    · have hf := (if_pos c8).symm.trans hf
      refine lv_goto (tgt := 50) hx hb dX4_findReached_227 (by decide) ?_
      exact hK50 _ _ _ _ _ _ _ _ hP hD hS (lv_sub hl [0, 1] rfl) hf (by omega) (by omega)
    · have hf := (if_neg c8).symm.trans hf
      refine lv_aload_n hx hb dX4_findReached_149 rfl (lv_at hl 0 rfl) ?_
      refine va_get (D := G) (ci := 4) (v := .ref (A 18)) (C := RX4) (T := TX4) (N := 32) hx hb hts (fun w h => .tail _ (wl_X4 w h)) hown hK hP 0 rfl rfl 27 (by decide) (hts _ (.tail _ wm_25)) (fun _ h9 => h9) rfl dX4_findReached_150 ?_
      refine lv_iload_n hx hb dX4_findReached_153 rfl (lv_at hl 2 rfl) ?_
      obtain ⟨hg9, hf⟩ := of_gd hf
      refine va_iald (f := (Ms.aem z)) (n := (Ms.nem z)) hx hb hK hP 18 0 rfl rfl (inb_in hg9) dX4_findReached_154 ?_
      refine lv_istore_n (lv' := [(3, .int ((Ms.aem z) x2.toNatClampNeg)), (0, .ref q), (1, .int x1), (2, .int x2)]) hx hb dX4_findReached_155 rfl hl (by decide) rfl (fun ls hl => ?_)
      refine lv_iconst (v := 0) hx hb dX4_findReached_156 (by decide) ?_
      refine lv_istore (lv' := [(4, .int 0), (3, .int ((Ms.aem z) x2.toNatClampNeg)), (0, .ref q), (1, .int x1), (2, .int x2)]) hx hb dX4_findReached_157 hl (by decide) rfl (fun ls hl => ?_)
      exact L_md_findReached_l159 _ _ _ _ _ _ _ _ _ _ _ _ _ _ _ _ _ _ _ C hK _ _ hK50 ih FU _ _ _ _ _ _ _ _ _ _ _ hP hD hS (lv_sub hl [2, 3, 4, 1, 0] rfl) hf (by omega) (by omega)
set_option maxHeartbeats 4000000 in
set_option maxRecDepth 100000 in
theorem L_md_findReached_j121 (l : Launch) (G : va_G) (cI cL cZ cB : ClassId) (q : Nat) (w : va_W) (p : Program) (e : Env) (s : State) (m : MethodId) (args : Array Value) (below : List Frame) (meth : Method) (c : Code) (O0 : Ms × Unit) (mcT msT : Nat) (C : MC p s m args meth c cX4_findReached 5 (none) RX4 vX4_findReached) (hK : va_K G vwCl (mt cI cL cZ cB) s) (K50 : Int32 → Ms → Option (Ms × Unit)) (K58 : Int32 → Int32 → Ms → Option (Ms × Unit)) (K68 : Int32 → Int32 → Int32 → Ms → Option (Ms × Unit)) (hK50 : At_md_findReached_l50 l G cI cL cZ cB q w p e s m args below meth c O0 mcT msT K50) (hK58 : At_md_findReached_l58 l G cI cL cZ cB q w p e s m args below meth c O0 mcT msT K58) (hK68 : At_md_findReached_l68 l G cI cL cZ cB q w p e s m args below meth c O0 mcT msT K68) : At_md_findReached_j121 l G cI cL cZ cB q w p e s m args below meth c O0 mcT msT (md_findReached_j121 K50 K58 K68 ) := by
  obtain ⟨hx, hb, hr, hml, hown, hts, hlocks⟩ := id C
  have FX : CallFix p m c cX4_findReached 5 s args vX4_findReached RX4 := ⟨hx, hb, hml, hown, hts⟩
  have hA : ∀ q9 : Nat, s.heap.size ≤ q9 → va_A w s.heap.size q9 := fun q9 h => Or.inr h
  intro A z x2 x3 H locs ls cells slots hP hD hS hl hf hcc hss
  unfold md_findReached_j121 at hf
  refine lv_iconst (v := 1) hx hb dX4_findReached_121 (by decide) ?_
  refine lv_goto (tgt := 126) hx hb dX4_findReached_122 (by decide) ?_
  refine lv_istore_n (lv' := [(1, .int 1), (0, .ref q), (2, .int x2), (3, .int x3)]) hx hb dX4_findReached_126 rfl hl (by decide) rfl (fun ls hl => ?_)
  refine lv_iinc (v := (x3 + 1)) (lv' := [(3, .int (x3 + 1)), (1, .int 1), (0, .ref q), (2, .int x2)]) hx hb dX4_findReached_127 hl (k := 3) rfl rfl (by decide) rfl (fun ls hl => ?_)
  refine lv_goto (tgt := 68) hx hb dX4_findReached_130 (by decide) ?_
  exact hK68 _ _ _ _ _ _ _ _ _ _ hP hD hS (lv_sub hl [2, 1, 3, 0] rfl) hf (by omega) (by omega)
set_option maxHeartbeats 4000000 in
set_option maxRecDepth 100000 in
theorem L_md_findReached_l68 (l : Launch) (G : va_G) (cI cL cZ cB : ClassId) (q : Nat) (w : va_W) (p : Program) (e : Env) (s : State) (m : MethodId) (args : Array Value) (below : List Frame) (meth : Method) (c : Code) (O0 : Ms × Unit) (mcT msT : Nat) (C : MC p s m args meth c cX4_findReached 5 (none) RX4 vX4_findReached) (hK : va_K G vwCl (mt cI cL cZ cB) s) (K50 : Int32 → Ms → Option (Ms × Unit)) (K58 : Int32 → Int32 → Ms → Option (Ms × Unit)) (hK50 : At_md_findReached_l50 l G cI cL cZ cB q w p e s m args below meth c O0 mcT msT K50) (hK58 : At_md_findReached_l58 l G cI cL cZ cB q w p e s m args below meth c O0 mcT msT K58) : ∀ n : Nat, At_md_findReached_l68 l G cI cL cZ cB q w p e s m args below meth c O0 mcT msT (md_findReached_l68 K50 K58 n) := by
  obtain ⟨hx, hb, hr, hml, hown, hts, hlocks⟩ := id C
  have FX : CallFix p m c cX4_findReached 5 s args vX4_findReached RX4 := ⟨hx, hb, hml, hown, hts⟩
  have hA : ∀ q9 : Nat, s.heap.size ≤ q9 → va_A w s.heap.size q9 := fun q9 h => Or.inr h
  intro n
  induction n with
  | zero =>
    intro A z x1 x2 x3 H locs ls cells slots hP hD hS hl hf hcc hss
    exact nomatch (show none = some _ from hf)
  | succ n ih =>
    intro A z x1 x2 x3 H locs ls cells slots hP hD hS hl hf hcc hss
    rw [md_findReached_l68] at hf
    refine lv_iload_n hx hb dX4_findReached_68 rfl (lv_at hl 3 rfl) ?_
    refine lv_aload_n hx hb dX4_findReached_69 rfl (lv_at hl 0 rfl) ?_
    refine va_get (D := G) (ci := 4) (v := .ref (A 4)) (C := RX4) (T := TX4) (N := 32) hx hb hts (fun w h => .tail _ (wl_X4 w h)) hown hK hP 0 rfl rfl 11 (by decide) (hts _ (.tail _ wm_17)) (fun _ h9 => h9) rfl dX4_findReached_70 ?_
    refine lv_iload_n hx hb dX4_findReached_73 rfl (lv_at hl 2 rfl) ?_
    obtain ⟨hg10, hf⟩ := of_gd hf
    refine va_iald (f := (Ms.asi z)) (n := (Ms.nsi z)) hx hb hK hP 4 0 rfl rfl (inb_in hg10) dX4_findReached_74 ?_
    refine lv_icmp_ge (tgt := 133) hx hb dX4_findReached_75 (by decide) (fun c11 => ?_) (fun c11 => ?_)
    · have hf := (if_pos c11).symm.trans hf
      refine lv_iinc (v := (x2 + 1)) (lv' := [(2, .int (x2 + 1)), (0, .ref q), (1, .int x1), (3, .int x3)]) hx hb dX4_findReached_133 hl (k := 2) rfl rfl (by decide) rfl (fun ls hl => ?_)
      refine lv_goto (tgt := 58) hx hb dX4_findReached_136 (by decide) ?_
      exact hK58 _ _ _ _ _ _ _ _ _ hP hD hS (lv_sub hl [1, 2, 0] rfl) hf (by omega) (by omega)
    · have hf := (if_neg c11).symm.trans hf
      refine lv_aload_n hx hb dX4_findReached_78 rfl (lv_at hl 0 rfl) ?_
      refine va_get (D := G) (ci := 4) (v := .ref (A 14)) (C := RX4) (T := TX4) (N := 32) hx hb hts (fun w h => .tail _ (wl_X4 w h)) hown hK hP 0 rfl rfl 21 (by decide) (hts _ (.tail _ wm_18)) (fun _ h9 => h9) rfl dX4_findReached_79 ?_
      refine lv_iload_n hx hb dX4_findReached_82 rfl (lv_at hl 2 rfl) ?_
      obtain ⟨hg12, hf⟩ := of_gd hf
      refine va_zald (f := (Ms.are z)) (n := (Ms.nre z)) hx hb hK hP 14 2 rfl rfl (inb_in hg12) dX4_findReached_83 ?_
      refine lv_if_eq (tgt := 133) hx hb dX4_findReached_84 (by decide) (fun c13 => ?_) (fun c13 => ?_)
      · have hf := (if_pos c13).symm.trans hf
        refine lv_iinc (v := (x2 + 1)) (lv' := [(2, .int (x2 + 1)), (0, .ref q), (1, .int x1), (3, .int x3)]) hx hb dX4_findReached_133 hl (k := 2) rfl rfl (by decide) rfl (fun ls hl => ?_)
        refine lv_goto (tgt := 58) hx hb dX4_findReached_136 (by decide) ?_
        exact hK58 _ _ _ _ _ _ _ _ _ hP hD hS (lv_sub hl [1, 2, 0] rfl) hf (by omega) (by omega)
      · have hf := (if_neg c13).symm.trans hf
        refine lv_aload_n hx hb dX4_findReached_87 rfl (lv_at hl 0 rfl) ?_
        refine va_get (D := G) (ci := 4) (v := .ref (A 3)) (C := RX4) (T := TX4) (N := 32) hx hb hts (fun w h => .tail _ (wl_X4 w h)) hown hK hP 0 rfl rfl 10 (by decide) (hts _ (.tail _ wm_2)) (fun _ h9 => h9) rfl dX4_findReached_88 ?_
        refine lv_iload_n hx hb dX4_findReached_91 rfl (lv_at hl 2 rfl) ?_
        obtain ⟨hg14, hf⟩ := of_gd hf
        refine va_iald (f := (Ms.aso z)) (n := (Ms.nso z)) hx hb hK hP 3 0 rfl rfl (inb_in hg14) dX4_findReached_92 ?_
        refine lv_iconst (v := 2) hx hb dX4_findReached_93 (by decide) ?_
        refine lv_icmp_ne (tgt := 133) hx hb dX4_findReached_94 (by decide) (fun c15 => ?_) (fun c15 => ?_)
        · have hf := (if_neg c15).symm.trans hf
          refine lv_iinc (v := (x2 + 1)) (lv' := [(2, .int (x2 + 1)), (0, .ref q), (1, .int x1), (3, .int x3)]) hx hb dX4_findReached_133 hl (k := 2) rfl rfl (by decide) rfl (fun ls hl => ?_)
          refine lv_goto (tgt := 58) hx hb dX4_findReached_136 (by decide) ?_
          exact hK58 _ _ _ _ _ _ _ _ _ hP hD hS (lv_sub hl [1, 2, 0] rfl) hf (by omega) (by omega)
        · have hf := (if_pos c15).symm.trans hf
          refine lv_aload_n hx hb dX4_findReached_97 rfl (lv_at hl 0 rfl) ?_
          refine lv_aload_n hx hb dX4_findReached_98 rfl (lv_at hl 0 rfl) ?_
          refine va_get (D := G) (ci := 4) (v := .ref (A 15)) (C := RX4) (T := TX4) (N := 32) hx hb hts (fun w h => .tail _ (wl_X4 w h)) hown hK hP 0 rfl rfl 22 (by decide) (hts _ (.tail _ wm_26)) (fun _ h9 => h9) rfl dX4_findReached_99 ?_
          refine lv_aload_n hx hb dX4_findReached_102 rfl (lv_at hl 0 rfl) ?_
          refine va_get (D := G) (ci := 4) (v := .ref (A 5)) (C := RX4) (T := TX4) (N := 32) hx hb hts (fun w h => .tail _ (wl_X4 w h)) hown hK hP 0 rfl rfl 12 (by decide) (hts _ (.tail _ wm_27)) (fun _ h9 => h9) rfl dX4_findReached_103 ?_
          refine lv_iload_n hx hb dX4_findReached_106 rfl (lv_at hl 2 rfl) ?_
          obtain ⟨hg16, hf⟩ := of_gd hf
          refine va_iald (f := (Ms.asr z)) (n := (Ms.nsr z)) hx hb hK hP 5 0 rfl rfl (inb_in hg16) dX4_findReached_107 ?_
          refine lv_iload_n hx hb dX4_findReached_108 rfl (lv_at hl 3 rfl) ?_
          refine lv_iadd hx hb dX4_findReached_109 ?_
          obtain ⟨hg17, hf⟩ := of_gd hf
          refine va_iald (f := (Ms.awt z)) (n := (Ms.nwt z)) hx hb hK hP 15 0 rfl rfl (inb_in hg17) dX4_findReached_110 ?_
          obtain ⟨z18, r18, ho18, hf⟩ := of_bw hf
          refine gcWi (gV FX [.int ((Ms.awt z) (((Ms.asr z) x2.toNatClampNeg) + x3).toNatClampNeg)] (c_md_reach l G cI cL cZ cB q A z _ ((Ms.awt z) (((Ms.asr z) x2.toNatClampNeg) + x3).toNatClampNeg) _ ho18) (cwV 1 hts (gi_V wm_20 wm_21 wm_22 wm_6 wm_23) rfl rfl rfl hdV_X4_reach ⟨Nat.le_of_ble_eq_true rfl, Nat.le_of_ble_eq_true rfl⟩) hK hP hD 0 rfl rfl rfl hl.1 (Nat.le_of_ble_eq_true rfl) dX4_findReached_111 ⟨by show _ ≤ mcT; omega, by show _ ≤ msT; omega⟩) hS hD hA (fun A H locs hP hD hS => ?_)
          refine lv_if_ne (tgt := 121) hx hb dX4_findReached_114 (by decide) (fun c19 => ?_) (fun c19 => ?_)
          · have hf := (if_neg c19).symm.trans hf
            exact L_md_findReached_j121 _ _ _ _ _ _ _ _ _ _ _ _ _ _ _ _ _ _ _ C hK _ _ _ hK50 hK58 ih _ _ _ _ _ _ _ _ _ hP hD hS (lv_sub hl [0, 2, 3] rfl) hf (by omega) (by omega)
          · have hf := (if_pos c19).symm.trans hf
            refine lv_iload_n hx hb dX4_findReached_117 rfl (lv_at hl 1 rfl) ?_
            refine lv_if_eq (tgt := 125) hx hb dX4_findReached_118 (by decide) (fun c20 => ?_) (fun c20 => ?_)
            · have hf := (if_pos c20).symm.trans hf
              refine lv_iconst (v := 0) hx hb dX4_findReached_125 (by decide) ?_
              refine lv_istore_n (lv' := [(1, .int 0), (0, .ref q), (2, .int x2), (3, .int x3)]) hx hb dX4_findReached_126 rfl hl (by decide) rfl (fun ls hl => ?_)
              refine lv_iinc (v := (x3 + 1)) (lv' := [(3, .int (x3 + 1)), (1, .int 0), (0, .ref q), (2, .int x2)]) hx hb dX4_findReached_127 hl (k := 3) rfl rfl (by decide) rfl (fun ls hl => ?_)
              refine lv_goto (tgt := 68) hx hb dX4_findReached_130 (by decide) ?_
              exact ih _ _ _ _ _ _ _ _ _ _ hP hD hS (lv_sub hl [2, 1, 3, 0] rfl) hf (by omega) (by omega)
            · have hf := (if_neg c20).symm.trans hf
              exact L_md_findReached_j121 _ _ _ _ _ _ _ _ _ _ _ _ _ _ _ _ _ _ _ C hK _ _ _ hK50 hK58 ih _ _ _ _ _ _ _ _ _ hP hD hS (lv_sub hl [0, 2, 3] rfl) hf (by omega) (by omega)
set_option maxHeartbeats 4000000 in
set_option maxRecDepth 100000 in
theorem L_md_findReached_l58 (l : Launch) (G : va_G) (cI cL cZ cB : ClassId) (q : Nat) (w : va_W) (p : Program) (e : Env) (s : State) (m : MethodId) (args : Array Value) (below : List Frame) (meth : Method) (c : Code) (O0 : Ms × Unit) (mcT msT : Nat) (C : MC p s m args meth c cX4_findReached 5 (none) RX4 vX4_findReached) (hK : va_K G vwCl (mt cI cL cZ cB) s) (K50 : Int32 → Ms → Option (Ms × Unit)) (hK50 : At_md_findReached_l50 l G cI cL cZ cB q w p e s m args below meth c O0 mcT msT K50) : ∀ n : Nat, At_md_findReached_l58 l G cI cL cZ cB q w p e s m args below meth c O0 mcT msT (md_findReached_l58 K50 n) := by
  obtain ⟨hx, hb, hr, hml, hown, hts, hlocks⟩ := id C
  have FX : CallFix p m c cX4_findReached 5 s args vX4_findReached RX4 := ⟨hx, hb, hml, hown, hts⟩
  have hA : ∀ q9 : Nat, s.heap.size ≤ q9 → va_A w s.heap.size q9 := fun q9 h => Or.inr h
  intro n
  induction n with
  | zero =>
    intro A z x1 x2 H locs ls cells slots hP hD hS hl hf hcc hss
    exact nomatch (show none = some _ from hf)
  | succ n ih =>
    intro A z x1 x2 H locs ls cells slots hP hD hS hl hf hcc hss
    rw [md_findReached_l58] at hf
    refine lv_iload_n hx hb dX4_findReached_58 rfl (lv_at hl 2 rfl) ?_
    refine lv_aload_n hx hb dX4_findReached_59 rfl (lv_at hl 0 rfl) ?_
    refine va_get (D := G) (ci := 4) (v := .int (Ms.mad z)) (C := RX4) (T := TX4) (N := 32) hx hb hts (fun w h => .tail _ (wl_X4 w h)) hown hK hP 0 rfl rfl 9 (by decide) (hts _ (.tail _ wm_19)) (fun _ h9 => h9) rfl dX4_findReached_60 ?_
    refine lv_icmp_gt (tgt := 139) hx hb dX4_findReached_63 (by decide) (fun c7 => ?_) (fun c7 => ?_)
    · have hf := (if_pos c7).symm.trans hf
      refine lv_iconst (v := 0) hx hb dX4_findReached_139 (by decide) ?_
      refine lv_istore_n (lv' := [(2, .int 0), (0, .ref q), (1, .int x1)]) hx hb dX4_findReached_140 rfl hl (by decide) rfl (fun ls hl => ?_)
      exact L_md_findReached_l141 _ _ _ _ _ _ _ _ _ _ _ _ _ _ _ _ _ _ _ C hK _ hK50 FU _ _ _ _ _ _ _ _ _ hP hD hS (lv_sub hl [1, 2, 0] rfl) hf (by omega) (by omega)
    · have hf := (if_neg c7).symm.trans hf
      refine lv_iconst (v := 0) hx hb dX4_findReached_66 (by decide) ?_
      refine lv_istore_n (lv' := [(3, .int 0), (0, .ref q), (1, .int x1), (2, .int x2)]) hx hb dX4_findReached_67 rfl hl (by decide) rfl (fun ls hl => ?_)
      exact L_md_findReached_l68 _ _ _ _ _ _ _ _ _ _ _ _ _ _ _ _ _ _ _ C hK _ _ hK50 ih FU _ _ _ _ _ _ _ _ _ _ hP hD hS (lv_sub hl [1, 2, 3, 0] rfl) hf (by omega) (by omega)
set_option maxHeartbeats 4000000 in
set_option maxRecDepth 100000 in
theorem L_md_findReached_l50 (l : Launch) (G : va_G) (cI cL cZ cB : ClassId) (q : Nat) (w : va_W) (p : Program) (e : Env) (s : State) (m : MethodId) (args : Array Value) (below : List Frame) (meth : Method) (c : Code) (O0 : Ms × Unit) (mcT msT : Nat) (C : MC p s m args meth c cX4_findReached 5 (none) RX4 vX4_findReached) (hK : va_K G vwCl (mt cI cL cZ cB) s) : ∀ n : Nat, At_md_findReached_l50 l G cI cL cZ cB q w p e s m args below meth c O0 mcT msT (md_findReached_l50 n) := by
  obtain ⟨hx, hb, hr, hml, hown, hts, hlocks⟩ := id C
  have FX : CallFix p m c cX4_findReached 5 s args vX4_findReached RX4 := ⟨hx, hb, hml, hown, hts⟩
  have hA : ∀ q9 : Nat, s.heap.size ≤ q9 → va_A w s.heap.size q9 := fun q9 h => Or.inr h
  intro n
  induction n with
  | zero =>
    intro A z x1 H locs ls cells slots hP hD hS hl hf hcc hss
    exact nomatch (show none = some _ from hf)
  | succ n ih =>
    intro A z x1 H locs ls cells slots hP hD hS hl hf hcc hss
    rw [md_findReached_l50] at hf
    refine lv_iload_n hx hb dX4_findReached_50 rfl (lv_at hl 1 rfl) ?_
    refine lv_if_eq (tgt := 230) hx hb dX4_findReached_51 (by decide) (fun c6 => ?_) (fun c6 => ?_)
    · have hf := (if_pos c6).symm.trans hf
      obtain rfl := Option.some.inj hf
      exact grWv hx hb hr hlocks hP hK hD hS dX4_findReached_230 (by omega) (by omega)
    · have hf := (if_neg c6).symm.trans hf
      refine lv_iconst (v := 0) hx hb dX4_findReached_54 (by decide) ?_
      refine lv_istore_n (lv' := [(1, .int 0), (0, .ref q)]) hx hb dX4_findReached_55 rfl hl (by decide) rfl (fun ls hl => ?_)
      refine lv_iconst (v := 1) hx hb dX4_findReached_56 (by decide) ?_
      refine lv_istore_n (lv' := [(2, .int 1), (1, .int 0), (0, .ref q)]) hx hb dX4_findReached_57 rfl hl (by decide) rfl (fun ls hl => ?_)
      exact L_md_findReached_l58 _ _ _ _ _ _ _ _ _ _ _ _ _ _ _ _ _ _ _ C hK _ ih FU _ _ _ _ _ _ _ _ _ hP hD hS (lv_sub hl [2, 1, 0] rfl) hf (by omega) (by omega)
set_option maxHeartbeats 4000000 in
set_option maxRecDepth 100000 in
theorem L_md_findReached_l25 (l : Launch) (G : va_G) (cI cL cZ cB : ClassId) (q : Nat) (w : va_W) (p : Program) (e : Env) (s : State) (m : MethodId) (args : Array Value) (below : List Frame) (meth : Method) (c : Code) (O0 : Ms × Unit) (mcT msT : Nat) (C : MC p s m args meth c cX4_findReached 5 (none) RX4 vX4_findReached) (hK : va_K G vwCl (mt cI cL cZ cB) s) : ∀ n : Nat, At_md_findReached_l25 l G cI cL cZ cB q w p e s m args below meth c O0 mcT msT (md_findReached_l25 n) := by
  obtain ⟨hx, hb, hr, hml, hown, hts, hlocks⟩ := id C
  have FX : CallFix p m c cX4_findReached 5 s args vX4_findReached RX4 := ⟨hx, hb, hml, hown, hts⟩
  have hA : ∀ q9 : Nat, s.heap.size ≤ q9 → va_A w s.heap.size q9 := fun q9 h => Or.inr h
  intro n
  induction n with
  | zero =>
    intro A z x1 H locs ls cells slots hP hD hS hl hf hcc hss
    exact nomatch (show none = some _ from hf)
  | succ n ih =>
    intro A z x1 H locs ls cells slots hP hD hS hl hf hcc hss
    rw [md_findReached_l25] at hf
    refine lv_iload_n hx hb dX4_findReached_25 rfl (lv_at hl 1 rfl) ?_
    refine lv_bipush (v := 16) hx hb dX4_findReached_26 (by decide) ?_
    refine lv_icmp_ge (tgt := 48) hx hb dX4_findReached_28 (by decide) (fun c3 => ?_) (fun c3 => ?_)
    · have hf := (if_pos c3).symm.trans hf
      refine lv_iconst (v := 1) hx hb dX4_findReached_48 (by decide) ?_
      refine lv_istore_n (lv' := [(1, .int 1), (0, .ref q)]) hx hb dX4_findReached_49 rfl hl (by decide) rfl (fun ls hl => ?_)
      exact L_md_findReached_l50 _ _ _ _ _ _ _ _ _ _ _ _ _ _ _ _ _ _ _ C hK FU _ _ _ _ _ _ _ _ hP hD hS (lv_sub hl [1, 0] rfl) hf (by omega) (by omega)
    · have hf := (if_neg c3).symm.trans hf
      refine lv_aload_n hx hb dX4_findReached_31 rfl (lv_at hl 0 rfl) ?_
      refine lv_aload_n hx hb dX4_findReached_32 rfl (lv_at hl 0 rfl) ?_
      refine va_get (D := G) (ci := 4) (v := .ref (A 1)) (C := RX4) (T := TX4) (N := 32) hx hb hts (fun w h => .tail _ (wl_X4 w h)) hown hK hP 0 rfl rfl 7 (by decide) (hts _ (.tail _ wm_1)) (fun _ h9 => h9) rfl dX4_findReached_33 ?_
      refine lv_iload_n hx hb dX4_findReached_36 rfl (lv_at hl 1 rfl) ?_
      obtain ⟨hg4, hf⟩ := of_gd hf
      refine va_iald (f := (Ms.atg z)) (n := (Ms.ntg z)) hx hb hK hP 1 0 rfl rfl (inb_in hg4) dX4_findReached_37 ?_
      obtain ⟨z5, r5, ho5, hf⟩ := of_bw hf
      refine gcWi (gV FX [.int ((Ms.atg z) x1.toNatClampNeg)] (c_md_reach l G cI cL cZ cB q A z _ ((Ms.atg z) x1.toNatClampNeg) _ ho5) (cwV 1 hts (gi_V wm_20 wm_21 wm_22 wm_6 wm_23) rfl rfl rfl hdV_X4_reach ⟨Nat.le_of_ble_eq_true rfl, Nat.le_of_ble_eq_true rfl⟩) hK hP hD 0 rfl rfl rfl hl.1 (Nat.le_of_ble_eq_true rfl) dX4_findReached_38 ⟨by show _ ≤ mcT; omega, by show _ ≤ msT; omega⟩) hS hD hA (fun A H locs hP hD hS => ?_)
      refine lv_pop hx hb dX4_findReached_41 rfl ?_
      refine lv_iinc (v := (x1 + 1)) (lv' := [(1, .int (x1 + 1)), (0, .ref q)]) hx hb dX4_findReached_42 hl (k := 1) rfl rfl (by decide) rfl (fun ls hl => ?_)
      refine lv_goto (tgt := 25) hx hb dX4_findReached_45 (by decide) ?_
      exact ih _ _ _ _ _ _ _ _ hP hD hS (lv_sub hl [1, 0] rfl) hf (by omega) (by omega)
set_option maxHeartbeats 4000000 in
set_option maxRecDepth 100000 in
theorem L_md_findReached_l2 (l : Launch) (G : va_G) (cI cL cZ cB : ClassId) (q : Nat) (w : va_W) (p : Program) (e : Env) (s : State) (m : MethodId) (args : Array Value) (below : List Frame) (meth : Method) (c : Code) (O0 : Ms × Unit) (mcT msT : Nat) (C : MC p s m args meth c cX4_findReached 5 (none) RX4 vX4_findReached) (hK : va_K G vwCl (mt cI cL cZ cB) s) : ∀ n : Nat, At_md_findReached_l2 l G cI cL cZ cB q w p e s m args below meth c O0 mcT msT (md_findReached_l2 n) := by
  obtain ⟨hx, hb, hr, hml, hown, hts, hlocks⟩ := id C
  have FX : CallFix p m c cX4_findReached 5 s args vX4_findReached RX4 := ⟨hx, hb, hml, hown, hts⟩
  have hA : ∀ q9 : Nat, s.heap.size ≤ q9 → va_A w s.heap.size q9 := fun q9 h => Or.inr h
  intro n
  induction n with
  | zero =>
    intro A z x1 H locs ls cells slots hP hD hS hl hf hcc hss
    exact nomatch (show none = some _ from hf)
  | succ n ih =>
    intro A z x1 H locs ls cells slots hP hD hS hl hf hcc hss
    rw [md_findReached_l2] at hf
    refine lv_iload_n hx hb dX4_findReached_2 rfl (lv_at hl 1 rfl) ?_
    refine lv_aload_n hx hb dX4_findReached_3 rfl (lv_at hl 0 rfl) ?_
    refine va_get (D := G) (ci := 4) (v := .int (Ms.mad z)) (C := RX4) (T := TX4) (N := 32) hx hb hts (fun w h => .tail _ (wl_X4 w h)) hown hK hP 0 rfl rfl 9 (by decide) (hts _ (.tail _ wm_19)) (fun _ h9 => h9) rfl dX4_findReached_4 ?_
    refine lv_icmp_gt (tgt := 23) hx hb dX4_findReached_7 (by decide) (fun c1 => ?_) (fun c1 => ?_)
    · have hf := (if_pos c1).symm.trans hf
      refine lv_iconst (v := 0) hx hb dX4_findReached_23 (by decide) ?_
      refine lv_istore_n (lv' := [(1, .int 0), (0, .ref q)]) hx hb dX4_findReached_24 rfl hl (by decide) rfl (fun ls hl => ?_)
      exact L_md_findReached_l25 _ _ _ _ _ _ _ _ _ _ _ _ _ _ _ _ _ _ _ C hK FU _ _ _ _ _ _ _ _ hP hD hS (lv_sub hl [1, 0] rfl) hf (by omega) (by omega)
    · have hf := (if_neg c1).symm.trans hf
      refine lv_aload_n hx hb dX4_findReached_10 rfl (lv_at hl 0 rfl) ?_
      refine va_get (D := G) (ci := 4) (v := .ref (A 14)) (C := RX4) (T := TX4) (N := 32) hx hb hts (fun w h => .tail _ (wl_X4 w h)) hown hK hP 0 rfl rfl 21 (by decide) (hts _ (.tail _ wm_18)) (fun _ h9 => h9) rfl dX4_findReached_11 ?_
      refine lv_iload_n hx hb dX4_findReached_14 rfl (lv_at hl 1 rfl) ?_
      refine lv_iconst (v := 0) hx hb dX4_findReached_15 (by decide) ?_
      obtain ⟨hg2, hf⟩ := of_gd hf
      refine va_zast (f := (Ms.are z)) (n := (Ms.nre z)) hx hb hK hP hD hS 14 2 rfl rfl (inb_in hg2) dX4_findReached_16 (fun H locs hP hD hS => ?_)
      have hP : va_P G vwCl (mw cI cL cZ cB q A (Ms.wre z (upd (Ms.are z) (x1.toNatClampNeg) (vp_nar .boolean 0)))) H := hP
      have hD : va_D _ (mw cI cL cZ cB q A (Ms.wre z (upd (Ms.are z) (x1.toNatClampNeg) (vp_nar .boolean 0)))) := hD
      refine lv_iinc (v := (x1 + 1)) (lv' := [(1, .int (x1 + 1)), (0, .ref q)]) hx hb dX4_findReached_17 hl (k := 1) rfl rfl (by decide) rfl (fun ls hl => ?_)
      refine lv_goto (tgt := 2) hx hb dX4_findReached_20 (by decide) ?_
      exact ih _ _ _ _ _ _ _ _ hP hD hS (lv_sub hl [1, 0] rfl) hf (by omega) (by omega)
set_option maxHeartbeats 4000000 in
set_option maxRecDepth 100000 in
theorem c_md_findReached (l : Launch) (G : va_G) (cI cL cZ cB : ClassId) (q : Nat) (A : Nat → Nat) (z : Ms) (sz : Nat) (O0 : Ms × Unit) (hf : md_findReached z = some O0) : Met l yX4_findReached vX4_findReached { frames := 1, cells := 0, slots := 0, locals := 21 } (gPc G vwCl (mt cI cL cZ cB) [.ref q] (mw cI cL cZ cB q A z) sz) (qWv G vwCl (mt cI cL cZ cB) (mw cI cL cZ cB q A z) sz (mw cI cL cZ cB q) O0) 0 0 (va_A (mw cI cL cZ cB q A z) sz) := by
  refine gMet (by decide) rfl (Nat.le_of_ble_eq_true rfl) ?_
  intro p e s m below meth c ls C hK hP hD hsz hl
  subst hsz
  obtain ⟨hx, hb, hr, hml, hown, hts, hlocks⟩ := id C
  have FX : CallFix p m c cX4_findReached 5 s _ vX4_findReached RX4 := ⟨hx, hb, hml, hown, hts⟩
  have hA : ∀ q9 : Nat, s.heap.size ≤ q9 → va_A (mw cI cL cZ cB q A z) s.heap.size q9 := fun q9 h => Or.inr h
  have hS : va_S (va_A (mw cI cL cZ cB q A z) s.heap.size) s.heap s.heap [] := va_S.rf
  have hl : lv_has ls 5 [(0, .ref q)] := hl
  unfold md_findReached at hf
  refine lv_iconst (v := 1) hx hb dX4_findReached_0 (by decide) ?_
  refine lv_istore_n (lv' := [(1, .int 1), (0, .ref q)]) hx hb dX4_findReached_1 rfl hl (by decide) rfl (fun ls hl => ?_)
  exact L_md_findReached_l2 _ _ _ _ _ _ _ _ _ _ _ _ _ _ _ _ _ _ _ C hK FU _ _ _ _ _ _ _ _ hP hD hS (lv_sub hl [1, 0] rfl) hf (by omega) (by omega)
