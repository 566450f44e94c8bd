def At_md_value_j26 (l : Launch) (G : va_G) (cI cL cZ cB : ClassId) (q : Nat) (w : va_W) (p : Program) (e : Env) (s : State) (m : MethodId) (args : Array Value) (below : List Frame) (meth : Method) (c : Code) (O0 : Ms × Int64) (mcT msT : Nat) (F : Int32 → Int32 → Ms → Option (Ms × Int64)) : Prop := ∀ (A : Nat → Nat) (z : Ms) (x1 : Int32) (t0 : Int32) (H : Heap) (locs : List Loc) (ls : Array Slot) (cells slots : Nat), va_P G vwCl (mw cI cL cZ cB q A z) H → va_D (va_A w s.heap.size) (mw cI cL cZ cB q A z) → va_S (va_A w s.heap.size) s.heap H locs → lv_has ls 2 [(0, .ref q), (1, .int x1)] → F x1 t0 z = some O0 → cells + 0 ≤ mcT → slots + 0 ≤ msT → W p l e { frames := 1, cells := mcT, slots := msT, locals := 20 } s m args below meth c H locs cells slots (MQ below (qWl G vwCl (mt cI cL cZ cB) w s.heap.size (mw cI cL cZ cB q) O0) args s mcT msT (va_A w s.heap.size)) (F0 m 26 ls [.int t0, .ref q])
set_option maxHeartbeats 4000000 in
set_option maxRecDepth 100000 in
theorem L_md_value_j26 (l : Launch) (G : va_G) (cI cL cZ cB : ClassId) (q : Nat) (w : va_W) (p : Program) (e : Env) (s : State) (m : MethodId) (args : Array Value) (below : List Frame) (meth : Method) (c : Code) (O0 : Ms × Int64) (mcT msT : Nat) (C : MC p s m args meth c cX4_value 2 (some .long) RX4 vX4_value) (hK : va_K G vwCl (mt cI cL cZ cB) s) : At_md_value_j26 l G cI cL cZ cB q w p e s m args below meth c O0 mcT msT md_value_j26 := by
  obtain ⟨hx, hb, hr, hml, hown, hts, hlocks⟩ := id C
  have FX : CallFix p m c cX4_value 2 s args vX4_value RX4 := ⟨hx, hb, hml, hown, hts⟩
  have hA : ∀ q9 : Nat, s.heap.size ≤ q9 → va_A w s.heap.size q9 := fun q9 h => Or.inr h
  intro A z x1 t0 H locs ls cells slots hP hD hS hl hf hcc hss
  unfold md_value_j26 at hf
  refine va_put (D := G) (ci := 4) (v := .int t0) (ty := .int) (C := RX4) (T := TX4) (N := 32) hx hb hts (fun w h => .tail _ (wl_X4 w h)) tyX4 tyX4_ok nmX4 hown hK hP hD hS 0 rfl rfl 0 (by decide) (hts _ (.tail _ wm_0)) (fun _ h9 => h9) rfl (by decide +kernel) rfl rfl (Nat.le_of_ble_eq_true rfl) dX4_value_26 (fun H locs hP hD hS => ?_)
  have hP : va_P G vwCl (mw cI cL cZ cB q A (Ms.sthr z t0)) H := hP
  have hD : va_D _ (mw cI cL cZ cB q A (Ms.sthr z t0)) := hD
  refine lv_aload_n hx hb dX4_value_29 rfl (lv_at hl 0 rfl) ?_
  refine va_get (D := G) (ci := 4) (v := .int t0) (C := RX4) (T := TX4) (N := 32) hx hb hts (fun w h => .tail _ (wl_X4 w h)) hown hK hP 0 rfl rfl 0 (by decide) (hts _ (.tail _ wm_0)) (fun _ h9 => h9) rfl dX4_value_30 ?_
  refine lv_if_le (tgt := 40) hx hb dX4_value_33 (by decide) (fun c5 => ?_) (fun c5 => ?_)
  · have hf := (if_pos c5).symm.trans hf
    refine lv_aload_n hx hb dX4_value_40 rfl (lv_at hl 0 rfl) ?_
    refine va_get (D := G) (ci := 4) (v := .ref (A 2)) (C := RX4) (T := TX4) (N := 32) hx hb hts (fun w h => .tail _ (wl_X4 w h)) hown hK hP 0 rfl rfl 8 (by decide) (hts _ (.tail _ wm_8)) (fun _ h9 => h9) rfl dX4_value_41 ?_
    refine lv_iload_n hx hb dX4_value_44 rfl (lv_at hl 1 rfl) ?_
    obtain ⟨hg6, hf⟩ := of_gd hf
    refine va_lald (f := (Ms.avl z)) (n := (Ms.nvl z)) hx hb hK hP 2 1 rfl rfl (inb_in hg6) dX4_value_45 ?_
    obtain rfl := Option.some.inj hf
    exact grWl hx hb hr hlocks hP hK hD hS dX4_value_46 (by omega) (by omega)
  · have hf := (if_neg c5).symm.trans hf
    refine lv_lconst (v := 0) hx hb dX4_value_36 (by decide) ?_
    refine lv_goto (tgt := 46) hx hb dX4_value_37 (by decide) ?_
    obtain rfl := Option.some.inj hf
    exact grWl hx hb hr hlocks hP hK hD hS dX4_value_46 (by omega) (by omega)
set_option maxHeartbeats 4000000 in
set_option maxRecDepth 100000 in
theorem c_md_value (l : Launch) (G : va_G) (cI cL cZ cB : ClassId) (q : Nat) (A : Nat → Nat) (z : Ms) (sz : Nat) (p0 : Int32) (O0 : Ms × Int64) (hf : md_value z p0 = some O0) : Met l yX4_value vX4_value { frames := 1, cells := 0, slots := 0, locals := 20 } (gPc G vwCl (mt cI cL cZ cB) [.ref q, .int p0] (mw cI cL cZ cB q A z) sz) (qWl G vwCl (mt cI cL cZ cB) (mw cI cL cZ cB q A z) sz (mw cI cL cZ cB q) O0) 0 0 (va_A (mw cI cL cZ cB q A z) sz) := by
  refine gMet (by decide) rfl (Nat.le_of_ble_eq_true rfl) ?_
  intro p e s m below meth c ls C hK hP hD hsz hl
  subst hsz
  obtain ⟨hx, hb, hr, hml, hown, hts, hlocks⟩ := id C
  have FX : CallFix p m c cX4_value 2 s _ vX4_value RX4 := ⟨hx, hb, hml, hown, hts⟩
  have hA : ∀ q9 : Nat, s.heap.size ≤ q9 → va_A (mw cI cL cZ cB q A z) s.heap.size q9 := fun q9 h => Or.inr h
  have hS : va_S (va_A (mw cI cL cZ cB q A z) s.heap.size) s.heap s.heap [] := va_S.rf
  have hl : lv_has ls 2 [(0, .ref q), (1, .int p0)] := hl
  unfold md_value at hf
  refine lv_aload_n hx hb dX4_value_0 rfl (lv_at hl 0 rfl) ?_
  refine lv_iload_n hx hb dX4_value_1 rfl (lv_at hl 1 rfl) ?_
  obtain ⟨r1, ho1, hf⟩ := of_b0 hf
  refine gcRi (gS FX [.int p0] (c_md_isRegister l G cI cL cZ cB q A z _ p0 _ ho1) (cwS 1 hts (gi_S wm_79 wm_80 wm_6 wm_81) rfl rfl rfl hdS_X4_isRegister ⟨Nat.le_of_ble_eq_true rfl, Nat.le_of_ble_eq_true rfl⟩) hK hP hD rfl hl.1 (Nat.le_of_ble_eq_true rfl) dX4_value_2 ⟨by show _ ≤ 0; omega, by show _ ≤ 0; omega⟩) hS hD hA (fun H locs hP hS => ?_)
  refine lv_if_ne (tgt := 12) hx hb dX4_value_5 (by decide) (fun c2 => ?_) (fun c2 => ?_)
  · have hf := (if_neg c2).symm.trans hf
    refine lv_aload_n hx hb dX4_value_12 rfl (lv_at hl 0 rfl) ?_
    refine va_get (D := G) (ci := 4) (v := .ref (A 1)) (C := RX4) (T := TX4) (N := 32) hx hb hts (fun w h => .tail _ (wl_X4 w h)) hown hK hP 0 rfl rfl 7 (by decide) (hts _ (.tail _ wm_1)) (fun _ h9 => h9) rfl dX4_value_13 ?_
    refine lv_iload_n hx hb dX4_value_16 rfl (lv_at hl 1 rfl) ?_
    obtain ⟨hg3, hf⟩ := of_gd hf
    refine va_iald (f := (Ms.atg z)) (n := (Ms.ntg z)) hx hb hK hP 1 0 rfl rfl (inb_in hg3) dX4_value_17 ?_
    refine lv_if_eq (tgt := 25) hx hb dX4_value_18 (by decide) (fun c4 => ?_) (fun c4 => ?_)
    · have hf := (if_pos c4).symm.trans hf
      refine lv_iconst (v := 0) hx hb dX4_value_25 (by decide) ?_
      exact L_md_value_j26 _ _ _ _ _ _ _ _ _ _ _ _ _ _ _ _ _ _ _ C hK _ _ _ _ _ _ _ _ _ hP hD hS (lv_sub hl [0, 1] rfl) hf (by omega) (by omega)
    · have hf := (if_neg c4).symm.trans hf
      refine lv_iconst (v := 2) hx hb dX4_value_21 (by decide) ?_
      refine lv_goto (tgt := 26) hx hb dX4_value_22 (by decide) ?_
      exact L_md_value_j26 _ _ _ _ _ _ _ _ _ _ _ _ _ _ _ _ _ _ _ C hK _ _ _ _ _ _ _ _ _ hP hD hS (lv_sub hl [0, 1] rfl) hf (by omega) (by omega)
  · have hf := (if_pos c2).symm.trans hf
    refine lv_iconst (v := 1) hx hb dX4_value_8 (by decide) ?_
    refine lv_goto (tgt := 26) hx hb dX4_value_9 (by decide) ?_
    exact L_md_value_j26 _ _ _ _ _ _ _ _ _ _ _ _ _ _ _ _ _ _ _ C hK _ _ _ _ _ _ _ _ _ hP hD hS (lv_sub hl [0, 1] rfl) hf (by omega) (by omega)
def At_md_same_j75 (l : Launch) (G : va_G) (cI cL cZ cB : ClassId) (q : Nat) (w : va_W) (p : Program) (e : Env) (s : State) (m : MethodId) (args : Array Value) (below : List Frame) (meth : Method) (c : Code) (O0 : Ms × Int32) (mcT msT : Nat) (F : Ms → Option (Ms × Int32)) : Prop := ∀ (A : Nat → Nat) (z : Ms) (H : Heap) (locs : List Loc) (ls : Array Slot) (cells slots : Nat), va_P G vwCl (mw cI cL cZ cB q A z) H → va_D (va_A w s.heap.size) (mw cI cL cZ cB q A z) → va_S (va_A w s.heap.size) s.heap H locs → lv_has ls 3 [] → F z = some O0 → cells + 0 ≤ mcT → slots + 0 ≤ msT → W p l e { frames := 1, cells := mcT, slots := msT, locals := 20 } s m args below meth c H locs cells slots (MQ below (qWi G vwCl (mt cI cL cZ cB) w s.heap.size (mw cI cL cZ cB q) O0) args s mcT msT (va_A w s.heap.size)) (F0 m 75 ls [])
def At_md_same_j71 (l : Launch) (G : va_G) (cI cL cZ cB : ClassId) (q : Nat) (w : va_W) (p : Program) (e : Env) (s : State) (m : MethodId) (args : Array Value) (below : List Frame) (meth : Method) (c : Code) (O0 : Ms × Int32) (mcT msT : Nat) (F : Ms → Option (Ms × Int32)) : Prop := ∀ (A : Nat → Nat) (z : Ms) (H : Heap) (locs : List Loc) (ls : Array Slot) (cells slots : Nat), va_P G vwCl (mw cI cL cZ cB q A z) H → va_D (va_A w s.heap.size) (mw cI cL cZ cB q A z) → va_S (va_A w s.heap.size) s.heap H locs → lv_has ls 3 [] → F z = some O0 → cells + 0 ≤ mcT → slots + 0 ≤ msT → W p l e { frames := 1, cells := mcT, slots := msT, locals := 20 } s m args below meth c H locs cells slots (MQ below (qWi G vwCl (mt cI cL cZ cB) w s.heap.size (mw cI cL cZ cB q) O0) args s mcT msT (va_A w s.heap.size)) (F0 m 71 ls [])
def At_md_same_j20 (l : Launch) (G : va_G) (cI cL cZ cB : ClassId) (q : Nat) (w : va_W) (p : Program) (e : Env) (s : State) (m : MethodId) (args : Array Value) (below : List Frame) (meth : Method) (c : Code) (O0 : Ms × Int32) (mcT msT : Nat) (F : Int32 → Int32 → Int32 → Ms → Option (Ms × Int32)) : Prop := ∀ (A : Nat → Nat) (z : Ms) (x1 : Int32) (x2 : Int32) (t0 : Int32) (H : Heap) (locs : List Loc) (ls : Array Slot) (cells slots : Nat), va_P G vwCl (mw cI cL cZ cB q A z) H → va_D (va_A w s.heap.size) (mw cI cL cZ cB q A z) → va_S (va_A w s.heap.size) s.heap H locs → lv_has ls 3 [(0, .ref q), (1, .int x1), (2, .int x2)] → F x1 x2 t0 z = some O0 → cells + 0 ≤ mcT → slots + 0 ≤ msT → W p l e { frames := 1, cells := mcT, slots := msT, locals := 20 } s m args below meth c H locs cells slots (MQ below (qWi G vwCl (mt cI cL cZ cB) w s.heap.size (mw cI cL cZ cB q) O0) args s mcT msT (va_A w s.heap.size)) (F0 m 20 ls [.int t0, .ref q])
def At_md_same_j19 (l : Launch) (G : va_G) (cI cL cZ cB : ClassId) (q : Nat) (w : va_W) (p : Program) (e : Env) (s : State) (m : MethodId) (args : Array Value) (below : List Frame) (meth : Method) (c : Code) (O0 : Ms × Int32) (mcT msT : Nat) (F : Int32 → Int32 → Ms → Option (Ms × Int32)) : Prop := ∀ (A : Nat → Nat) (z : Ms) (x1 : Int32) (x2 : Int32) (H : Heap) (locs : List Loc) (ls : Array Slot) (cells slots : Nat), va_P G vwCl (mw cI cL cZ cB q A z) H → va_D (va_A w s.heap.size) (mw cI cL cZ cB q A z) → va_S (va_A w s.heap.size) s.heap H locs → lv_has ls 3 [(0, .ref q), (1, .int x1), (2, .int x2)] → F x1 x2 z = some O0 → cells + 0 ≤ mcT → slots + 0 ≤ msT → W p l e { frames := 1, cells := mcT, slots := msT, locals := 20 } s m args below meth c H locs cells slots (MQ below (qWi G vwCl (mt cI cL cZ cB) w s.heap.size (mw cI cL cZ cB q) O0) args s mcT msT (va_A w s.heap.size)) (F0 m 19 ls [.ref q])
set_option maxHeartbeats 4000000 in
set_option maxRecDepth 100000 in
theorem L_md_same_j75 (l : Launch) (G : va_G) (cI cL cZ cB : ClassId) (q : Nat) (w : va_W) (p : Program) (e : Env) (s : State) (m : MethodId) (args : Array Value) (below : List Frame) (meth : Method) (c : Code) (O0 : Ms × Int32) (mcT msT : Nat) (C : MC p s m args meth c cX4_same 3 (some .boolean) RX4 vX4_same) (hK : va_K G vwCl (mt cI cL cZ cB) s) : At_md_same_j75 l G cI cL cZ cB q w p e s m args below meth c O0 mcT msT md_same_j75 := by
  obtain ⟨hx, hb, hr, hml, hown, hts, hlocks⟩ := id C
  have FX : CallFix p m c cX4_same 3 s args vX4_same RX4 := ⟨hx, hb, hml, hown, hts⟩
  have hA : ∀ q9 : Nat, s.heap.size ≤ q9 → va_A w s.heap.size q9 := fun q9 h => Or.inr h
  intro A z H locs ls cells slots hP hD hS hl hf hcc hss
  unfold md_same_j75 at hf
  refine lv_iconst (v := 0) hx hb dX4_same_75 (by decide) ?_
  obtain rfl := Option.some.inj hf
  exact grWz (by decide) hx hb hr hlocks hP hK hD hS dX4_same_76 (by omega) (by omega)
set_option maxHeartbeats 4000000 in
set_option maxRecDepth 100000 in
theorem L_md_same_j71 (l : Launch) (G : va_G) (cI cL cZ cB : ClassId) (q : Nat) (w : va_W) (p : Program) (e : Env) (s : State) (m : MethodId) (args : Array Value) (below : List Frame) (meth : Method) (c : Code) (O0 : Ms × Int32) (mcT msT : Nat) (C : MC p s m args meth c cX4_same 3 (some .boolean) RX4 vX4_same) (hK : va_K G vwCl (mt cI cL cZ cB) s) : At_md_same_j71 l G cI cL cZ cB q w p e s m args below meth c O0 mcT msT md_same_j71 := by
  obtain ⟨hx, hb, hr, hml, hown, hts, hlocks⟩ := id C
  have FX : CallFix p m c cX4_same 3 s args vX4_same RX4 := ⟨hx, hb, hml, hown, hts⟩
  have hA : ∀ q9 : Nat, s.heap.size ≤ q9 → va_A w s.heap.size q9 := fun q9 h => Or.inr h
  intro A z H locs ls cells slots hP hD hS hl hf hcc hss
  unfold md_same_j71 at hf
  refine lv_iconst (v := 1) hx hb dX4_same_71 (by decide) ?_
  refine lv_goto (tgt := 76) hx hb dX4_same_72 (by decide) ?_
  obtain rfl := Option.some.inj hf
  exact grWz (by decide) hx hb hr hlocks hP hK hD hS dX4_same_76 (by omega) (by omega)
set_option maxHeartbeats 4000000 in
set_option maxRecDepth 100000 in
theorem L_md_same_j20 (l : Launch) (G : va_G) (cI cL cZ cB : ClassId) (q : Nat) (w : va_W) (p : Program) (e : Env) (s : State) (m : MethodId) (args : Array Value) (below : List Frame) (meth : Method) (c : Code) (O0 : Ms × Int32) (mcT msT : Nat) (C : MC p s m args meth c cX4_same 3 (some .boolean) RX4 vX4_same) (hK : va_K G vwCl (mt cI cL cZ cB) s) : At_md_same_j20 l G cI cL cZ cB q w p e s m args below meth c O0 mcT msT md_same_j20 := by
  obtain ⟨hx, hb, hr, hml, hown, hts, hlocks⟩ := id C
  have FX : CallFix p m c cX4_same 3 s args vX4_same RX4 := ⟨hx, hb, hml, hown, hts⟩
  have hA : ∀ q9 : Nat, s.heap.size ≤ q9 → va_A w s.heap.size q9 := fun q9 h => Or.inr h
  intro A z x1 x2 t0 H locs ls cells slots hP hD hS hl hf hcc hss
  unfold md_same_j20 at hf
  refine va_put (D := G) (ci := 4) (v := .int t0) (ty := .int) (C := RX4) (T := TX4) (N := 32) hx hb hts (fun w h => .tail _ (wl_X4 w h)) tyX4 tyX4_ok nmX4 hown hK hP hD hS 0 rfl rfl 0 (by decide) (hts _ (.tail _ wm_0)) (fun _ h9 => h9) rfl (by decide +kernel) rfl rfl (Nat.le_of_ble_eq_true rfl) dX4_same_20 (fun H locs hP hD hS => ?_)
  have hP : va_P G vwCl (mw cI cL cZ cB q A (Ms.sthr z t0)) H := hP
  have hD : va_D _ (mw cI cL cZ cB q A (Ms.sthr z t0)) := hD
  refine lv_aload_n hx hb dX4_same_23 rfl (lv_at hl 0 rfl) ?_
  refine va_get (D := G) (ci := 4) (v := .int t0) (C := RX4) (T := TX4) (N := 32) hx hb hts (fun w h => .tail _ (wl_X4 w h)) hown hK hP 0 rfl rfl 0 (by decide) (hts _ (.tail _ wm_0)) (fun _ h9 => h9) rfl dX4_same_24 ?_
  refine lv_if_ne (tgt := 75) hx hb dX4_same_27 (by decide) (fun c5 => ?_) (fun c5 => ?_)
  · have hf := (if_neg c5).symm.trans hf
    exact L_md_same_j75 _ _ _ _ _ _ _ _ _ _ _ _ _ _ _ _ _ _ _ C hK _ _ _ _ _ _ _ hP hD hS (lv_sub hl [] rfl) hf (by omega) (by omega)
  · have hf := (if_pos c5).symm.trans hf
    refine lv_aload_n hx hb dX4_same_30 rfl (lv_at hl 0 rfl) ?_
    refine va_get (D := G) (ci := 4) (v := .ref (A 1)) (C := RX4) (T := TX4) (N := 32) hx hb hts (fun w h => .tail _ (wl_X4 w h)) hown hK hP 0 rfl rfl 7 (by decide) (hts _ (.tail _ wm_1)) (fun _ h9 => h9) rfl dX4_same_31 ?_
    refine lv_iload_n hx hb dX4_same_34 rfl (lv_at hl 1 rfl) ?_
    obtain ⟨hg6, hf⟩ := of_gd hf
    refine va_iald (f := (Ms.atg z)) (n := (Ms.ntg z)) hx hb hK hP 1 0 rfl rfl (inb_in hg6) dX4_same_35 ?_
    refine lv_aload_n hx hb dX4_same_36 rfl (lv_at hl 0 rfl) ?_
    refine va_get (D := G) (ci := 4) (v := .ref (A 1)) (C := RX4) (T := TX4) (N := 32) hx hb hts (fun w h => .tail _ (wl_X4 w h)) hown hK hP 0 rfl rfl 7 (by decide) (hts _ (.tail _ wm_1)) (fun _ h9 => h9) rfl dX4_same_37 ?_
    refine lv_iload_n hx hb dX4_same_40 rfl (lv_at hl 2 rfl) ?_
    obtain ⟨hg7, hf⟩ := of_gd hf
    refine va_iald (f := (Ms.atg z)) (n := (Ms.ntg z)) hx hb hK hP 1 0 rfl rfl (inb_in hg7) dX4_same_41 ?_
    refine lv_icmp_ne (tgt := 75) hx hb dX4_same_42 (by decide) (fun c8 => ?_) (fun c8 => ?_)
    · have hf := (if_neg c8).symm.trans hf
      exact L_md_same_j75 _ _ _ _ _ _ _ _ _ _ _ _ _ _ _ _ _ _ _ C hK _ _ _ _ _ _ _ hP hD hS (lv_sub hl [] rfl) hf (by omega) (by omega)
    · have hf := (if_pos c8).symm.trans hf
      refine lv_aload_n hx hb dX4_same_45 rfl (lv_at hl 0 rfl) ?_
      refine va_get (D := G) (ci := 4) (v := .ref (A 1)) (C := RX4) (T := TX4) (N := 32) hx hb hts (fun w h => .tail _ (wl_X4 w h)) hown hK hP 0 rfl rfl 7 (by decide) (hts _ (.tail _ wm_1)) (fun _ h9 => h9) rfl dX4_same_46 ?_
      refine lv_iload_n hx hb dX4_same_49 rfl (lv_at hl 1 rfl) ?_
      obtain ⟨hg9, hf⟩ := of_gd hf
      refine va_iald (f := (Ms.atg z)) (n := (Ms.ntg z)) hx hb hK hP 1 0 rfl rfl (inb_in hg9) dX4_same_50 ?_
      refine lv_iconst (v := (-1)) hx hb dX4_same_51 (by decide) ?_
      refine lv_icmp_eq (tgt := 71) hx hb dX4_same_52 (by decide) (fun c10 => ?_) (fun c10 => ?_)
      · have hf := (if_pos c10).symm.trans hf
        exact L_md_same_j71 _ _ _ _ _ _ _ _ _ _ _ _ _ _ _ _ _ _ _ C hK _ _ _ _ _ _ _ hP hD hS (lv_sub hl [] rfl) hf (by omega) (by omega)
      · have hf := (if_neg c10).symm.trans hf
        refine lv_aload_n hx hb dX4_same_55 rfl (lv_at hl 0 rfl) ?_
        refine va_get (D := G) (ci := 4) (v := .ref (A 2)) (C := RX4) (T := TX4) (N := 32) hx hb hts (fun w h => .tail _ (wl_X4 w h)) hown hK hP 0 rfl rfl 8 (by decide) (hts _ (.tail _ wm_8)) (fun _ h9 => h9) rfl dX4_same_56 ?_
        refine lv_iload_n hx hb dX4_same_59 rfl (lv_at hl 1 rfl) ?_
        obtain ⟨hg11, hf⟩ := of_gd hf
        refine va_lald (f := (Ms.avl z)) (n := (Ms.nvl z)) hx hb hK hP 2 1 rfl rfl (inb_in hg11) dX4_same_60 ?_
        refine lv_aload_n hx hb dX4_same_61 rfl (lv_at hl 0 rfl) ?_
        refine va_get (D := G) (ci := 4) (v := .ref (A 2)) (C := RX4) (T := TX4) (N := 32) hx hb hts (fun w h => .tail _ (wl_X4 w h)) hown hK hP 0 rfl rfl 8 (by decide) (hts _ (.tail _ wm_8)) (fun _ h9 => h9) rfl dX4_same_62 ?_
        refine lv_iload_n hx hb dX4_same_65 rfl (lv_at hl 2 rfl) ?_
        obtain ⟨hg12, hf⟩ := of_gd hf
        refine va_lald (f := (Ms.avl z)) (n := (Ms.nvl z)) hx hb hK hP 2 1 rfl rfl (inb_in hg12) dX4_same_66 ?_
        refine W.lcmp hx hb dX4_same_67 ?_
        refine lv_if_ne (tgt := 75) hx hb dX4_same_68 (by decide) (fun c13 => ?_) (fun c13 => ?_)
        · have hf := (if_neg c13).symm.trans hf
          exact L_md_same_j75 _ _ _ _ _ _ _ _ _ _ _ _ _ _ _ _ _ _ _ C hK _ _ _ _ _ _ _ hP hD hS (lv_sub hl [] rfl) hf (by omega) (by omega)
        · have hf := (if_pos c13).symm.trans hf
          exact L_md_same_j71 _ _ _ _ _ _ _ _ _ _ _ _ _ _ _ _ _ _ _ C hK _ _ _ _ _ _ _ hP hD hS (lv_sub hl [] rfl) hf (by omega) (by omega)
set_option maxHeartbeats 4000000 in
set_option maxRecDepth 100000 in
theorem L_md_same_j19 (l : Launch) (G : va_G) (cI cL cZ cB : ClassId) (q : Nat) (w : va_W) (p : Program) (e : Env) (s : State) (m : MethodId) (args : Array Value) (below : List Frame) (meth : Method) (c : Code) (O0 : Ms × Int32) (mcT msT : Nat) (C : MC p s m args meth c cX4_same 3 (some .boolean) RX4 vX4_same) (hK : va_K G vwCl (mt cI cL cZ cB) s) : At_md_same_j19 l G cI cL cZ cB q w p e s m args below meth c O0 mcT msT md_same_j19 := by
  obtain ⟨hx, hb, hr, hml, hown, hts, hlocks⟩ := id C
  have FX : CallFix p m c cX4_same 3 s args vX4_same RX4 := ⟨hx, hb, hml, hown, hts⟩
  have hA : ∀ q9 : Nat, s.heap.size ≤ q9 → va_A w s.heap.size q9 := fun q9 h => Or.inr h
  intro A z x1 x2 H locs ls cells slots hP hD hS hl hf hcc hss
  unfold md_same_j19 at hf
  refine lv_iconst (v := 1) hx hb dX4_same_19 (by decide) ?_
  exact L_md_same_j20 _ _ _ _ _ _ _ _ _ _ _ _ _ _ _ _ _ _ _ C hK _ _ _ _ _ _ _ _ _ _ hP hD hS (lv_sub hl [0, 1, 2] rfl) hf (by omega) (by omega)
set_option maxHeartbeats 4000000 in
set_option maxRecDepth 100000 in
theorem c_md_same (l : Launch) (G : va_G) (cI cL cZ cB : ClassId) (q : Nat) (A : Nat → Nat) (z : Ms) (sz : Nat) (p0 : Int32) (p1 : Int32) (O0 : Ms × Int32) (hf : md_same z p0 p1 = some O0) : Met l yX4_same vX4_same { frames := 1, cells := 0, slots := 0, locals := 20 } (gPc G vwCl (mt cI cL cZ cB) [.ref q, .int p0, .int p1] (mw cI cL cZ cB q A z) sz) (qWi G vwCl (mt cI cL cZ cB) (mw cI cL cZ cB q A z) sz (mw cI cL cZ cB q) O0) 0 0 (va_A (mw cI cL cZ cB q A z) sz) := by
  refine gMet (by decide) rfl (Nat.le_of_ble_eq_true rfl) ?_
  intro p e s m below meth c ls C hK hP hD hsz hl
  subst hsz
  obtain ⟨hx, hb, hr, hml, hown, hts, hlocks⟩ := id C
  have FX : CallFix p m c cX4_same 3 s _ vX4_same RX4 := ⟨hx, hb, hml, hown, hts⟩
  have hA : ∀ q9 : Nat, s.heap.size ≤ q9 → va_A (mw cI cL cZ cB q A z) s.heap.size q9 := fun q9 h => Or.inr h
  have hS : va_S (va_A (mw cI cL cZ cB q A z) s.heap.size) s.heap s.heap [] := va_S.rf
  have hl : lv_has ls 3 [(0, .ref q), (1, .int p0), (2, .int p1)] := hl
  unfold md_same at hf
  refine lv_aload_n hx hb dX4_same_0 rfl (lv_at hl 0 rfl) ?_
  refine lv_iload_n hx hb dX4_same_1 rfl (lv_at hl 1 rfl) ?_
  obtain ⟨r1, ho1, hf⟩ := of_b0 hf
  refine gcRi (gS FX [.int p0] (c_md_isRegister l G cI cL cZ cB q A z _ p0 _ ho1) (cwS 1 hts (gi_S wm_79 wm_80 wm_6 wm_81) rfl rfl rfl hdS_X4_isRegister ⟨Nat.le_of_ble_eq_true rfl, Nat.le_of_ble_eq_true rfl⟩) hK hP hD rfl hl.1 (Nat.le_of_ble_eq_true rfl) dX4_same_2 ⟨by show _ ≤ 0; omega, by show _ ≤ 0; omega⟩) hS hD hA (fun H locs hP hS => ?_)
  refine lv_if_eq (tgt := 19) hx hb dX4_same_5 (by decide) (fun c2 => ?_) (fun c2 => ?_)
  · have hf := (if_pos c2).symm.trans hf
    exact L_md_same_j19 _ _ _ _ _ _ _ _ _ _ _ _ _ _ _ _ _ _ _ C hK _ _ _ _ _ _ _ _ _ hP hD hS (lv_sub hl [0, 1, 2] rfl) hf (by omega) (by omega)
  · have hf := (if_neg c2).symm.trans hf
    refine lv_iload_n hx hb dX4_same_8 rfl (lv_at hl 2 rfl) ?_
    obtain ⟨r3, ho3, hf⟩ := of_b0 hf
    refine gcRi (gS FX [.int p1] (c_md_isRegister l G cI cL cZ cB q A z _ p1 _ ho3) (cwS 1 hts (gi_S wm_79 wm_80 wm_6 wm_81) rfl rfl rfl hdS_X4_isRegister ⟨Nat.le_of_ble_eq_true rfl, Nat.le_of_ble_eq_true rfl⟩) hK hP hD rfl hl.1 (Nat.le_of_ble_eq_true rfl) dX4_same_9 ⟨by show _ ≤ 0; omega, by show _ ≤ 0; omega⟩) hS hD hA (fun H locs hP hS => ?_)
    refine lv_if_eq (tgt := 19) hx hb dX4_same_12 (by decide) (fun c4 => ?_) (fun c4 => ?_)
    · have hf := (if_pos c4).symm.trans hf
      exact L_md_same_j19 _ _ _ _ _ _ _ _ _ _ _ _ _ _ _ _ _ _ _ C hK _ _ _ _ _ _ _ _ _ hP hD hS (lv_sub hl [0, 1, 2] rfl) hf (by omega) (by omega)
    · have hf := (if_neg c4).symm.trans hf
      refine lv_iconst (v := 0) hx hb dX4_same_15 (by decide) ?_
      refine lv_goto (tgt := 20) hx hb dX4_same_16 (by decide) ?_
      exact L_md_same_j20 _ _ _ _ _ _ _ _ _ _ _ _ _ _ _ _ _ _ _ C hK _ _ _ _ _ _ _ _ _ _ hP hD hS (lv_sub hl [0, 1, 2] rfl) hf (by omega) (by omega)
def At_md_total_j15 (l : Launch) (G : va_G) (cI cL cZ cB : ClassId) (q : Nat) (w : va_W) (p : Program) (e : Env) (s : State) (m : MethodId) (args : Array Value) (below : List Frame) (meth : Method) (c : Code) (O0 : Ms × Int32) (mcT msT : Nat) (F : Int32 → Int32 → Ms → Option (Ms × Int32)) : Prop := ∀ (A : Nat → Nat) (z : Ms) (x1 : Int32) (t0 : Int32) (H : Heap) (locs : List Loc) (ls : Array Slot) (cells slots : Nat), va_P G vwCl (mw cI cL cZ cB q A z) H → va_D (va_A w s.heap.size) (mw cI cL cZ cB q A z) → va_S (va_A w s.heap.size) s.heap H locs → lv_has ls 2 [(0, .ref q), (1, .int x1)] → F x1 t0 z = some O0 → cells + 0 ≤ mcT → slots + 0 ≤ msT → W p l e { frames := 1, cells := mcT, slots := msT, locals := 22 } s m args below meth c H locs cells slots (MQ below (qWi G vwCl (mt cI cL cZ cB) w s.heap.size (mw cI cL cZ cB q) O0) args s mcT msT (va_A w s.heap.size)) (F0 m 15 ls [.int t0, .ref q])
set_option maxHeartbeats 4000000 in
set_option maxRecDepth 100000 in
theorem L_md_total_j15 (l : Launch) (G : va_G) (cI cL cZ cB : ClassId) (q : Nat) (w : va_W) (p : Program) (e : Env) (s : State) (m : MethodId) (args : Array Value) (below : List Frame) (meth : Method) (c : Code) (O0 : Ms × Int32) (mcT msT : Nat) (C : MC p s m args meth c cX4_total 2 (some .int) RX4 vX4_total) (hK : va_K G vwCl (mt cI cL cZ cB) s) : At_md_total_j15 l G cI cL cZ cB q w p e s m args below meth c O0 mcT msT md_total_j15 := by
  obtain ⟨hx, hb, hr, hml, hown, hts, hlocks⟩ := id C
  have FX : CallFix p m c cX4_total 2 s args vX4_total RX4 := ⟨hx, hb, hml, hown, hts⟩
  have hA : ∀ q9 : Nat, s.heap.size ≤ q9 → va_A w s.heap.size q9 := fun q9 h => Or.inr h
  intro A z x1 t0 H locs ls cells slots hP hD hS hl hf hcc hss
  unfold md_total_j15 at hf
  refine va_put (D := G) (ci := 4) (v := .int t0) (ty := .int) (C := RX4) (T := TX4) (N := 32) hx hb hts (fun w h => .tail _ (wl_X4 w h)) tyX4 tyX4_ok nmX4 hown hK hP hD hS 0 rfl rfl 0 (by decide) (hts _ (.tail _ wm_0)) (fun _ h9 => h9) rfl (by decide +kernel) rfl rfl (Nat.le_of_ble_eq_true rfl) dX4_total_15 (fun H locs hP hD hS => ?_)
  have hP : va_P G vwCl (mw cI cL cZ cB q A (Ms.sthr z t0)) H := hP
  have hD : va_D _ (mw cI cL cZ cB q A (Ms.sthr z t0)) := hD
  refine lv_aload_n hx hb dX4_total_18 rfl (lv_at hl 0 rfl) ?_
  refine va_get (D := G) (ci := 4) (v := .int t0) (C := RX4) (T := TX4) (N := 32) hx hb hts (fun w h => .tail _ (wl_X4 w h)) hown hK hP 0 rfl rfl 0 (by decide) (hts _ (.tail _ wm_0)) (fun _ h9 => h9) rfl dX4_total_19 ?_
  refine lv_if_le (tgt := 27) hx hb dX4_total_22 (by decide) (fun c3 => ?_) (fun c3 => ?_)
  · have hf := (if_pos c3).symm.trans hf
    refine lv_iload_n hx hb dX4_total_27 rfl (lv_at hl 1 rfl) ?_
    refine lv_if_ne (tgt := 39) hx hb dX4_total_28 (by decide) (fun c4 => ?_) (fun c4 => ?_)
    · have hf := (if_neg c4).symm.trans hf
      refine lv_iload_n hx hb dX4_total_39 rfl (lv_at hl 1 rfl) ?_
      refine lv_iconst (v := 1) hx hb dX4_total_40 (by decide) ?_
      refine lv_icmp_ne (tgt := 52) hx hb dX4_total_41 (by decide) (fun c5 => ?_) (fun c5 => ?_)
      · have hf := (if_neg c5).symm.trans hf
        refine lv_iload_n hx hb dX4_total_52 rfl (lv_at hl 1 rfl) ?_
        refine lv_iconst (v := 2) hx hb dX4_total_53 (by decide) ?_
        refine lv_icmp_ne (tgt := 64) hx hb dX4_total_54 (by decide) (fun c6 => ?_) (fun c6 => ?_)
        · have hf := (if_neg c6).symm.trans hf
          refine lv_iload_n hx hb dX4_total_64 rfl (lv_at hl 1 rfl) ?_
          refine lv_iconst (v := 3) hx hb dX4_total_65 (by decide) ?_
          refine lv_icmp_ne (tgt := 76) hx hb dX4_total_66 (by decide) (fun c7 => ?_) (fun c7 => ?_)
          · have hf := (if_neg c7).symm.trans hf
            refine lv_aload_n hx hb dX4_total_76 rfl (lv_at hl 0 rfl) ?_
            refine va_get (D := G) (ci := 4) (v := .long (Ms.gvb z)) (C := RX4) (T := TX4) (N := 32) hx hb hts (fun w h => .tail _ (wl_X4 w h)) hown hK hP 0 rfl rfl 4 (by decide) (hts _ (.tail _ wm_46)) (fun _ h9 => h9) rfl dX4_total_77 ?_
            refine lv_l2i hx hb dX4_total_80 rfl ?_
            obtain rfl := Option.some.inj hf
            exact grWi hx hb hr hlocks hP hK hD hS dX4_total_81 (by omega) (by omega)
          · have hf := (if_pos c7).symm.trans hf
            refine lv_aload_n hx hb dX4_total_69 rfl (lv_at hl 0 rfl) ?_
            refine va_get (D := G) (ci := 4) (v := .int (Ms.col z)) (C := RX4) (T := TX4) (N := 32) hx hb hts (fun w h => .tail _ (wl_X4 w h)) hown hK hP 0 rfl rfl 6 (by decide) (hts _ (.tail _ wm_47)) (fun _ h9 => h9) rfl dX4_total_70 ?_
            refine lv_goto (tgt := 81) hx hb dX4_total_73 (by decide) ?_
            obtain rfl := Option.some.inj hf
            exact grWi hx hb hr hlocks hP hK hD hS dX4_total_81 (by omega) (by omega)
        · have hf := (if_pos c6).symm.trans hf
          refine lv_aload_n hx hb dX4_total_57 rfl (lv_at hl 0 rfl) ?_
          refine va_get (D := G) (ci := 4) (v := .int (Ms.mad z)) (C := RX4) (T := TX4) (N := 32) hx hb hts (fun w h => .tail _ (wl_X4 w h)) hown hK hP 0 rfl rfl 9 (by decide) (hts _ (.tail _ wm_19)) (fun _ h9 => h9) rfl dX4_total_58 ?_
          refine lv_goto (tgt := 81) hx hb dX4_total_61 (by decide) ?_
          obtain rfl := Option.some.inj hf
          exact grWi hx hb hr hlocks hP hK hD hS dX4_total_81 (by omega) (by omega)
      · have hf := (if_pos c5).symm.trans hf
        refine lv_aload_n hx hb dX4_total_44 rfl (lv_at hl 0 rfl) ?_
        refine va_get (D := G) (ci := 4) (v := .long (Ms.lim z)) (C := RX4) (T := TX4) (N := 32) hx hb hts (fun w h => .tail _ (wl_X4 w h)) hown hK hP 0 rfl rfl 1 (by decide) (hts _ (.tail _ wm_57)) (fun _ h9 => h9) rfl dX4_total_45 ?_
        refine lv_l2i hx hb dX4_total_48 rfl ?_
        refine lv_goto (tgt := 81) hx hb dX4_total_49 (by decide) ?_
        obtain rfl := Option.some.inj hf
        exact grWi hx hb hr hlocks hP hK hD hS dX4_total_81 (by omega) (by omega)
    · have hf := (if_pos c4).symm.trans hf
      refine lv_aload_n hx hb dX4_total_31 rfl (lv_at hl 0 rfl) ?_
      refine va_get (D := G) (ci := 4) (v := .long (Ms.usd z)) (C := RX4) (T := TX4) (N := 32) hx hb hts (fun w h => .tail _ (wl_X4 w h)) hown hK hP 0 rfl rfl 3 (by decide) (hts _ (.tail _ wm_45)) (fun _ h9 => h9) rfl dX4_total_32 ?_
      refine lv_l2i hx hb dX4_total_35 rfl ?_
      refine lv_goto (tgt := 81) hx hb dX4_total_36 (by decide) ?_
      obtain rfl := Option.some.inj hf
      exact grWi hx hb hr hlocks hP hK hD hS dX4_total_81 (by omega) (by omega)
  · have hf := (if_neg c3).symm.trans hf
    refine lv_iconst (v := 0) hx hb dX4_total_25 (by decide) ?_
    obtain rfl := Option.some.inj hf
    exact grWi hx hb hr hlocks hP hK hD hS dX4_total_26 (by omega) (by omega)
set_option maxHeartbeats 4000000 in
set_option maxRecDepth 100000 in
theorem c_md_total (l : Launch) (G : va_G) (cI cL cZ cB : ClassId) (q : Nat) (A : Nat → Nat) (z : Ms) (sz : Nat) (p0 : Int32) (O0 : Ms × Int32) (hf : md_total z p0 = some O0) : Met l yX4_total vX4_total { frames := 1, cells := 0, slots := 0, locals := 22 } (gPc G vwCl (mt cI cL cZ cB) [.ref q, .int p0] (mw cI cL cZ cB q A z) sz) (qWi G vwCl (mt cI cL cZ cB) (mw cI cL cZ cB q A z) sz (mw cI cL cZ cB q) O0) 0 0 (va_A (mw cI cL cZ cB q A z) sz) := by
  refine gMet (by decide) rfl (Nat.le_of_ble_eq_true rfl) ?_
  intro p e s m below meth c ls C hK hP hD hsz hl
  subst hsz
  obtain ⟨hx, hb, hr, hml, hown, hts, hlocks⟩ := id C
  have FX : CallFix p m c cX4_total 2 s _ vX4_total RX4 := ⟨hx, hb, hml, hown, hts⟩
  have hA : ∀ q9 : Nat, s.heap.size ≤ q9 → va_A (mw cI cL cZ cB q A z) s.heap.size q9 := fun q9 h => Or.inr h
  have hS : va_S (va_A (mw cI cL cZ cB q A z) s.heap.size) s.heap s.heap [] := va_S.rf
  have hl : lv_has ls 2 [(0, .ref q), (1, .int p0)] := hl
  unfold md_total at hf
  refine lv_aload_n hx hb dX4_total_0 rfl (lv_at hl 0 rfl) ?_
  refine lv_iload_n hx hb dX4_total_1 rfl (lv_at hl 1 rfl) ?_
  refine lv_iconst (v := 0) hx hb dX4_total_2 (by decide) ?_
  refine lv_iconst (v := 4) hx hb dX4_total_3 (by decide) ?_
  obtain ⟨r1, ho1, hf⟩ := of_b0 hf
  refine gcRi (gS FX [.int p0, .int 0, .int 4] (c_md_outside l G cI cL cZ cB q A z _ p0 0 4 _ ho1) (cwS 3 hts (gi_S wm_89 wm_90 wm_6 wm_91) rfl rfl rfl hdS_X4_outside ⟨Nat.le_of_ble_eq_true rfl, Nat.le_of_ble_eq_true rfl⟩) hK hP hD rfl hl.1 (Nat.le_of_ble_eq_true rfl) dX4_total_4 ⟨by show _ ≤ 0; omega, by show _ ≤ 0; omega⟩) hS hD hA (fun H locs hP hS => ?_)
  refine lv_if_eq (tgt := 14) hx hb dX4_total_7 (by decide) (fun c2 => ?_) (fun c2 => ?_)
  · have hf := (if_pos c2).symm.trans hf
    refine lv_iconst (v := 0) hx hb dX4_total_14 (by decide) ?_
    exact L_md_total_j15 _ _ _ _ _ _ _ _ _ _ _ _ _ _ _ _ _ _ _ C hK _ _ _ _ _ _ _ _ _ hP hD hS (lv_sub hl [0, 1] rfl) hf (by omega) (by omega)
  · have hf := (if_neg c2).symm.trans hf
    refine lv_iconst (v := 1) hx hb dX4_total_10 (by decide) ?_
    refine lv_goto (tgt := 15) hx hb dX4_total_11 (by decide) ?_
    exact L_md_total_j15 _ _ _ _ _ _ _ _ _ _ _ _ _ _ _ _ _ _ _ C hK _ _ _ _ _ _ _ _ _ hP hD hS (lv_sub hl [0, 1] rfl) hf (by omega) (by omega)
