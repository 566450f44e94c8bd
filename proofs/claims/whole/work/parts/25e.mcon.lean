def At_md_compare_j54 (l : Launch) (G : va_G) (cI cL cZ cB : ClassId) (q : Nat) (w : va_W) (p : Program) (e : Env) (s : State) (m : MethodId) (args : Array Value) (below : List Frame) (meth : Method) (c : Code) (O0 : Ms × Int32) (mcT msT : Nat) (F : Int32 → Int32 → Int32 → Ms → Option (Ms × Int32)) : Prop := ∀ (A : Nat → Nat) (z : Ms) (x1 : Int32) (x2 : Int32) (t0 : Int32) (H : Heap) (locs : List Loc) (ls : Array Slot) (cells slots : Nat), va_P G vwCl (mw cI cL cZ cB q A z) H → va_D (va_A w s.heap.size) (mw cI cL cZ cB q A z) → va_S (va_A w s.heap.size) s.heap H locs → lv_has ls 3 [(0, .ref q), (1, .int x1), (2, .int x2)] → F x1 x2 t0 z = some O0 → cells + 0 ≤ mcT → slots + 0 ≤ msT → W p l e { frames := 2, cells := mcT, slots := msT, locals := 45 } s m args below meth c H locs cells slots (MQ below (qWi G vwCl (mt cI cL cZ cB) w s.heap.size (mw cI cL cZ cB q) O0) args s mcT msT (va_A w s.heap.size)) (F0 m 54 ls [.int t0, .ref q])
def At_md_compare_j53 (l : Launch) (G : va_G) (cI cL cZ cB : ClassId) (q : Nat) (w : va_W) (p : Program) (e : Env) (s : State) (m : MethodId) (args : Array Value) (below : List Frame) (meth : Method) (c : Code) (O0 : Ms × Int32) (mcT msT : Nat) (F : Int32 → Int32 → Ms → Option (Ms × Int32)) : Prop := ∀ (A : Nat → Nat) (z : Ms) (x1 : Int32) (x2 : Int32) (H : Heap) (locs : List Loc) (ls : Array Slot) (cells slots : Nat), va_P G vwCl (mw cI cL cZ cB q A z) H → va_D (va_A w s.heap.size) (mw cI cL cZ cB q A z) → va_S (va_A w s.heap.size) s.heap H locs → lv_has ls 3 [(0, .ref q), (1, .int x1), (2, .int x2)] → F x1 x2 z = some O0 → cells + 0 ≤ mcT → slots + 0 ≤ msT → W p l e { frames := 2, cells := mcT, slots := msT, locals := 45 } s m args below meth c H locs cells slots (MQ below (qWi G vwCl (mt cI cL cZ cB) w s.heap.size (mw cI cL cZ cB q) O0) args s mcT msT (va_A w s.heap.size)) (F0 m 53 ls [.ref q])
def At_md_compare_j20 (l : Launch) (G : va_G) (cI cL cZ cB : ClassId) (q : Nat) (w : va_W) (p : Program) (e : Env) (s : State) (m : MethodId) (args : Array Value) (below : List Frame) (meth : Method) (c : Code) (O0 : Ms × Int32) (mcT msT : Nat) (F : Int32 → Int32 → Int32 → Ms → Option (Ms × Int32)) : Prop := ∀ (A : Nat → Nat) (z : Ms) (x1 : Int32) (x2 : Int32) (t0 : Int32) (H : Heap) (locs : List Loc) (ls : Array Slot) (cells slots : Nat), va_P G vwCl (mw cI cL cZ cB q A z) H → va_D (va_A w s.heap.size) (mw cI cL cZ cB q A z) → va_S (va_A w s.heap.size) s.heap H locs → lv_has ls 3 [(0, .ref q), (1, .int x1), (2, .int x2)] → F x1 x2 t0 z = some O0 → cells + 0 ≤ mcT → slots + 0 ≤ msT → W p l e { frames := 2, cells := mcT, slots := msT, locals := 45 } s m args below meth c H locs cells slots (MQ below (qWi G vwCl (mt cI cL cZ cB) w s.heap.size (mw cI cL cZ cB q) O0) args s mcT msT (va_A w s.heap.size)) (F0 m 20 ls [.int t0, .ref q])
def At_md_compare_j15 (l : Launch) (G : va_G) (cI cL cZ cB : ClassId) (q : Nat) (w : va_W) (p : Program) (e : Env) (s : State) (m : MethodId) (args : Array Value) (below : List Frame) (meth : Method) (c : Code) (O0 : Ms × Int32) (mcT msT : Nat) (F : Int32 → Int32 → Ms → Option (Ms × Int32)) : Prop := ∀ (A : Nat → Nat) (z : Ms) (x1 : Int32) (x2 : Int32) (H : Heap) (locs : List Loc) (ls : Array Slot) (cells slots : Nat), va_P G vwCl (mw cI cL cZ cB q A z) H → va_D (va_A w s.heap.size) (mw cI cL cZ cB q A z) → va_S (va_A w s.heap.size) s.heap H locs → lv_has ls 3 [(0, .ref q), (1, .int x1), (2, .int x2)] → F x1 x2 z = some O0 → cells + 0 ≤ mcT → slots + 0 ≤ msT → W p l e { frames := 2, cells := mcT, slots := msT, locals := 45 } s m args below meth c H locs cells slots (MQ below (qWi G vwCl (mt cI cL cZ cB) w s.heap.size (mw cI cL cZ cB q) O0) args s mcT msT (va_A w s.heap.size)) (F0 m 15 ls [.ref q])
set_option maxHeartbeats 4000000 in
set_option maxRecDepth 100000 in
theorem L_md_compare_j54 (l : Launch) (G : va_G) (cI cL cZ cB : ClassId) (q : Nat) (w : va_W) (p : Program) (e : Env) (s : State) (m : MethodId) (args : Array Value) (below : List Frame) (meth : Method) (c : Code) (O0 : Ms × Int32) (mcT msT : Nat) (C : MC p s m args meth c cX4_compare 3 (some .int) RX4 vX4_compare) (hK : va_K G vwCl (mt cI cL cZ cB) s) : At_md_compare_j54 l G cI cL cZ cB q w p e s m args below meth c O0 mcT msT md_compare_j54 := by
  obtain ⟨hx, hb, hr, hml, hown, hts, hlocks⟩ := id C
  have FX : CallFix p m c cX4_compare 3 s args vX4_compare RX4 := ⟨hx, hb, hml, hown, hts⟩
  have hA : ∀ q9 : Nat, s.heap.size ≤ q9 → va_A w s.heap.size q9 := fun q9 h => Or.inr h
  intro A z x1 x2 t0 H locs ls cells slots hP hD hS hl hf hcc hss
  unfold md_compare_j54 at hf
  refine va_put (D := G) (ci := 4) (v := .int t0) (ty := .int) (C := RX4) (T := TX4) (N := 32) hx hb hts (fun w h => .tail _ (wl_X4 w h)) tyX4 tyX4_ok nmX4 hown hK hP hD hS 0 rfl rfl 0 (by decide) (hts _ (.tail _ wm_0)) (fun _ h9 => h9) rfl (by decide +kernel) rfl rfl (Nat.le_of_ble_eq_true rfl) dX4_compare_54 (fun H locs hP hD hS => ?_)
  have hP : va_P G vwCl (mw cI cL cZ cB q A (Ms.sthr z t0)) H := hP
  have hD : va_D _ (mw cI cL cZ cB q A (Ms.sthr z t0)) := hD
  refine lv_aload_n hx hb dX4_compare_57 rfl (lv_at hl 0 rfl) ?_
  refine va_get (D := G) (ci := 4) (v := .int t0) (C := RX4) (T := TX4) (N := 32) hx hb hts (fun w h => .tail _ (wl_X4 w h)) hown hK hP 0 rfl rfl 0 (by decide) (hts _ (.tail _ wm_0)) (fun _ h9 => h9) rfl dX4_compare_58 ?_
  refine lv_if_le (tgt := 68) hx hb dX4_compare_61 (by decide) (fun c10 => ?_) (fun c10 => ?_)
  · have hf := (if_pos c10).symm.trans hf
    refine lv_aload_n hx hb dX4_compare_68 rfl (lv_at hl 0 rfl) ?_
    refine lv_aload_n hx hb dX4_compare_69 rfl (lv_at hl 0 rfl) ?_
    refine va_get (D := G) (ci := 4) (v := .ref (A 1)) (C := RX4) (T := TX4) (N := 32) hx hb hts (fun w h => .tail _ (wl_X4 w h)) hown hK hP 0 rfl rfl 7 (by decide) (hts _ (.tail _ wm_1)) (fun _ h9 => h9) rfl dX4_compare_70 ?_
    refine lv_iload_n hx hb dX4_compare_73 rfl (lv_at hl 1 rfl) ?_
    obtain ⟨hg11, hf⟩ := of_gd hf
    refine va_iald (f := (Ms.atg z)) (n := (Ms.ntg z)) hx hb hK hP 1 0 rfl rfl (inb_in hg11) dX4_compare_74 ?_
    refine lv_aload_n hx hb dX4_compare_75 rfl (lv_at hl 0 rfl) ?_
    refine va_get (D := G) (ci := 4) (v := .ref (A 1)) (C := RX4) (T := TX4) (N := 32) hx hb hts (fun w h => .tail _ (wl_X4 w h)) hown hK hP 0 rfl rfl 7 (by decide) (hts _ (.tail _ wm_1)) (fun _ h9 => h9) rfl dX4_compare_76 ?_
    refine lv_iload_n hx hb dX4_compare_79 rfl (lv_at hl 2 rfl) ?_
    obtain ⟨hg12, hf⟩ := of_gd hf
    refine va_iald (f := (Ms.atg z)) (n := (Ms.ntg z)) hx hb hK hP 1 0 rfl rfl (inb_in hg12) dX4_compare_80 ?_
    obtain ⟨r13, ho13, hf⟩ := of_b0 hf
    refine gcRi (gV FX [.int ((Ms.atg z) x1.toNatClampNeg), .int ((Ms.atg z) x2.toNatClampNeg)] (c_md_order l G cI cL cZ cB q A (Ms.sthr z t0) _ ((Ms.atg z) x1.toNatClampNeg) ((Ms.atg z) x2.toNatClampNeg) _ ho13) (cwV 2 hts (gi_V wm_118 wm_119 wm_120 wm_6 wm_121) rfl rfl rfl hdV_X4_order ⟨Nat.le_of_ble_eq_true rfl, Nat.le_of_ble_eq_true rfl⟩) hK hP hD 0 rfl rfl rfl hl.1 (Nat.le_of_ble_eq_true rfl) dX4_compare_81 ⟨by show _ ≤ mcT; omega, by show _ ≤ msT; omega⟩) hS hD hA (fun H locs hP hS => ?_)
    obtain rfl := Option.some.inj hf
    exact grWi hx hb hr hlocks hP hK hD hS dX4_compare_84 (by omega) (by omega)
  · have hf := (if_neg c10).symm.trans hf
    refine lv_iconst (v := 0) hx hb dX4_compare_64 (by decide) ?_
    refine lv_goto (tgt := 84) hx hb dX4_compare_65 (by decide) ?_
    obtain rfl := Option.some.inj hf
    exact grWi hx hb hr hlocks hP hK hD hS dX4_compare_84 (by omega) (by omega)
set_option maxHeartbeats 4000000 in
set_option maxRecDepth 100000 in
theorem L_md_compare_j53 (l : Launch) (G : va_G) (cI cL cZ cB : ClassId) (q : Nat) (w : va_W) (p : Program) (e : Env) (s : State) (m : MethodId) (args : Array Value) (below : List Frame) (meth : Method) (c : Code) (O0 : Ms × Int32) (mcT msT : Nat) (C : MC p s m args meth c cX4_compare 3 (some .int) RX4 vX4_compare) (hK : va_K G vwCl (mt cI cL cZ cB) s) : At_md_compare_j53 l G cI cL cZ cB q w p e s m args below meth c O0 mcT msT md_compare_j53 := by
  obtain ⟨hx, hb, hr, hml, hown, hts, hlocks⟩ := id C
  have FX : CallFix p m c cX4_compare 3 s args vX4_compare RX4 := ⟨hx, hb, hml, hown, hts⟩
  have hA : ∀ q9 : Nat, s.heap.size ≤ q9 → va_A w s.heap.size q9 := fun q9 h => Or.inr h
  intro A z x1 x2 H locs ls cells slots hP hD hS hl hf hcc hss
  unfold md_compare_j53 at hf
  refine lv_iconst (v := 2) hx hb dX4_compare_53 (by decide) ?_
  exact L_md_compare_j54 _ _ _ _ _ _ _ _ _ _ _ _ _ _ _ _ _ _ _ C hK _ _ _ _ _ _ _ _ _ _ hP hD hS (lv_sub hl [0, 1, 2] rfl) hf (by omega) (by omega)
set_option maxHeartbeats 4000000 in
set_option maxRecDepth 100000 in
theorem L_md_compare_j20 (l : Launch) (G : va_G) (cI cL cZ cB : ClassId) (q : Nat) (w : va_W) (p : Program) (e : Env) (s : State) (m : MethodId) (args : Array Value) (below : List Frame) (meth : Method) (c : Code) (O0 : Ms × Int32) (mcT msT : Nat) (C : MC p s m args meth c cX4_compare 3 (some .int) RX4 vX4_compare) (hK : va_K G vwCl (mt cI cL cZ cB) s) : At_md_compare_j20 l G cI cL cZ cB q w p e s m args below meth c O0 mcT msT md_compare_j20 := by
  obtain ⟨hx, hb, hr, hml, hown, hts, hlocks⟩ := id C
  have FX : CallFix p m c cX4_compare 3 s args vX4_compare RX4 := ⟨hx, hb, hml, hown, hts⟩
  have hA : ∀ q9 : Nat, s.heap.size ≤ q9 → va_A w s.heap.size q9 := fun q9 h => Or.inr h
  intro A z x1 x2 t0 H locs ls cells slots hP hD hS hl hf hcc hss
  unfold md_compare_j20 at hf
  refine va_put (D := G) (ci := 4) (v := .int t0) (ty := .int) (C := RX4) (T := TX4) (N := 32) hx hb hts (fun w h => .tail _ (wl_X4 w h)) tyX4 tyX4_ok nmX4 hown hK hP hD hS 0 rfl rfl 0 (by decide) (hts _ (.tail _ wm_0)) (fun _ h9 => h9) rfl (by decide +kernel) rfl rfl (Nat.le_of_ble_eq_true rfl) dX4_compare_20 (fun H locs hP hD hS => ?_)
  have hP : va_P G vwCl (mw cI cL cZ cB q A (Ms.sthr z t0)) H := hP
  have hD : va_D _ (mw cI cL cZ cB q A (Ms.sthr z t0)) := hD
  refine lv_aload_n hx hb dX4_compare_23 rfl (lv_at hl 0 rfl) ?_
  refine va_get (D := G) (ci := 4) (v := .int t0) (C := RX4) (T := TX4) (N := 32) hx hb hts (fun w h => .tail _ (wl_X4 w h)) hown hK hP 0 rfl rfl 0 (by decide) (hts _ (.tail _ wm_0)) (fun _ h9 => h9) rfl dX4_compare_24 ?_
  refine lv_if_le (tgt := 32) hx hb dX4_compare_27 (by decide) (fun c5 => ?_) (fun c5 => ?_)
  · have hf := (if_pos c5).symm.trans hf
    refine lv_aload_n hx hb dX4_compare_32 rfl (lv_at hl 0 rfl) ?_
    refine lv_aload_n hx hb dX4_compare_33 rfl (lv_at hl 0 rfl) ?_
    refine lv_iload_n hx hb dX4_compare_34 rfl (lv_at hl 1 rfl) ?_
    obtain ⟨r6, ho6, hf⟩ := of_b0 hf
    refine gcRi (gV FX [.int x1] (c_md_isText l G cI cL cZ cB q A (Ms.sthr z t0) _ x1 _ ho6) (cwV 1 hts (gi_V wm_110 wm_111 wm_112 wm_6 wm_113) rfl rfl rfl hdV_X4_isText ⟨Nat.le_of_ble_eq_true rfl, Nat.le_of_ble_eq_true rfl⟩) hK hP hD 0 rfl rfl rfl hl.1 (Nat.le_of_ble_eq_true rfl) dX4_compare_35 ⟨by show _ ≤ mcT; omega, by show _ ≤ msT; omega⟩) hS hD hA (fun H locs hP hS => ?_)
    refine lv_if_eq (tgt := 53) hx hb dX4_compare_38 (by decide) (fun c7 => ?_) (fun c7 => ?_)
    · have hf := (if_pos c7).symm.trans hf
      exact L_md_compare_j53 _ _ _ _ _ _ _ _ _ _ _ _ _ _ _ _ _ _ _ C hK _ _ _ _ _ _ _ _ _ hP hD hS (lv_sub hl [0, 1, 2] rfl) hf (by omega) (by omega)
    · have hf := (if_neg c7).symm.trans hf
      refine lv_aload_n hx hb dX4_compare_41 rfl (lv_at hl 0 rfl) ?_
      refine lv_iload_n hx hb dX4_compare_42 rfl (lv_at hl 2 rfl) ?_
      obtain ⟨r8, ho8, hf⟩ := of_b0 hf
      refine gcRi (gV FX [.int x2] (c_md_isText l G cI cL cZ cB q A (Ms.sthr z t0) _ x2 _ ho8) (cwV 1 hts (gi_V wm_110 wm_111 wm_112 wm_6 wm_113) rfl rfl rfl hdV_X4_isText ⟨Nat.le_of_ble_eq_true rfl, Nat.le_of_ble_eq_true rfl⟩) hK hP hD 0 rfl rfl rfl hl.1 (Nat.le_of_ble_eq_true rfl) dX4_compare_43 ⟨by show _ ≤ mcT; omega, by show _ ≤ msT; omega⟩) hS hD hA (fun H locs hP hS => ?_)
      refine lv_if_eq (tgt := 53) hx hb dX4_compare_46 (by decide) (fun c9 => ?_) (fun c9 => ?_)
      · have hf := (if_pos c9).symm.trans hf
        exact L_md_compare_j53 _ _ _ _ _ _ _ _ _ _ _ _ _ _ _ _ _ _ _ C hK _ _ _ _ _ _ _ _ _ hP hD hS (lv_sub hl [0, 1, 2] rfl) hf (by omega) (by omega)
      · have hf := (if_neg c9).symm.trans hf
        refine lv_iconst (v := 0) hx hb dX4_compare_49 (by decide) ?_
        refine lv_goto (tgt := 54) hx hb dX4_compare_50 (by decide) ?_
        exact L_md_compare_j54 _ _ _ _ _ _ _ _ _ _ _ _ _ _ _ _ _ _ _ C hK _ _ _ _ _ _ _ _ _ _ hP hD hS (lv_sub hl [0, 1, 2] rfl) hf (by omega) (by omega)
  · have hf := (if_neg c5).symm.trans hf
    refine lv_iconst (v := 0) hx hb dX4_compare_30 (by decide) ?_
    obtain rfl := Option.some.inj hf
    exact grWi hx hb hr hlocks hP hK hD hS dX4_compare_31 (by omega) (by omega)
set_option maxHeartbeats 4000000 in
set_option maxRecDepth 100000 in
theorem L_md_compare_j15 (l : Launch) (G : va_G) (cI cL cZ cB : ClassId) (q : Nat) (w : va_W) (p : Program) (e : Env) (s : State) (m : MethodId) (args : Array Value) (below : List Frame) (meth : Method) (c : Code) (O0 : Ms × Int32) (mcT msT : Nat) (C : MC p s m args meth c cX4_compare 3 (some .int) RX4 vX4_compare) (hK : va_K G vwCl (mt cI cL cZ cB) s) : At_md_compare_j15 l G cI cL cZ cB q w p e s m args below meth c O0 mcT msT md_compare_j15 := by
  obtain ⟨hx, hb, hr, hml, hown, hts, hlocks⟩ := id C
  have FX : CallFix p m c cX4_compare 3 s args vX4_compare RX4 := ⟨hx, hb, hml, hown, hts⟩
  have hA : ∀ q9 : Nat, s.heap.size ≤ q9 → va_A w s.heap.size q9 := fun q9 h => Or.inr h
  intro A z x1 x2 H locs ls cells slots hP hD hS hl hf hcc hss
  unfold md_compare_j15 at hf
  refine lv_iconst (v := 1) hx hb dX4_compare_15 (by decide) ?_
  refine lv_goto (tgt := 20) hx hb dX4_compare_16 (by decide) ?_
  exact L_md_compare_j20 _ _ _ _ _ _ _ _ _ _ _ _ _ _ _ _ _ _ _ C hK _ _ _ _ _ _ _ _ _ _ hP hD hS (lv_sub hl [0, 1, 2] rfl) hf (by omega) (by omega)
set_option maxHeartbeats 4000000 in
set_option maxRecDepth 100000 in
theorem c_md_compare (l : Launch) (G : va_G) (cI cL cZ cB : ClassId) (q : Nat) (A : Nat → Nat) (z : Ms) (sz : Nat) (p0 : Int32) (p1 : Int32) (O0 : Ms × Int32) (hf : md_compare z p0 p1 = some O0) : Met l yX4_compare vX4_compare { frames := 2, cells := 0, slots := 0, locals := 45 } (gPc G vwCl (mt cI cL cZ cB) [.ref q, .int p0, .int p1] (mw cI cL cZ cB q A z) sz) (qWi G vwCl (mt cI cL cZ cB) (mw cI cL cZ cB q A z) sz (mw cI cL cZ cB q) O0) 0 0 (va_A (mw cI cL cZ cB q A z) sz) := by
  refine gMet (by decide) rfl (Nat.le_of_ble_eq_true rfl) ?_
  intro p e s m below meth c ls C hK hP hD hsz hl
  subst hsz
  obtain ⟨hx, hb, hr, hml, hown, hts, hlocks⟩ := id C
  have FX : CallFix p m c cX4_compare 3 s _ vX4_compare RX4 := ⟨hx, hb, hml, hown, hts⟩
  have hA : ∀ q9 : Nat, s.heap.size ≤ q9 → va_A (mw cI cL cZ cB q A z) s.heap.size q9 := fun q9 h => Or.inr h
  have hS : va_S (va_A (mw cI cL cZ cB q A z) s.heap.size) s.heap s.heap [] := va_S.rf
  have hl : lv_has ls 3 [(0, .ref q), (1, .int p0), (2, .int p1)] := hl
  unfold md_compare at hf
  refine lv_aload_n hx hb dX4_compare_0 rfl (lv_at hl 0 rfl) ?_
  refine lv_iload_n hx hb dX4_compare_1 rfl (lv_at hl 1 rfl) ?_
  obtain ⟨r1, ho1, hf⟩ := of_b0 hf
  refine gcRi (gS FX [.int p0] (c_md_isRegister l G cI cL cZ cB q A z _ p0 _ ho1) (cwS 1 hts (gi_S wm_79 wm_80 wm_6 wm_81) rfl rfl rfl hdS_X4_isRegister ⟨Nat.le_of_ble_eq_true rfl, Nat.le_of_ble_eq_true rfl⟩) hK hP hD rfl hl.1 (Nat.le_of_ble_eq_true rfl) dX4_compare_2 ⟨by show _ ≤ 0; omega, by show _ ≤ 0; omega⟩) hS hD hA (fun H locs hP hS => ?_)
  refine lv_if_eq (tgt := 15) hx hb dX4_compare_5 (by decide) (fun c2 => ?_) (fun c2 => ?_)
  · have hf := (if_pos c2).symm.trans hf
    exact L_md_compare_j15 _ _ _ _ _ _ _ _ _ _ _ _ _ _ _ _ _ _ _ C hK _ _ _ _ _ _ _ _ _ hP hD hS (lv_sub hl [0, 1, 2] rfl) hf (by omega) (by omega)
  · have hf := (if_neg c2).symm.trans hf
    refine lv_iload_n hx hb dX4_compare_8 rfl (lv_at hl 2 rfl) ?_
    obtain ⟨r3, ho3, hf⟩ := of_b0 hf
    refine gcRi (gS FX [.int p1] (c_md_isRegister l G cI cL cZ cB q A z _ p1 _ ho3) (cwS 1 hts (gi_S wm_79 wm_80 wm_6 wm_81) rfl rfl rfl hdS_X4_isRegister ⟨Nat.le_of_ble_eq_true rfl, Nat.le_of_ble_eq_true rfl⟩) hK hP hD rfl hl.1 (Nat.le_of_ble_eq_true rfl) dX4_compare_9 ⟨by show _ ≤ 0; omega, by show _ ≤ 0; omega⟩) hS hD hA (fun H locs hP hS => ?_)
    refine lv_if_ne (tgt := 19) hx hb dX4_compare_12 (by decide) (fun c4 => ?_) (fun c4 => ?_)
    · have hf := (if_neg c4).symm.trans hf
      refine lv_iconst (v := 0) hx hb dX4_compare_19 (by decide) ?_
      exact L_md_compare_j20 _ _ _ _ _ _ _ _ _ _ _ _ _ _ _ _ _ _ _ C hK _ _ _ _ _ _ _ _ _ _ hP hD hS (lv_sub hl [0, 1, 2] rfl) hf (by omega) (by omega)
    · have hf := (if_pos c4).symm.trans hf
      exact L_md_compare_j15 _ _ _ _ _ _ _ _ _ _ _ _ _ _ _ _ _ _ _ C hK _ _ _ _ _ _ _ _ _ hP hD hS (lv_sub hl [0, 1, 2] rfl) hf (by omega) (by omega)
def At_md_byteAt_j63 (l : Launch) (G : va_G) (cI cL cZ cB : ClassId) (q : Nat) (w : va_W) (p : Program) (e : Env) (s : State) (m : MethodId) (args : Array Value) (below : List Frame) (meth : Method) (c : Code) (O0 : Ms × Int32) (mcT msT : Nat) (F : Int32 → Int32 → Int32 → Ms → Option (Ms × Int32)) : Prop := ∀ (A : Nat → Nat) (z : Ms) (x1 : Int32) (x2 : Int32) (t0 : Int32) (H : Heap) (locs : List Loc) (ls : Array Slot) (cells slots : Nat), va_P G vwCl (mw cI cL cZ cB q A z) H → va_D (va_A w s.heap.size) (mw cI cL cZ cB q A z) → va_S (va_A w s.heap.size) s.heap H locs → lv_has ls 3 [(0, .ref q), (1, .int x1), (2, .int x2)] → F x1 x2 t0 z = some O0 → cells + 0 ≤ mcT → slots + 0 ≤ msT → W p l e { frames := 2, cells := mcT, slots := msT, locals := 43 } s m args below meth c H locs cells slots (MQ below (qWi G vwCl (mt cI cL cZ cB) w s.heap.size (mw cI cL cZ cB q) O0) args s mcT msT (va_A w s.heap.size)) (F0 m 63 ls [.int t0, .ref q])
def At_md_byteAt_j13 (l : Launch) (G : va_G) (cI cL cZ cB : ClassId) (q : Nat) (w : va_W) (p : Program) (e : Env) (s : State) (m : MethodId) (args : Array Value) (below : List Frame) (meth : Method) (c : Code) (O0 : Ms × Int32) (mcT msT : Nat) (F : Int32 → Int32 → Int32 → Ms → Option (Ms × Int32)) : Prop := ∀ (A : Nat → Nat) (z : Ms) (x1 : Int32) (x2 : Int32) (t0 : Int32) (H : Heap) (locs : List Loc) (ls : Array Slot) (cells slots : Nat), va_P G vwCl (mw cI cL cZ cB q A z) H → va_D (va_A w s.heap.size) (mw cI cL cZ cB q A z) → va_S (va_A w s.heap.size) s.heap H locs → lv_has ls 3 [(0, .ref q), (1, .int x1), (2, .int x2)] → F x1 x2 t0 z = some O0 → cells + 0 ≤ mcT → slots + 0 ≤ msT → W p l e { frames := 2, cells := mcT, slots := msT, locals := 43 } s m args below meth c H locs cells slots (MQ below (qWi G vwCl (mt cI cL cZ cB) w s.heap.size (mw cI cL cZ cB q) O0) args s mcT msT (va_A w s.heap.size)) (F0 m 13 ls [.int t0, .ref q])
set_option maxHeartbeats 4000000 in
set_option maxRecDepth 100000 in
theorem L_md_byteAt_j63 (l : Launch) (G : va_G) (cI cL cZ cB : ClassId) (q : Nat) (w : va_W) (p : Program) (e : Env) (s : State) (m : MethodId) (args : Array Value) (below : List Frame) (meth : Method) (c : Code) (O0 : Ms × Int32) (mcT msT : Nat) (C : MC p s m args meth c cX4_byteAt 3 (some .int) RX4 vX4_byteAt) (hK : va_K G vwCl (mt cI cL cZ cB) s) : At_md_byteAt_j63 l G cI cL cZ cB q w p e s m args below meth c O0 mcT msT md_byteAt_j63 := by
  obtain ⟨hx, hb, hr, hml, hown, hts, hlocks⟩ := id C
  have FX : CallFix p m c cX4_byteAt 3 s args vX4_byteAt RX4 := ⟨hx, hb, hml, hown, hts⟩
  have hA : ∀ q9 : Nat, s.heap.size ≤ q9 → va_A w s.heap.size q9 := fun q9 h => Or.inr h
  intro A z x1 x2 t0 H locs ls cells slots hP hD hS hl hf hcc hss
  unfold md_byteAt_j63 at hf
  refine va_put (D := G) (ci := 4) (v := .int t0) (ty := .int) (C := RX4) (T := TX4) (N := 32) hx hb hts (fun w h => .tail _ (wl_X4 w h)) tyX4 tyX4_ok nmX4 hown hK hP hD hS 0 rfl rfl 0 (by decide) (hts _ (.tail _ wm_0)) (fun _ h9 => h9) rfl (by decide +kernel) rfl rfl (Nat.le_of_ble_eq_true rfl) dX4_byteAt_63 (fun H locs hP hD hS => ?_)
  have hP : va_P G vwCl (mw cI cL cZ cB q A (Ms.sthr z t0)) H := hP
  have hD : va_D _ (mw cI cL cZ cB q A (Ms.sthr z t0)) := hD
  refine lv_aload_n hx hb dX4_byteAt_66 rfl (lv_at hl 0 rfl) ?_
  refine va_get (D := G) (ci := 4) (v := .int t0) (C := RX4) (T := TX4) (N := 32) hx hb hts (fun w h => .tail _ (wl_X4 w h)) hown hK hP 0 rfl rfl 0 (by decide) (hts _ (.tail _ wm_0)) (fun _ h9 => h9) rfl dX4_byteAt_67 ?_
  refine lv_if_le (tgt := 77) hx hb dX4_byteAt_70 (by decide) (fun c10 => ?_) (fun c10 => ?_)
  · have hf := (if_pos c10).symm.trans hf
    refine lv_aload_n hx hb dX4_byteAt_77 rfl (lv_at hl 0 rfl) ?_
    refine lv_aload_n hx hb dX4_byteAt_78 rfl (lv_at hl 0 rfl) ?_
    refine va_get (D := G) (ci := 4) (v := .ref (A 1)) (C := RX4) (T := TX4) (N := 32) hx hb hts (fun w h => .tail _ (wl_X4 w h)) hown hK hP 0 rfl rfl 7 (by decide) (hts _ (.tail _ wm_1)) (fun _ h9 => h9) rfl dX4_byteAt_79 ?_
    refine lv_iload_n hx hb dX4_byteAt_82 rfl (lv_at hl 1 rfl) ?_
    obtain ⟨hg11, hf⟩ := of_gd hf
    refine va_iald (f := (Ms.atg z)) (n := (Ms.ntg z)) hx hb hK hP 1 0 rfl rfl (inb_in hg11) dX4_byteAt_83 ?_
    refine lv_iload_n hx hb dX4_byteAt_84 rfl (lv_at hl 2 rfl) ?_
    obtain ⟨r12, ho12, hf⟩ := of_b0 hf
    refine gcRi (gV FX [.int ((Ms.atg z) x1.toNatClampNeg), .int x2] (c_md_byteOf l G cI cL cZ cB q A (Ms.sthr z t0) _ ((Ms.atg z) x1.toNatClampNeg) x2 _ ho12) (cwV 2 hts (gi_V wm_114 wm_115 wm_116 wm_6 wm_117) rfl rfl rfl hdV_X4_byteOf ⟨Nat.le_of_ble_eq_true rfl, Nat.le_of_ble_eq_true rfl⟩) hK hP hD 0 rfl rfl rfl hl.1 (Nat.le_of_ble_eq_true rfl) dX4_byteAt_85 ⟨by show _ ≤ mcT; omega, by show _ ≤ msT; omega⟩) hS hD hA (fun H locs hP hS => ?_)
    obtain rfl := Option.some.inj hf
    exact grWi hx hb hr hlocks hP hK hD hS dX4_byteAt_88 (by omega) (by omega)
  · have hf := (if_neg c10).symm.trans hf
    refine lv_iconst (v := 0) hx hb dX4_byteAt_73 (by decide) ?_
    refine lv_goto (tgt := 88) hx hb dX4_byteAt_74 (by decide) ?_
    obtain rfl := Option.some.inj hf
    exact grWi hx hb hr hlocks hP hK hD hS dX4_byteAt_88 (by omega) (by omega)
set_option maxHeartbeats 4000000 in
set_option maxRecDepth 100000 in
theorem L_md_byteAt_j13 (l : Launch) (G : va_G) (cI cL cZ cB : ClassId) (q : Nat) (w : va_W) (p : Program) (e : Env) (s : State) (m : MethodId) (args : Array Value) (below : List Frame) (meth : Method) (c : Code) (O0 : Ms × Int32) (mcT msT : Nat) (C : MC p s m args meth c cX4_byteAt 3 (some .int) RX4 vX4_byteAt) (hK : va_K G vwCl (mt cI cL cZ cB) s) : At_md_byteAt_j13 l G cI cL cZ cB q w p e s m args below meth c O0 mcT msT md_byteAt_j13 := by
  obtain ⟨hx, hb, hr, hml, hown, hts, hlocks⟩ := id C
  have FX : CallFix p m c cX4_byteAt 3 s args vX4_byteAt RX4 := ⟨hx, hb, hml, hown, hts⟩
  have hA : ∀ q9 : Nat, s.heap.size ≤ q9 → va_A w s.heap.size q9 := fun q9 h => Or.inr h
  intro A z x1 x2 t0 H locs ls cells slots hP hD hS hl hf hcc hss
  unfold md_byteAt_j13 at hf
  refine va_put (D := G) (ci := 4) (v := .int t0) (ty := .int) (C := RX4) (T := TX4) (N := 32) hx hb hts (fun w h => .tail _ (wl_X4 w h)) tyX4 tyX4_ok nmX4 hown hK hP hD hS 0 rfl rfl 0 (by decide) (hts _ (.tail _ wm_0)) (fun _ h9 => h9) rfl (by decide +kernel) rfl rfl (Nat.le_of_ble_eq_true rfl) dX4_byteAt_13 (fun H locs hP hD hS => ?_)
  have hP : va_P G vwCl (mw cI cL cZ cB q A (Ms.sthr z t0)) H := hP
  have hD : va_D _ (mw cI cL cZ cB q A (Ms.sthr z t0)) := hD
  refine lv_aload_n hx hb dX4_byteAt_16 rfl (lv_at hl 0 rfl) ?_
  refine va_get (D := G) (ci := 4) (v := .int t0) (C := RX4) (T := TX4) (N := 32) hx hb hts (fun w h => .tail _ (wl_X4 w h)) hown hK hP 0 rfl rfl 0 (by decide) (hts _ (.tail _ wm_0)) (fun _ h9 => h9) rfl dX4_byteAt_17 ?_
  refine lv_if_le (tgt := 25) hx hb dX4_byteAt_20 (by decide) (fun c3 => ?_) (fun c3 => ?_)
  · have hf := (if_pos c3).symm.trans hf
    refine lv_aload_n hx hb dX4_byteAt_25 rfl (lv_at hl 0 rfl) ?_
    refine lv_aload_n hx hb dX4_byteAt_26 rfl (lv_at hl 0 rfl) ?_
    refine lv_iload_n hx hb dX4_byteAt_27 rfl (lv_at hl 1 rfl) ?_
    obtain ⟨r4, ho4, hf⟩ := of_b0 hf
    refine gcRi (gV FX [.int x1] (c_md_isText l G cI cL cZ cB q A (Ms.sthr z t0) _ x1 _ ho4) (cwV 1 hts (gi_V wm_110 wm_111 wm_112 wm_6 wm_113) rfl rfl rfl hdV_X4_isText ⟨Nat.le_of_ble_eq_true rfl, Nat.le_of_ble_eq_true rfl⟩) hK hP hD 0 rfl rfl rfl hl.1 (Nat.le_of_ble_eq_true rfl) dX4_byteAt_28 ⟨by show _ ≤ mcT; omega, by show _ ≤ msT; omega⟩) hS hD hA (fun H locs hP hS => ?_)
    refine lv_if_ne (tgt := 38) hx hb dX4_byteAt_31 (by decide) (fun c5 => ?_) (fun c5 => ?_)
    · have hf := (if_neg c5).symm.trans hf
      refine lv_iload_n hx hb dX4_byteAt_38 rfl (lv_at hl 2 rfl) ?_
      refine lv_iconst (v := 0) hx hb dX4_byteAt_39 (by decide) ?_
      refine lv_aload_n hx hb dX4_byteAt_40 rfl (lv_at hl 0 rfl) ?_
      refine lv_aload_n hx hb dX4_byteAt_41 rfl (lv_at hl 0 rfl) ?_
      refine va_get (D := G) (ci := 4) (v := .ref (A 1)) (C := RX4) (T := TX4) (N := 32) hx hb hts (fun w h => .tail _ (wl_X4 w h)) hown hK hP 0 rfl rfl 7 (by decide) (hts _ (.tail _ wm_1)) (fun _ h9 => h9) rfl dX4_byteAt_42 ?_
      refine lv_iload_n hx hb dX4_byteAt_45 rfl (lv_at hl 1 rfl) ?_
      obtain ⟨hg6, hf⟩ := of_gd hf
      refine va_iald (f := (Ms.atg z)) (n := (Ms.ntg z)) hx hb hK hP 1 0 rfl rfl (inb_in hg6) dX4_byteAt_46 ?_
      obtain ⟨r7, ho7, hf⟩ := of_b0 hf
      refine gcRi (gV FX [.int ((Ms.atg z) x1.toNatClampNeg)] (c_md_bytesOf l G cI cL cZ cB q A (Ms.sthr z t0) _ ((Ms.atg z) x1.toNatClampNeg) _ ho7) (cwV 1 hts (gi_V wm_106 wm_107 wm_108 wm_6 wm_109) rfl rfl rfl hdV_X4_bytesOf ⟨Nat.le_of_ble_eq_true rfl, Nat.le_of_ble_eq_true rfl⟩) hK hP hD 0 rfl rfl rfl hl.1 (Nat.le_of_ble_eq_true rfl) dX4_byteAt_47 ⟨by show _ ≤ mcT; omega, by show _ ≤ msT; omega⟩) hS hD hA (fun H locs hP hS => ?_)
      refine lv_iconst (v := 1) hx hb dX4_byteAt_50 (by decide) ?_
      refine lv_isub hx hb dX4_byteAt_51 ?_
      obtain ⟨r8, ho8, hf⟩ := of_b0 hf
      refine gcRi (gS FX [.int x2, .int 0, .int (r7 - 1)] (c_md_outside l G cI cL cZ cB q A (Ms.sthr z t0) _ x2 0 (r7 - 1) _ ho8) (cwS 3 hts (gi_S wm_89 wm_90 wm_6 wm_91) rfl rfl rfl hdS_X4_outside ⟨Nat.le_of_ble_eq_true rfl, Nat.le_of_ble_eq_true rfl⟩) hK hP hD rfl hl.1 (Nat.le_of_ble_eq_true rfl) dX4_byteAt_52 ⟨by show _ ≤ mcT; omega, by show _ ≤ msT; omega⟩) hS hD hA (fun H locs hP hS => ?_)
      refine lv_if_eq (tgt := 62) hx hb dX4_byteAt_55 (by decide) (fun c9 => ?_) (fun c9 => ?_)
      · have hf := (if_pos c9).symm.trans hf
        refine lv_iconst (v := 0) hx hb dX4_byteAt_62 (by decide) ?_
        exact L_md_byteAt_j63 _ _ _ _ _ _ _ _ _ _ _ _ _ _ _ _ _ _ _ C hK _ _ _ _ _ _ _ _ _ _ hP hD hS (lv_sub hl [0, 1, 2] rfl) hf (by omega) (by omega)
      · have hf := (if_neg c9).symm.trans hf
        refine lv_iconst (v := 3) hx hb dX4_byteAt_58 (by decide) ?_
        refine lv_goto (tgt := 63) hx hb dX4_byteAt_59 (by decide) ?_
        exact L_md_byteAt_j63 _ _ _ _ _ _ _ _ _ _ _ _ _ _ _ _ _ _ _ C hK _ _ _ _ _ _ _ _ _ _ hP hD hS (lv_sub hl [0, 1, 2] rfl) hf (by omega) (by omega)
    · have hf := (if_pos c5).symm.trans hf
      refine lv_iconst (v := 2) hx hb dX4_byteAt_34 (by decide) ?_
      refine lv_goto (tgt := 63) hx hb dX4_byteAt_35 (by decide) ?_
      exact L_md_byteAt_j63 _ _ _ _ _ _ _ _ _ _ _ _ _ _ _ _ _ _ _ C hK _ _ _ _ _ _ _ _ _ _ hP hD hS (lv_sub hl [0, 1, 2] rfl) hf (by omega) (by omega)
  · have hf := (if_neg c3).symm.trans hf
    refine lv_iconst (v := 0) hx hb dX4_byteAt_23 (by decide) ?_
    obtain rfl := Option.some.inj hf
    exact grWi hx hb hr hlocks hP hK hD hS dX4_byteAt_24 (by omega) (by omega)
set_option maxHeartbeats 4000000 in
set_option maxRecDepth 100000 in
theorem c_md_byteAt (l : Launch) (G : va_G) (cI cL cZ cB : ClassId) (q : Nat) (A : Nat → Nat) (z : Ms) (sz : Nat) (p0 : Int32) (p1 : Int32) (O0 : Ms × Int32) (hf : md_byteAt z p0 p1 = some O0) : Met l yX4_byteAt vX4_byteAt { frames := 2, cells := 0, slots := 0, locals := 43 } (gPc G vwCl (mt cI cL cZ cB) [.ref q, .int p0, .int p1] (mw cI cL cZ cB q A z) sz) (qWi G vwCl (mt cI cL cZ cB) (mw cI cL cZ cB q A z) sz (mw cI cL cZ cB q) O0) 0 0 (va_A (mw cI cL cZ cB q A z) sz) := by
  refine gMet (by decide) rfl (Nat.le_of_ble_eq_true rfl) ?_
  intro p e s m below meth c ls C hK hP hD hsz hl
  subst hsz
  obtain ⟨hx, hb, hr, hml, hown, hts, hlocks⟩ := id C
  have FX : CallFix p m c cX4_byteAt 3 s _ vX4_byteAt RX4 := ⟨hx, hb, hml, hown, hts⟩
  have hA : ∀ q9 : Nat, s.heap.size ≤ q9 → va_A (mw cI cL cZ cB q A z) s.heap.size q9 := fun q9 h => Or.inr h
  have hS : va_S (va_A (mw cI cL cZ cB q A z) s.heap.size) s.heap s.heap [] := va_S.rf
  have hl : lv_has ls 3 [(0, .ref q), (1, .int p0), (2, .int p1)] := hl
  unfold md_byteAt at hf
  refine lv_aload_n hx hb dX4_byteAt_0 rfl (lv_at hl 0 rfl) ?_
  refine lv_iload_n hx hb dX4_byteAt_1 rfl (lv_at hl 1 rfl) ?_
  obtain ⟨r1, ho1, hf⟩ := of_b0 hf
  refine gcRi (gS FX [.int p0] (c_md_isRegister l G cI cL cZ cB q A z _ p0 _ ho1) (cwS 1 hts (gi_S wm_79 wm_80 wm_6 wm_81) rfl rfl rfl hdS_X4_isRegister ⟨Nat.le_of_ble_eq_true rfl, Nat.le_of_ble_eq_true rfl⟩) hK hP hD rfl hl.1 (Nat.le_of_ble_eq_true rfl) dX4_byteAt_2 ⟨by show _ ≤ 0; omega, by show _ ≤ 0; omega⟩) hS hD hA (fun H locs hP hS => ?_)
  refine lv_if_eq (tgt := 12) hx hb dX4_byteAt_5 (by decide) (fun c2 => ?_) (fun c2 => ?_)
  · have hf := (if_pos c2).symm.trans hf
    refine lv_iconst (v := 1) hx hb dX4_byteAt_12 (by decide) ?_
    exact L_md_byteAt_j13 _ _ _ _ _ _ _ _ _ _ _ _ _ _ _ _ _ _ _ C hK _ _ _ _ _ _ _ _ _ _ hP hD hS (lv_sub hl [0, 1, 2] rfl) hf (by omega) (by omega)
  · have hf := (if_neg c2).symm.trans hf
    refine lv_iconst (v := 0) hx hb dX4_byteAt_8 (by decide) ?_
    refine lv_goto (tgt := 13) hx hb dX4_byteAt_9 (by decide) ?_
    exact L_md_byteAt_j13 _ _ _ _ _ _ _ _ _ _ _ _ _ _ _ _ _ _ _ C hK _ _ _ _ _ _ _ _ _ _ hP hD hS (lv_sub hl [0, 1, 2] rfl) hf (by omega) (by omega)
def At_md_setByte_j85 (l : Launch) (G : va_G) (cI cL cZ cB : ClassId) (q : Nat) (w : va_W) (p : Program) (e : Env) (s : State) (m : MethodId) (args : Array Value) (below : List Frame) (meth : Method) (c : Code) (O0 : Ms × Unit) (mcT msT : Nat) (F : Int32 → Int32 → Int32 → Int32 → Ms → Option (Ms × Unit)) : Prop := ∀ (A : Nat → Nat) (z : Ms) (x1 : Int32) (x2 : Int32) (x3 : Int32) (t0 : Int32) (H : Heap) (locs : List Loc) (ls : Array Slot) (cells slots : Nat), va_P G vwCl (mw cI cL cZ cB q A z) H → va_D (va_A w s.heap.size) (mw cI cL cZ cB q A z) → va_S (va_A w s.heap.size) s.heap H locs → lv_has ls 4 [(0, .ref q), (1, .int x1), (2, .int x2), (3, .int x3)] → F x1 x2 x3 t0 z = some O0 → cells + 0 ≤ mcT → slots + 0 ≤ msT → W p l e { frames := 2, cells := mcT, slots := msT, locals := 43 } s m args below meth c H locs cells slots (MQ below (qWv G vwCl (mt cI cL cZ cB) w s.heap.size (mw cI cL cZ cB q) O0) args s mcT msT (va_A w s.heap.size)) (F0 m 85 ls [.int t0, .ref q])
def At_md_setByte_j60 (l : Launch) (G : va_G) (cI cL cZ cB : ClassId) (q : Nat) (w : va_W) (p : Program) (e : Env) (s : State) (m : MethodId) (args : Array Value) (below : List Frame) (meth : Method) (c : Code) (O0 : Ms × Unit) (mcT msT : Nat) (F : Int32 → Int32 → Int32 → Ms → Option (Ms × Unit)) : Prop := ∀ (A : Nat → Nat) (z : Ms) (x1 : Int32) (x2 : Int32) (x3 : Int32) (H : Heap) (locs : List Loc) (ls : Array Slot) (cells slots : Nat), va_P G vwCl (mw cI cL cZ cB q A z) H → va_D (va_A w s.heap.size) (mw cI cL cZ cB q A z) → va_S (va_A w s.heap.size) s.heap H locs → lv_has ls 4 [(0, .ref q), (1, .int x1), (2, .int x2), (3, .int x3)] → F x1 x2 x3 z = some O0 → cells + 0 ≤ mcT → slots + 0 ≤ msT → W p l e { frames := 2, cells := mcT, slots := msT, locals := 43 } s m args below meth c H locs cells slots (MQ below (qWv G vwCl (mt cI cL cZ cB) w s.heap.size (mw cI cL cZ cB q) O0) args s mcT msT (va_A w s.heap.size)) (F0 m 60 ls [.ref q])
def At_md_setByte_j56 (l : Launch) (G : va_G) (cI cL cZ cB : ClassId) (q : Nat) (w : va_W) (p : Program) (e : Env) (s : State) (m : MethodId) (args : Array Value) (below : List Frame) (meth : Method) (c : Code) (O0 : Ms × Unit) (mcT msT : Nat) (F : Int32 → Int32 → Int32 → Ms → Option (Ms × Unit)) : Prop := ∀ (A : Nat → Nat) (z : Ms) (x1 : Int32) (x2 : Int32) (x3 : Int32) (H : Heap) (locs : List Loc) (ls : Array Slot) (cells slots : Nat), va_P G vwCl (mw cI cL cZ cB q A z) H → va_D (va_A w s.heap.size) (mw cI cL cZ cB q A z) → va_S (va_A w s.heap.size) s.heap H locs → lv_has ls 4 [(0, .ref q), (1, .int x1), (2, .int x2), (3, .int x3)] → F x1 x2 x3 z = some O0 → cells + 0 ≤ mcT → slots + 0 ≤ msT → W p l e { frames := 2, cells := mcT, slots := msT, locals := 43 } s m args below meth c H locs cells slots (MQ below (qWv G vwCl (mt cI cL cZ cB) w s.heap.size (mw cI cL cZ cB q) O0) args s mcT msT (va_A w s.heap.size)) (F0 m 56 ls [.ref q])
def At_md_setByte_j13 (l : Launch) (G : va_G) (cI cL cZ cB : ClassId) (q : Nat) (w : va_W) (p : Program) (e : Env) (s : State) (m : MethodId) (args : Array Value) (below : List Frame) (meth : Method) (c : Code) (O0 : Ms × Unit) (mcT msT : Nat) (F : Int32 → Int32 → Int32 → Int32 → Ms → Option (Ms × Unit)) : Prop := ∀ (A : Nat → Nat) (z : Ms) (x1 : Int32) (x2 : Int32) (x3 : Int32) (t0 : Int32) (H : Heap) (locs : List Loc) (ls : Array Slot) (cells slots : Nat), va_P G vwCl (mw cI cL cZ cB q A z) H → va_D (va_A w s.heap.size) (mw cI cL cZ cB q A z) → va_S (va_A w s.heap.size) s.heap H locs → lv_has ls 4 [(0, .ref q), (1, .int x1), (2, .int x2), (3, .int x3)] → F x1 x2 x3 t0 z = some O0 → cells + 0 ≤ mcT → slots + 0 ≤ msT → W p l e { frames := 2, cells := mcT, slots := msT, locals := 43 } s m args below meth c H locs cells slots (MQ below (qWv G vwCl (mt cI cL cZ cB) w s.heap.size (mw cI cL cZ cB q) O0) args s mcT msT (va_A w s.heap.size)) (F0 m 13 ls [.int t0, .ref q])
set_option maxHeartbeats 4000000 in
set_option maxRecDepth 100000 in
theorem L_md_setByte_j85 (l : Launch) (G : va_G) (cI cL cZ cB : ClassId) (q : Nat) (w : va_W) (p : Program) (e : Env) (s : State) (m : MethodId) (args : Array Value) (below : List Frame) (meth : Method) (c : Code) (O0 : Ms × Unit) (mcT msT : Nat) (C : MC p s m args meth c cX4_setByte 4 (none) RX4 vX4_setByte) (hK : va_K G vwCl (mt cI cL cZ cB) s) : At_md_setByte_j85 l G cI cL cZ cB q w p e s m args below meth c O0 mcT msT md_setByte_j85 := by
  obtain ⟨hx, hb, hr, hml, hown, hts, hlocks⟩ := id C
  have FX : CallFix p m c cX4_setByte 4 s args vX4_setByte RX4 := ⟨hx, hb, hml, hown, hts⟩
  have hA : ∀ q9 : Nat, s.heap.size ≤ q9 → va_A w s.heap.size q9 := fun q9 h => Or.inr h
  intro A z x1 x2 x3 t0 H locs ls cells slots hP hD hS hl hf hcc hss
  unfold md_setByte_j85 at hf
  refine va_put (D := G) (ci := 4) (v := .int t0) (ty := .int) (C := RX4) (T := TX4) (N := 32) hx hb hts (fun w h => .tail _ (wl_X4 w h)) tyX4 tyX4_ok nmX4 hown hK hP hD hS 0 rfl rfl 0 (by decide) (hts _ (.tail _ wm_0)) (fun _ h9 => h9) rfl (by decide +kernel) rfl rfl (Nat.le_of_ble_eq_true rfl) dX4_setByte_85 (fun H locs hP hD hS => ?_)
  have hP : va_P G vwCl (mw cI cL cZ cB q A (Ms.sthr z t0)) H := hP
  have hD : va_D _ (mw cI cL cZ cB q A (Ms.sthr z t0)) := hD
  refine lv_aload_n hx hb dX4_setByte_88 rfl (lv_at hl 0 rfl) ?_
  refine va_get (D := G) (ci := 4) (v := .int t0) (C := RX4) (T := TX4) (N := 32) hx hb hts (fun w h => .tail _ (wl_X4 w h)) hown hK hP 0 rfl rfl 0 (by decide) (hts _ (.tail _ wm_0)) (fun _ h9 => h9) rfl dX4_setByte_89 ?_
  refine lv_if_ne (tgt := 115) hx hb dX4_setByte_92 (by decide) (fun c15 => ?_) (fun c15 => ?_)
  · have hf := (if_neg c15).symm.trans hf
    obtain rfl := Option.some.inj hf
    exact grWv hx hb hr hlocks hP hK hD hS dX4_setByte_115 (by omega) (by omega)
  · have hf := (if_pos c15).symm.trans hf
    refine lv_aload_n hx hb dX4_setByte_95 rfl (lv_at hl 0 rfl) ?_
    refine va_get (D := G) (ci := 4) (v := .ref (A 17)) (C := RX4) (T := TX4) (N := 32) hx hb hts (fun w h => .tail _ (wl_X4 w h)) hown hK hP 0 rfl rfl 25 (by decide) (hts _ (.tail _ wm_38)) (fun _ h9 => h9) rfl dX4_setByte_96 ?_
    refine lv_aload_n hx hb dX4_setByte_99 rfl (lv_at hl 0 rfl) ?_
    refine va_get (D := G) (ci := 4) (v := .ref (A 5)) (C := RX4) (T := TX4) (N := 32) hx hb hts (fun w h => .tail _ (wl_X4 w h)) hown hK hP 0 rfl rfl 12 (by decide) (hts _ (.tail _ wm_27)) (fun _ h9 => h9) rfl dX4_setByte_100 ?_
    refine lv_aload_n hx hb dX4_setByte_103 rfl (lv_at hl 0 rfl) ?_
    refine va_get (D := G) (ci := 4) (v := .ref (A 1)) (C := RX4) (T := TX4) (N := 32) hx hb hts (fun w h => .tail _ (wl_X4 w h)) hown hK hP 0 rfl rfl 7 (by decide) (hts _ (.tail _ wm_1)) (fun _ h9 => h9) rfl dX4_setByte_104 ?_
    refine lv_iload_n hx hb dX4_setByte_107 rfl (lv_at hl 1 rfl) ?_
    obtain ⟨hg16, hf⟩ := of_gd hf
    refine va_iald (f := (Ms.atg z)) (n := (Ms.ntg z)) hx hb hK hP 1 0 rfl rfl (inb_in hg16) dX4_setByte_108 ?_
    obtain ⟨hg17, hf⟩ := of_gd hf
    refine va_iald (f := (Ms.asr z)) (n := (Ms.nsr z)) hx hb hK hP 5 0 rfl rfl (inb_in hg17) dX4_setByte_109 ?_
    refine lv_iload_n hx hb dX4_setByte_110 rfl (lv_at hl 2 rfl) ?_
    refine lv_iadd hx hb dX4_setByte_111 ?_
    refine lv_iload_n hx hb dX4_setByte_112 rfl (lv_at hl 3 rfl) ?_
    refine lv_i2b hx hb dX4_setByte_113 rfl ?_
    obtain ⟨hg18, hf⟩ := of_gd hf
    refine va_bast (f := (Ms.aby z)) (n := (Ms.nby z)) hx hb hK hP hD hS 17 3 rfl rfl (inb_in hg18) dX4_setByte_114 (fun H locs hP hD hS => ?_)
    have hP : va_P G vwCl (mw cI cL cZ cB q A (Ms.wby (Ms.sthr z t0) (upd (Ms.aby z) ((((Ms.asr z) ((Ms.atg z) x1.toNatClampNeg).toNatClampNeg) + x2).toNatClampNeg) (vp_nar .byte (x3.toInt8.toInt32))))) H := hP
    have hD : va_D _ (mw cI cL cZ cB q A (Ms.wby (Ms.sthr z t0) (upd (Ms.aby z) ((((Ms.asr z) ((Ms.atg z) x1.toNatClampNeg).toNatClampNeg) + x2).toNatClampNeg) (vp_nar .byte (x3.toInt8.toInt32))))) := hD
    obtain rfl := Option.some.inj hf
    exact grWv hx hb hr hlocks hP hK hD hS dX4_setByte_115 (by omega) (by omega)
set_option maxHeartbeats 4000000 in
set_option maxRecDepth 100000 in
theorem L_md_setByte_j60 (l : Launch) (G : va_G) (cI cL cZ cB : ClassId) (q : Nat) (w : va_W) (p : Program) (e : Env) (s : State) (m : MethodId) (args : Array Value) (below : List Frame) (meth : Method) (c : Code) (O0 : Ms × Unit) (mcT msT : Nat) (C : MC p s m args meth c cX4_setByte 4 (none) RX4 vX4_setByte) (hK : va_K G vwCl (mt cI cL cZ cB) s) : At_md_setByte_j60 l G cI cL cZ cB q w p e s m args below meth c O0 mcT msT md_setByte_j60 := by
  obtain ⟨hx, hb, hr, hml, hown, hts, hlocks⟩ := id C
  have FX : CallFix p m c cX4_setByte 4 s args vX4_setByte RX4 := ⟨hx, hb, hml, hown, hts⟩
  have hA : ∀ q9 : Nat, s.heap.size ≤ q9 → va_A w s.heap.size q9 := fun q9 h => Or.inr h
  intro A z x1 x2 x3 H locs ls cells slots hP hD hS hl hf hcc hss
  unfold md_setByte_j60 at hf
  refine lv_iload_n hx hb dX4_setByte_60 rfl (lv_at hl 2 rfl) ?_
  refine lv_iconst (v := 0) hx hb dX4_setByte_61 (by decide) ?_
  refine lv_aload_n hx hb dX4_setByte_62 rfl (lv_at hl 0 rfl) ?_
  refine lv_aload_n hx hb dX4_setByte_63 rfl (lv_at hl 0 rfl) ?_
  refine va_get (D := G) (ci := 4) (v := .ref (A 1)) (C := RX4) (T := TX4) (N := 32) hx hb hts (fun w h => .tail _ (wl_X4 w h)) hown hK hP 0 rfl rfl 7 (by decide) (hts _ (.tail _ wm_1)) (fun _ h9 => h9) rfl dX4_setByte_64 ?_
  refine lv_iload_n hx hb dX4_setByte_67 rfl (lv_at hl 1 rfl) ?_
  obtain ⟨hg11, hf⟩ := of_gd hf
  refine va_iald (f := (Ms.atg z)) (n := (Ms.ntg z)) hx hb hK hP 1 0 rfl rfl (inb_in hg11) dX4_setByte_68 ?_
  obtain ⟨r12, ho12, hf⟩ := of_b0 hf
  refine gcRi (gV FX [.int ((Ms.atg z) x1.toNatClampNeg)] (c_md_bytesOf l G cI cL cZ cB q A z _ ((Ms.atg z) x1.toNatClampNeg) _ ho12) (cwV 1 hts (gi_V wm_106 wm_107 wm_108 wm_6 wm_109) rfl rfl rfl hdV_X4_bytesOf ⟨Nat.le_of_ble_eq_true rfl, Nat.le_of_ble_eq_true rfl⟩) hK hP hD 0 rfl rfl rfl hl.1 (Nat.le_of_ble_eq_true rfl) dX4_setByte_69 ⟨by show _ ≤ mcT; omega, by show _ ≤ msT; omega⟩) hS hD hA (fun H locs hP hS => ?_)
  refine lv_iconst (v := 1) hx hb dX4_setByte_72 (by decide) ?_
  refine lv_isub hx hb dX4_setByte_73 ?_
  obtain ⟨r13, ho13, hf⟩ := of_b0 hf
  refine gcRi (gS FX [.int x2, .int 0, .int (r12 - 1)] (c_md_outside l G cI cL cZ cB q A z _ x2 0 (r12 - 1) _ ho13) (cwS 3 hts (gi_S wm_89 wm_90 wm_6 wm_91) rfl rfl rfl hdS_X4_outside ⟨Nat.le_of_ble_eq_true rfl, Nat.le_of_ble_eq_true rfl⟩) hK hP hD rfl hl.1 (Nat.le_of_ble_eq_true rfl) dX4_setByte_74 ⟨by show _ ≤ mcT; omega, by show _ ≤ msT; omega⟩) hS hD hA (fun H locs hP hS => ?_)
  refine lv_if_eq (tgt := 84) hx hb dX4_setByte_77 (by decide) (fun c14 => ?_) (fun c14 => ?_)
  · have hf := (if_pos c14).symm.trans hf
    refine lv_iconst (v := 0) hx hb dX4_setByte_84 (by decide) ?_
    exact L_md_setByte_j85 _ _ _ _ _ _ _ _ _ _ _ _ _ _ _ _ _ _ _ C hK _ _ _ _ _ _ _ _ _ _ _ hP hD hS (lv_sub hl [0, 1, 2, 3] rfl) hf (by omega) (by omega)
  · have hf := (if_neg c14).symm.trans hf
    refine lv_iconst (v := 3) hx hb dX4_setByte_80 (by decide) ?_
    refine lv_goto (tgt := 85) hx hb dX4_setByte_81 (by decide) ?_
    exact L_md_setByte_j85 _ _ _ _ _ _ _ _ _ _ _ _ _ _ _ _ _ _ _ C hK _ _ _ _ _ _ _ _ _ _ _ hP hD hS (lv_sub hl [0, 1, 2, 3] rfl) hf (by omega) (by omega)
set_option maxHeartbeats 4000000 in
set_option maxRecDepth 100000 in
theorem L_md_setByte_j56 (l : Launch) (G : va_G) (cI cL cZ cB : ClassId) (q : Nat) (w : va_W) (p : Program) (e : Env) (s : State) (m : MethodId) (args : Array Value) (below : List Frame) (meth : Method) (c : Code) (O0 : Ms × Unit) (mcT msT : Nat) (C : MC p s m args meth c cX4_setByte 4 (none) RX4 vX4_setByte) (hK : va_K G vwCl (mt cI cL cZ cB) s) : At_md_setByte_j56 l G cI cL cZ cB q w p e s m args below meth c O0 mcT msT md_setByte_j56 := by
  obtain ⟨hx, hb, hr, hml, hown, hts, hlocks⟩ := id C
  have FX : CallFix p m c cX4_setByte 4 s args vX4_setByte RX4 := ⟨hx, hb, hml, hown, hts⟩
  have hA : ∀ q9 : Nat, s.heap.size ≤ q9 → va_A w s.heap.size q9 := fun q9 h => Or.inr h
  intro A z x1 x2 x3 H locs ls cells slots hP hD hS hl hf hcc hss
  unfold md_setByte_j56 at hf
  refine lv_iconst (v := 2) hx hb dX4_setByte_56 (by decide) ?_
  refine lv_goto (tgt := 85) hx hb dX4_setByte_57 (by decide) ?_
  exact L_md_setByte_j85 _ _ _ _ _ _ _ _ _ _ _ _ _ _ _ _ _ _ _ C hK _ _ _ _ _ _ _ _ _ _ _ hP hD hS (lv_sub hl [0, 1, 2, 3] rfl) hf (by omega) (by omega)
set_option maxHeartbeats 4000000 in
set_option maxRecDepth 100000 in
theorem L_md_setByte_j13 (l : Launch) (G : va_G) (cI cL cZ cB : ClassId) (q : Nat) (w : va_W) (p : Program) (e : Env) (s : State) (m : MethodId) (args : Array Value) (below : List Frame) (meth : Method) (c : Code) (O0 : Ms × Unit) (mcT msT : Nat) (C : MC p s m args meth c cX4_setByte 4 (none) RX4 vX4_setByte) (hK : va_K G vwCl (mt cI cL cZ cB) s) : At_md_setByte_j13 l G cI cL cZ cB q w p e s m args below meth c O0 mcT msT md_setByte_j13 := by
  obtain ⟨hx, hb, hr, hml, hown, hts, hlocks⟩ := id C
  have FX : CallFix p m c cX4_setByte 4 s args vX4_setByte RX4 := ⟨hx, hb, hml, hown, hts⟩
  have hA : ∀ q9 : Nat, s.heap.size ≤ q9 → va_A w s.heap.size q9 := fun q9 h => Or.inr h
  intro A z x1 x2 x3 t0 H locs ls cells slots hP hD hS hl hf hcc hss
  unfold md_setByte_j13 at hf
  refine va_put (D := G) (ci := 4) (v := .int t0) (ty := .int) (C := RX4) (T := TX4) (N := 32) hx hb hts (fun w h => .tail _ (wl_X4 w h)) tyX4 tyX4_ok nmX4 hown hK hP hD hS 0 rfl rfl 0 (by decide) (hts _ (.tail _ wm_0)) (fun _ h9 => h9) rfl (by decide +kernel) rfl rfl (Nat.le_of_ble_eq_true rfl) dX4_setByte_13 (fun H locs hP hD hS => ?_)
  have hP : va_P G vwCl (mw cI cL cZ cB q A (Ms.sthr z t0)) H := hP
  have hD : va_D _ (mw cI cL cZ cB q A (Ms.sthr z t0)) := hD
  refine lv_aload_n hx hb dX4_setByte_16 rfl (lv_at hl 0 rfl) ?_
  refine va_get (D := G) (ci := 4) (v := .int t0) (C := RX4) (T := TX4) (N := 32) hx hb hts (fun w h => .tail _ (wl_X4 w h)) hown hK hP 0 rfl rfl 0 (by decide) (hts _ (.tail _ wm_0)) (fun _ h9 => h9) rfl dX4_setByte_17 ?_
  refine lv_if_le (tgt := 24) hx hb dX4_setByte_20 (by decide) (fun c3 => ?_) (fun c3 => ?_)
  · have hf := (if_pos c3).symm.trans hf
    refine lv_aload_n hx hb dX4_setByte_24 rfl (lv_at hl 0 rfl) ?_
    refine lv_aload_n hx hb dX4_setByte_25 rfl (lv_at hl 0 rfl) ?_
    refine lv_iload_n hx hb dX4_setByte_26 rfl (lv_at hl 1 rfl) ?_
    obtain ⟨r4, ho4, hf⟩ := of_b0 hf
    refine gcRi (gV FX [.int x1] (c_md_isText l G cI cL cZ cB q A (Ms.sthr z t0) _ x1 _ ho4) (cwV 1 hts (gi_V wm_110 wm_111 wm_112 wm_6 wm_113) rfl rfl rfl hdV_X4_isText ⟨Nat.le_of_ble_eq_true rfl, Nat.le_of_ble_eq_true rfl⟩) hK hP hD 0 rfl rfl rfl hl.1 (Nat.le_of_ble_eq_true rfl) dX4_setByte_27 ⟨by show _ ≤ mcT; omega, by show _ ≤ msT; omega⟩) hS hD hA (fun H locs hP hS => ?_)
    refine lv_if_eq (tgt := 56) hx hb dX4_setByte_30 (by decide) (fun c5 => ?_) (fun c5 => ?_)
    · have hf := (if_pos c5).symm.trans hf
      exact L_md_setByte_j56 _ _ _ _ _ _ _ _ _ _ _ _ _ _ _ _ _ _ _ C hK _ _ _ _ _ _ _ _ _ _ hP hD hS (lv_sub hl [0, 1, 2, 3] rfl) hf (by omega) (by omega)
    · have hf := (if_neg c5).symm.trans hf
      refine lv_aload_n hx hb dX4_setByte_33 rfl (lv_at hl 0 rfl) ?_
      refine va_get (D := G) (ci := 4) (v := .ref (A 1)) (C := RX4) (T := TX4) (N := 32) hx hb hts (fun w h => .tail _ (wl_X4 w h)) hown hK hP 0 rfl rfl 7 (by decide) (hts _ (.tail _ wm_1)) (fun _ h9 => h9) rfl dX4_setByte_34 ?_
      refine lv_iload_n hx hb dX4_setByte_37 rfl (lv_at hl 1 rfl) ?_
      obtain ⟨hg6, hf⟩ := of_gd hf
      refine va_iald (f := (Ms.atg z)) (n := (Ms.ntg z)) hx hb hK hP 1 0 rfl rfl (inb_in hg6) dX4_setByte_38 ?_
      refine lv_if_le (tgt := 60) hx hb dX4_setByte_39 (by decide) (fun c7 => ?_) (fun c7 => ?_)
      · have hf := (if_pos c7).symm.trans hf
        exact L_md_setByte_j60 _ _ _ _ _ _ _ _ _ _ _ _ _ _ _ _ _ _ _ C hK _ _ _ _ _ _ _ _ _ _ hP hD hS (lv_sub hl [0, 1, 2, 3] rfl) hf (by omega) (by omega)
      · have hf := (if_neg c7).symm.trans hf
        refine lv_aload_n hx hb dX4_setByte_42 rfl (lv_at hl 0 rfl) ?_
        refine va_get (D := G) (ci := 4) (v := .ref (A 13)) (C := RX4) (T := TX4) (N := 32) hx hb hts (fun w h => .tail _ (wl_X4 w h)) hown hK hP 0 rfl rfl 20 (by decide) (hts _ (.tail _ wm_65)) (fun _ h9 => h9) rfl dX4_setByte_43 ?_
        refine lv_aload_n hx hb dX4_setByte_46 rfl (lv_at hl 0 rfl) ?_
        refine va_get (D := G) (ci := 4) (v := .ref (A 1)) (C := RX4) (T := TX4) (N := 32) hx hb hts (fun w h => .tail _ (wl_X4 w h)) hown hK hP 0 rfl rfl 7 (by decide) (hts _ (.tail _ wm_1)) (fun _ h9 => h9) rfl dX4_setByte_47 ?_
        refine lv_iload_n hx hb dX4_setByte_50 rfl (lv_at hl 1 rfl) ?_
        obtain ⟨hg8, hf⟩ := of_gd hf
        refine va_iald (f := (Ms.atg z)) (n := (Ms.ntg z)) hx hb hK hP 1 0 rfl rfl (inb_in hg8) dX4_setByte_51 ?_
        obtain ⟨hg9, hf⟩ := of_gd hf
        refine va_zald (f := (Ms.akp z)) (n := (Ms.nkp z)) hx hb hK hP 13 2 rfl rfl (inb_in hg9) dX4_setByte_52 ?_
        refine lv_if_eq (tgt := 60) hx hb dX4_setByte_53 (by decide) (fun c10 => ?_) (fun c10 => ?_)
        · have hf := (if_pos c10).symm.trans hf
          exact L_md_setByte_j60 _ _ _ _ _ _ _ _ _ _ _ _ _ _ _ _ _ _ _ C hK _ _ _ _ _ _ _ _ _ _ hP hD hS (lv_sub hl [0, 1, 2, 3] rfl) hf (by omega) (by omega)
        · have hf := (if_neg c10).symm.trans hf
          exact L_md_setByte_j56 _ _ _ _ _ _ _ _ _ _ _ _ _ _ _ _ _ _ _ C hK _ _ _ _ _ _ _ _ _ _ hP hD hS (lv_sub hl [0, 1, 2, 3] rfl) hf (by omega) (by omega)
  · have hf := (if_neg c3).symm.trans hf
    obtain rfl := Option.some.inj hf
    exact grWv hx hb hr hlocks hP hK hD hS dX4_setByte_23 (by omega) (by omega)
set_option maxHeartbeats 4000000 in
set_option maxRecDepth 100000 in
theorem c_md_setByte (l : Launch) (G : va_G) (cI cL cZ cB : ClassId) (q : Nat) (A : Nat → Nat) (z : Ms) (sz : Nat) (p0 : Int32) (p1 : Int32) (p2 : Int32) (O0 : Ms × Unit) (hf : md_setByte z p0 p1 p2 = some O0) : Met l yX4_setByte vX4_setByte { frames := 2, cells := 0, slots := 0, locals := 43 } (gPc G vwCl (mt cI cL cZ cB) [.ref q, .int p0, .int p1, .int p2] (mw cI cL cZ cB q A z) sz) (qWv G vwCl (mt cI cL cZ cB) (mw cI cL cZ cB q A z) sz (mw cI cL cZ cB q) O0) 0 0 (va_A (mw cI cL cZ cB q A z) sz) := by
  refine gMet (by decide) rfl (Nat.le_of_ble_eq_true rfl) ?_
  intro p e s m below meth c ls C hK hP hD hsz hl
  subst hsz
  obtain ⟨hx, hb, hr, hml, hown, hts, hlocks⟩ := id C
  have FX : CallFix p m c cX4_setByte 4 s _ vX4_setByte RX4 := ⟨hx, hb, hml, hown, hts⟩
  have hA : ∀ q9 : Nat, s.heap.size ≤ q9 → va_A (mw cI cL cZ cB q A z) s.heap.size q9 := fun q9 h => Or.inr h
  have hS : va_S (va_A (mw cI cL cZ cB q A z) s.heap.size) s.heap s.heap [] := va_S.rf
  have hl : lv_has ls 4 [(0, .ref q), (1, .int p0), (2, .int p1), (3, .int p2)] := hl
  unfold md_setByte at hf
  refine lv_aload_n hx hb dX4_setByte_0 rfl (lv_at hl 0 rfl) ?_
  refine lv_iload_n hx hb dX4_setByte_1 rfl (lv_at hl 1 rfl) ?_
  obtain ⟨r1, ho1, hf⟩ := of_b0 hf
  refine gcRi (gS FX [.int p0] (c_md_isRegister l G cI cL cZ cB q A z _ p0 _ ho1) (cwS 1 hts (gi_S wm_79 wm_80 wm_6 wm_81) rfl rfl rfl hdS_X4_isRegister ⟨Nat.le_of_ble_eq_true rfl, Nat.le_of_ble_eq_true rfl⟩) hK hP hD rfl hl.1 (Nat.le_of_ble_eq_true rfl) dX4_setByte_2 ⟨by show _ ≤ 0; omega, by show _ ≤ 0; omega⟩) hS hD hA (fun H locs hP hS => ?_)
  refine lv_if_eq (tgt := 12) hx hb dX4_setByte_5 (by decide) (fun c2 => ?_) (fun c2 => ?_)
  · have hf := (if_pos c2).symm.trans hf
    refine lv_iconst (v := 1) hx hb dX4_setByte_12 (by decide) ?_
    exact L_md_setByte_j13 _ _ _ _ _ _ _ _ _ _ _ _ _ _ _ _ _ _ _ C hK _ _ _ _ _ _ _ _ _ _ _ hP hD hS (lv_sub hl [0, 1, 2, 3] rfl) hf (by omega) (by omega)
  · have hf := (if_neg c2).symm.trans hf
    refine lv_iconst (v := 0) hx hb dX4_setByte_8 (by decide) ?_
    refine lv_goto (tgt := 13) hx hb dX4_setByte_9 (by decide) ?_
    exact L_md_setByte_j13 _ _ _ _ _ _ _ _ _ _ _ _ _ _ _ _ _ _ _ C hK _ _ _ _ _ _ _ _ _ _ _ hP hD hS (lv_sub hl [0, 1, 2, 3] rfl) hf (by omega) (by omega)
def At_md_hasWord_j41 (l : Launch) (G : va_G) (cI cL cZ cB : ClassId) (q : Nat) (A : Nat → Nat) (z : Ms) (p : Program) (e : Env) (s : State) (m : MethodId) (args : Array Value) (below : List Frame) (meth : Method) (c : Code) (O0 : Int32) (mcT msT : Nat) (F : Ms → Option (Int32)) : Prop := ∀ (_ : Unit) (H : Heap) (locs : List Loc) (ls : Array Slot) (cells slots : Nat), va_P G vwCl (mw cI cL cZ cB q A z) H → va_D (va_A (mw cI cL cZ cB q A z) s.heap.size) (mw cI cL cZ cB q A z) → va_S (va_A (mw cI cL cZ cB q A z) s.heap.size) s.heap H locs → lv_has ls 4 [] → F z = some O0 → cells + 0 ≤ mcT → slots + 0 ≤ msT → W p l e { frames := 0, cells := mcT, slots := msT, locals := 0 } s m args below meth c H locs cells slots (MQ below (qRi G vwCl (mt cI cL cZ cB) (mw cI cL cZ cB q A z) s.heap.size O0) args s mcT msT (va_A (mw cI cL cZ cB q A z) s.heap.size)) (F0 m 41 ls [])
set_option maxHeartbeats 4000000 in
set_option maxRecDepth 100000 in
theorem L_md_hasWord_j41 (l : Launch) (G : va_G) (cI cL cZ cB : ClassId) (q : Nat) (A : Nat → Nat) (z : Ms) (p : Program) (e : Env) (s : State) (m : MethodId) (args : Array Value) (below : List Frame) (meth : Method) (c : Code) (O0 : Int32) (mcT msT : Nat) (C : MC p s m args meth c cX4_hasWord 4 (some .boolean) RX4 vX4_hasWord) (hK : va_K G vwCl (mt cI cL cZ cB) s) : At_md_hasWord_j41 l G cI cL cZ cB q A z p e s m args below meth c O0 mcT msT md_hasWord_j41 := by
  obtain ⟨hx, hb, hr, hml, hown, hts, hlocks⟩ := id C
  have FX : CallFix p m c cX4_hasWord 4 s args vX4_hasWord RX4 := ⟨hx, hb, hml, hown, hts⟩
  have hA : ∀ q9 : Nat, s.heap.size ≤ q9 → va_A (mw cI cL cZ cB q A z) s.heap.size q9 := fun q9 h => Or.inr h
  intro _ H locs ls cells slots hP hD hS hl hf hcc hss
  unfold md_hasWord_j41 at hf
  refine lv_iconst (v := 0) hx hb dX4_hasWord_41 (by decide) ?_
  obtain rfl := Option.some.inj hf
  exact grRz (by decide) hx hb hr hlocks hP hK hD hS dX4_hasWord_42 (by omega) (by omega)
set_option maxHeartbeats 4000000 in
set_option maxRecDepth 100000 in
theorem c_md_hasWord (l : Launch) (G : va_G) (cI cL cZ cB : ClassId) (q : Nat) (A : Nat → Nat) (z : Ms) (sz : Nat) (p0 : Int32) (p1 : Int64) (O0 : Int32) (hf : md_hasWord z p0 p1 = some O0) : Met l yX4_hasWord vX4_hasWord { frames := 0, cells := 0, slots := 0, locals := 0 } (gPc G vwCl (mt cI cL cZ cB) [.ref q, .int p0, .long p1] (mw cI cL cZ cB q A z) sz) (qRi G vwCl (mt cI cL cZ cB) (mw cI cL cZ cB q A z) sz O0) 0 0 (va_A (mw cI cL cZ cB q A z) sz) := by
  refine gMet (by decide) rfl (Nat.le_of_ble_eq_true rfl) ?_
  intro p e s m below meth c ls C hK hP hD hsz hl
  subst hsz
  obtain ⟨hx, hb, hr, hml, hown, hts, hlocks⟩ := id C
  have FX : CallFix p m c cX4_hasWord 4 s _ vX4_hasWord RX4 := ⟨hx, hb, hml, hown, hts⟩
  have hA : ∀ q9 : Nat, s.heap.size ≤ q9 → va_A (mw cI cL cZ cB q A z) s.heap.size q9 := fun q9 h => Or.inr h
  have hS : va_S (va_A (mw cI cL cZ cB q A z) s.heap.size) s.heap s.heap [] := va_S.rf
  have hl : lv_has ls 4 [(0, .ref q), (1, .int p0), (2, .long p1)] := hl
  unfold md_hasWord at hf
  refine lv_aload_n hx hb dX4_hasWord_0 rfl (lv_at hl 0 rfl) ?_
  refine va_get (D := G) (ci := 4) (v := .ref (A 2)) (C := RX4) (T := TX4) (N := 32) hx hb hts (fun w h => .tail _ (wl_X4 w h)) hown hK hP 0 rfl rfl 8 (by decide) (hts _ (.tail _ wm_8)) (fun _ h9 => h9) rfl dX4_hasWord_1 ?_
  refine lv_iload_n hx hb dX4_hasWord_4 rfl (lv_at hl 1 rfl) ?_
  obtain ⟨hg1, hf⟩ := of_gd hf
  refine va_lald (f := (Ms.avl z)) (n := (Ms.nvl z)) hx hb hK hP 2 1 rfl rfl (inb_in hg1) dX4_hasWord_5 ?_
  refine lv_lload_n hx hb dX4_hasWord_6 rfl (lv_at hl 2 rfl) ?_
  refine lv_ladd hx hb dX4_hasWord_7 ?_
  refine lv_lconst (v := 0) hx hb dX4_hasWord_8 (by decide) ?_
  refine W.lcmp hx hb dX4_hasWord_9 ?_
  refine lv_if_lt (tgt := 41) hx hb dX4_hasWord_10 (by decide) (fun c2 => ?_) (fun c2 => ?_)
  · have hf := (if_pos c2).symm.trans hf
    exact L_md_hasWord_j41 _ _ _ _ _ _ _ _ _ _ _ _ _ _ _ _ _ _ _ _ C hK () _ _ _ _ _ hP hD hS (lv_sub hl [] rfl) hf (by omega) (by omega)
  · have hf := (if_neg c2).symm.trans hf
    refine lv_aload_n hx hb dX4_hasWord_13 rfl (lv_at hl 0 rfl) ?_
    refine va_get (D := G) (ci := 4) (v := .ref (A 2)) (C := RX4) (T := TX4) (N := 32) hx hb hts (fun w h => .tail _ (wl_X4 w h)) hown hK hP 0 rfl rfl 8 (by decide) (hts _ (.tail _ wm_8)) (fun _ h9 => h9) rfl dX4_hasWord_14 ?_
    refine lv_iload_n hx hb dX4_hasWord_17 rfl (lv_at hl 1 rfl) ?_
    obtain ⟨hg3, hf⟩ := of_gd hf
    refine va_lald (f := (Ms.avl z)) (n := (Ms.nvl z)) hx hb hK hP 2 1 rfl rfl (inb_in hg3) dX4_hasWord_18 ?_
    refine lv_lload_n hx hb dX4_hasWord_19 rfl (lv_at hl 2 rfl) ?_
    refine lv_ladd hx hb dX4_hasWord_20 ?_
    refine lv_aload_n hx hb dX4_hasWord_21 rfl (lv_at hl 0 rfl) ?_
    refine va_get (D := G) (ci := 4) (v := .ref (A 4)) (C := RX4) (T := TX4) (N := 32) hx hb hts (fun w h => .tail _ (wl_X4 w h)) hown hK hP 0 rfl rfl 11 (by decide) (hts _ (.tail _ wm_17)) (fun _ h9 => h9) rfl dX4_hasWord_22 ?_
    refine lv_aload_n hx hb dX4_hasWord_25 rfl (lv_at hl 0 rfl) ?_
    refine va_get (D := G) (ci := 4) (v := .ref (A 1)) (C := RX4) (T := TX4) (N := 32) hx hb hts (fun w h => .tail _ (wl_X4 w h)) hown hK hP 0 rfl rfl 7 (by decide) (hts _ (.tail _ wm_1)) (fun _ h9 => h9) rfl dX4_hasWord_26 ?_
    refine lv_iload_n hx hb dX4_hasWord_29 rfl (lv_at hl 1 rfl) ?_
    obtain ⟨hg4, hf⟩ := of_gd hf
    refine va_iald (f := (Ms.atg z)) (n := (Ms.ntg z)) hx hb hK hP 1 0 rfl rfl (inb_in hg4) dX4_hasWord_30 ?_
    obtain ⟨hg5, hf⟩ := of_gd hf
    refine va_iald (f := (Ms.asi z)) (n := (Ms.nsi z)) hx hb hK hP 4 0 rfl rfl (inb_in hg5) dX4_hasWord_31 ?_
    refine lv_i2l hx hb dX4_hasWord_32 rfl ?_
    refine W.lcmp hx hb dX4_hasWord_33 ?_
    refine lv_if_ge (tgt := 41) hx hb dX4_hasWord_34 (by decide) (fun c6 => ?_) (fun c6 => ?_)
    · have hf := (if_pos c6).symm.trans hf
      exact L_md_hasWord_j41 _ _ _ _ _ _ _ _ _ _ _ _ _ _ _ _ _ _ _ _ C hK () _ _ _ _ _ hP hD hS (lv_sub hl [] rfl) hf (by omega) (by omega)
    · have hf := (if_neg c6).symm.trans hf
      refine lv_iconst (v := 1) hx hb dX4_hasWord_37 (by decide) ?_
      refine lv_goto (tgt := 42) hx hb dX4_hasWord_38 (by decide) ?_
      obtain rfl := Option.some.inj hf
      exact grRz (by decide) hx hb hr hlocks hP hK hD hS dX4_hasWord_42 (by omega) (by omega)
def At_md_shift_j89 (l : Launch) (G : va_G) (cI cL cZ cB : ClassId) (q : Nat) (w : va_W) (p : Program) (e : Env) (s : State) (m : MethodId) (args : Array Value) (below : List Frame) (meth : Method) (c : Code) (O0 : Ms × Unit) (mcT msT : Nat) (F : Int32 → Int32 → Int32 → Int32 → Ms → Option (Ms × Unit)) : Prop := ∀ (A : Nat → Nat) (z : Ms) (x1 : Int32) (x2 : Int32) (x3 : Int32) (t0 : Int32) (H : Heap) (locs : List Loc) (ls : Array Slot) (cells slots : Nat), va_P G vwCl (mw cI cL cZ cB q A z) H → va_D (va_A w s.heap.size) (mw cI cL cZ cB q A z) → va_S (va_A w s.heap.size) s.heap H locs → lv_has ls 4 [(0, .ref q), (1, .int x1), (2, .int x2), (3, .int x3)] → F x1 x2 x3 t0 z = some O0 → cells + 0 ≤ mcT → slots + 0 ≤ msT → W p l e { frames := 1, cells := mcT, slots := msT, locals := 24 } s m args below meth c H locs cells slots (MQ below (qWv G vwCl (mt cI cL cZ cB) w s.heap.size (mw cI cL cZ cB q) O0) args s mcT msT (va_A w s.heap.size)) (F0 m 89 ls [.int t0, .ref q])
def At_md_shift_j84 (l : Launch) (G : va_G) (cI cL cZ cB : ClassId) (q : Nat) (w : va_W) (p : Program) (e : Env) (s : State) (m : MethodId) (args : Array Value) (below : List Frame) (meth : Method) (c : Code) (O0 : Ms × Unit) (mcT msT : Nat) (F : Int32 → Int32 → Int32 → Ms → Option (Ms × Unit)) : Prop := ∀ (A : Nat → Nat) (z : Ms) (x1 : Int32) (x2 : Int32) (x3 : Int32) (H : Heap) (locs : List Loc) (ls : Array Slot) (cells slots : Nat), va_P G vwCl (mw cI cL cZ cB q A z) H → va_D (va_A w s.heap.size) (mw cI cL cZ cB q A z) → va_S (va_A w s.heap.size) s.heap H locs → lv_has ls 4 [(0, .ref q), (1, .int x1), (2, .int x2), (3, .int x3)] → F x1 x2 x3 z = some O0 → cells + 0 ≤ mcT → slots + 0 ≤ msT → W p l e { frames := 1, cells := mcT, slots := msT, locals := 24 } s m args below meth c H locs cells slots (MQ below (qWv G vwCl (mt cI cL cZ cB) w s.heap.size (mw cI cL cZ cB q) O0) args s mcT msT (va_A w s.heap.size)) (F0 m 84 ls [.ref q])
def At_md_shift_j20 (l : Launch) (G : va_G) (cI cL cZ cB : ClassId) (q : Nat) (w : va_W) (p : Program) (e : Env) (s : State) (m : MethodId) (args : Array Value) (below : List Frame) (meth : Method) (c : Code) (O0 : Ms × Unit) (mcT msT : Nat) (F : Int32 → Int32 → Int32 → Int32 → Ms → Option (Ms × Unit)) : Prop := ∀ (A : Nat → Nat) (z : Ms) (x1 : Int32) (x2 : Int32) (x3 : Int32) (t0 : Int32) (H : Heap) (locs : List Loc) (ls : Array Slot) (cells slots : Nat), va_P G vwCl (mw cI cL cZ cB q A z) H → va_D (va_A w s.heap.size) (mw cI cL cZ cB q A z) → va_S (va_A w s.heap.size) s.heap H locs → lv_has ls 4 [(0, .ref q), (1, .int x1), (2, .int x2), (3, .int x3)] → F x1 x2 x3 t0 z = some O0 → cells + 0 ≤ mcT → slots + 0 ≤ msT → W p l e { frames := 1, cells := mcT, slots := msT, locals := 24 } s m args below meth c H locs cells slots (MQ below (qWv G vwCl (mt cI cL cZ cB) w s.heap.size (mw cI cL cZ cB q) O0) args s mcT msT (va_A w s.heap.size)) (F0 m 20 ls [.int t0, .ref q])
def At_md_shift_j19 (l : Launch) (G : va_G) (cI cL cZ cB : ClassId) (q : Nat) (w : va_W) (p : Program) (e : Env) (s : State) (m : MethodId) (args : Array Value) (below : List Frame) (meth : Method) (c : Code) (O0 : Ms × Unit) (mcT msT : Nat) (F : Int32 → Int32 → Int32 → Ms → Option (Ms × Unit)) : Prop := ∀ (A : Nat → Nat) (z : Ms) (x1 : Int32) (x2 : Int32) (x3 : Int32) (H : Heap) (locs : List Loc) (ls : Array Slot) (cells slots : Nat), va_P G vwCl (mw cI cL cZ cB q A z) H → va_D (va_A w s.heap.size) (mw cI cL cZ cB q A z) → va_S (va_A w s.heap.size) s.heap H locs → lv_has ls 4 [(0, .ref q), (1, .int x1), (2, .int x2), (3, .int x3)] → F x1 x2 x3 z = some O0 → cells + 0 ≤ mcT → slots + 0 ≤ msT → W p l e { frames := 1, cells := mcT, slots := msT, locals := 24 } s m args below meth c H locs cells slots (MQ below (qWv G vwCl (mt cI cL cZ cB) w s.heap.size (mw cI cL cZ cB q) O0) args s mcT msT (va_A w s.heap.size)) (F0 m 19 ls [.ref q])
set_option maxHeartbeats 4000000 in
set_option maxRecDepth 100000 in
theorem L_md_shift_j89 (l : Launch) (G : va_G) (cI cL cZ cB : ClassId) (q : Nat) (w : va_W) (p : Program) (e : Env) (s : State) (m : MethodId) (args : Array Value) (below : List Frame) (meth : Method) (c : Code) (O0 : Ms × Unit) (mcT msT : Nat) (C : MC p s m args meth c cX4_shift 4 (none) RX4 vX4_shift) (hK : va_K G vwCl (mt cI cL cZ cB) s) : At_md_shift_j89 l G cI cL cZ cB q w p e s m args below meth c O0 mcT msT md_shift_j89 := by
  obtain ⟨hx, hb, hr, hml, hown, hts, hlocks⟩ := id C
  have FX : CallFix p m c cX4_shift 4 s args vX4_shift RX4 := ⟨hx, hb, hml, hown, hts⟩
  have hA : ∀ q9 : Nat, s.heap.size ≤ q9 → va_A w s.heap.size q9 := fun q9 h => Or.inr h
  intro A z x1 x2 x3 t0 H locs ls cells slots hP hD hS hl hf hcc hss
  unfold md_shift_j89 at hf
  refine va_put (D := G) (ci := 4) (v := .int t0) (ty := .int) (C := RX4) (T := TX4) (N := 32) hx hb hts (fun w h => .tail _ (wl_X4 w h)) tyX4 tyX4_ok nmX4 hown hK hP hD hS 0 rfl rfl 0 (by decide) (hts _ (.tail _ wm_0)) (fun _ h9 => h9) rfl (by decide +kernel) rfl rfl (Nat.le_of_ble_eq_true rfl) dX4_shift_89 (fun H locs hP hD hS => ?_)
  have hP : va_P G vwCl (mw cI cL cZ cB q A (Ms.sthr z t0)) H := hP
  have hD : va_D _ (mw cI cL cZ cB q A (Ms.sthr z t0)) := hD
  refine lv_aload_n hx hb dX4_shift_92 rfl (lv_at hl 0 rfl) ?_
  refine va_get (D := G) (ci := 4) (v := .int t0) (C := RX4) (T := TX4) (N := 32) hx hb hts (fun w h => .tail _ (wl_X4 w h)) hown hK hP 0 rfl rfl 0 (by decide) (hts _ (.tail _ wm_0)) (fun _ h9 => h9) rfl dX4_shift_93 ?_
  refine lv_if_ne (tgt := 119) hx hb dX4_shift_96 (by decide) (fun c14 => ?_) (fun c14 => ?_)
  · have hf := (if_neg c14).symm.trans hf
    obtain rfl := Option.some.inj hf
    exact grWv hx hb hr hlocks hP hK hD hS dX4_shift_119 (by omega) (by omega)
  · have hf := (if_pos c14).symm.trans hf
    refine lv_aload_n hx hb dX4_shift_99 rfl (lv_at hl 0 rfl) ?_
    refine lv_iload_n hx hb dX4_shift_100 rfl (lv_at hl 1 rfl) ?_
    refine lv_aload_n hx hb dX4_shift_101 rfl (lv_at hl 0 rfl) ?_
    refine va_get (D := G) (ci := 4) (v := .ref (A 1)) (C := RX4) (T := TX4) (N := 32) hx hb hts (fun w h => .tail _ (wl_X4 w h)) hown hK hP 0 rfl rfl 7 (by decide) (hts _ (.tail _ wm_1)) (fun _ h9 => h9) rfl dX4_shift_102 ?_
    refine lv_iload_n hx hb dX4_shift_105 rfl (lv_at hl 2 rfl) ?_
    obtain ⟨hg15, hf⟩ := of_gd hf
    refine va_iald (f := (Ms.atg z)) (n := (Ms.ntg z)) hx hb hK hP 1 0 rfl rfl (inb_in hg15) dX4_shift_106 ?_
    refine lv_aload_n hx hb dX4_shift_107 rfl (lv_at hl 0 rfl) ?_
    refine va_get (D := G) (ci := 4) (v := .ref (A 2)) (C := RX4) (T := TX4) (N := 32) hx hb hts (fun w h => .tail _ (wl_X4 w h)) hown hK hP 0 rfl rfl 8 (by decide) (hts _ (.tail _ wm_8)) (fun _ h9 => h9) rfl dX4_shift_108 ?_
    refine lv_iload_n hx hb dX4_shift_111 rfl (lv_at hl 2 rfl) ?_
    obtain ⟨hg16, hf⟩ := of_gd hf
    refine va_lald (f := (Ms.avl z)) (n := (Ms.nvl z)) hx hb hK hP 2 1 rfl rfl (inb_in hg16) dX4_shift_112 ?_
    refine lv_iload_n hx hb dX4_shift_113 rfl (lv_at hl 3 rfl) ?_
    refine lv_i2l hx hb dX4_shift_114 rfl ?_
    refine lv_ladd hx hb dX4_shift_115 ?_
    obtain ⟨z17, o9, ho17, hf⟩ := of_bw hf
    refine gcWv (gV FX [.int x1, .int ((Ms.atg z) x2.toNatClampNeg), .long (((Ms.avl z) x2.toNatClampNeg) + (x3.toInt64))] (c_md_set l G cI cL cZ cB q A (Ms.sthr z t0) _ x1 ((Ms.atg z) x2.toNatClampNeg) (((Ms.avl z) x2.toNatClampNeg) + (x3.toInt64)) _ ho17) (cwV 3 hts (gi_V wm_82 wm_83 wm_84 wm_6 wm_85) rfl rfl rfl hdV_X4_set ⟨Nat.le_of_ble_eq_true rfl, Nat.le_of_ble_eq_true rfl⟩) hK hP hD 0 rfl rfl rfl hl.1 (Nat.le_of_ble_eq_true rfl) dX4_shift_116 ⟨by show _ ≤ mcT; omega, by show _ ≤ msT; omega⟩) hS hD hA (fun A H locs hP hD hS => ?_)
    obtain rfl := Option.some.inj hf
    exact grWv hx hb hr hlocks hP hK hD hS dX4_shift_119 (by omega) (by omega)
set_option maxHeartbeats 4000000 in
set_option maxRecDepth 100000 in
theorem L_md_shift_j84 (l : Launch) (G : va_G) (cI cL cZ cB : ClassId) (q : Nat) (w : va_W) (p : Program) (e : Env) (s : State) (m : MethodId) (args : Array Value) (below : List Frame) (meth : Method) (c : Code) (O0 : Ms × Unit) (mcT msT : Nat) (C : MC p s m args meth c cX4_shift 4 (none) RX4 vX4_shift) (hK : va_K G vwCl (mt cI cL cZ cB) s) : At_md_shift_j84 l G cI cL cZ cB q w p e s m args below meth c O0 mcT msT md_shift_j84 := by
  obtain ⟨hx, hb, hr, hml, hown, hts, hlocks⟩ := id C
  have FX : CallFix p m c cX4_shift 4 s args vX4_shift RX4 := ⟨hx, hb, hml, hown, hts⟩
  have hA : ∀ q9 : Nat, s.heap.size ≤ q9 → va_A w s.heap.size q9 := fun q9 h => Or.inr h
  intro A z x1 x2 x3 H locs ls cells slots hP hD hS hl hf hcc hss
  unfold md_shift_j84 at hf
  refine lv_iconst (v := 3) hx hb dX4_shift_84 (by decide) ?_
  refine lv_goto (tgt := 89) hx hb dX4_shift_85 (by decide) ?_
  exact L_md_shift_j89 _ _ _ _ _ _ _ _ _ _ _ _ _ _ _ _ _ _ _ C hK _ _ _ _ _ _ _ _ _ _ _ hP hD hS (lv_sub hl [0, 1, 2, 3] rfl) hf (by omega) (by omega)
set_option maxHeartbeats 4000000 in
set_option maxRecDepth 100000 in
theorem L_md_shift_j20 (l : Launch) (G : va_G) (cI cL cZ cB : ClassId) (q : Nat) (w : va_W) (p : Program) (e : Env) (s : State) (m : MethodId) (args : Array Value) (below : List Frame) (meth : Method) (c : Code) (O0 : Ms × Unit) (mcT msT : Nat) (C : MC p s m args meth c cX4_shift 4 (none) RX4 vX4_shift) (hK : va_K G vwCl (mt cI cL cZ cB) s) : At_md_shift_j20 l G cI cL cZ cB q w p e s m args below meth c O0 mcT msT md_shift_j20 := by
  obtain ⟨hx, hb, hr, hml, hown, hts, hlocks⟩ := id C
  have FX : CallFix p m c cX4_shift 4 s args vX4_shift RX4 := ⟨hx, hb, hml, hown, hts⟩
  have hA : ∀ q9 : Nat, s.heap.size ≤ q9 → va_A w s.heap.size q9 := fun q9 h => Or.inr h
  intro A z x1 x2 x3 t0 H locs ls cells slots hP hD hS hl hf hcc hss
  unfold md_shift_j20 at hf
  refine va_put (D := G) (ci := 4) (v := .int t0) (ty := .int) (C := RX4) (T := TX4) (N := 32) hx hb hts (fun w h => .tail _ (wl_X4 w h)) tyX4 tyX4_ok nmX4 hown hK hP hD hS 0 rfl rfl 0 (by decide) (hts _ (.tail _ wm_0)) (fun _ h9 => h9) rfl (by decide +kernel) rfl rfl (Nat.le_of_ble_eq_true rfl) dX4_shift_20 (fun H locs hP hD hS => ?_)
  have hP : va_P G vwCl (mw cI cL cZ cB q A (Ms.sthr z t0)) H := hP
  have hD : va_D _ (mw cI cL cZ cB q A (Ms.sthr z t0)) := hD
  refine lv_aload_n hx hb dX4_shift_23 rfl (lv_at hl 0 rfl) ?_
  refine va_get (D := G) (ci := 4) (v := .int t0) (C := RX4) (T := TX4) (N := 32) hx hb hts (fun w h => .tail _ (wl_X4 w h)) hown hK hP 0 rfl rfl 0 (by decide) (hts _ (.tail _ wm_0)) (fun _ h9 => h9) rfl dX4_shift_24 ?_
  refine lv_if_le (tgt := 31) hx hb dX4_shift_27 (by decide) (fun c5 => ?_) (fun c5 => ?_)
  · have hf := (if_pos c5).symm.trans hf
    refine lv_aload_n hx hb dX4_shift_31 rfl (lv_at hl 0 rfl) ?_
    refine lv_aload_n hx hb dX4_shift_32 rfl (lv_at hl 0 rfl) ?_
    refine lv_iload_n hx hb dX4_shift_33 rfl (lv_at hl 2 rfl) ?_
    refine lv_iconst (v := 2) hx hb dX4_shift_34 (by decide) ?_
    obtain ⟨r6, ho6, hf⟩ := of_b0 hf
    refine gcRi (gV FX [.int x2, .int 2] (c_md_is l G cI cL cZ cB q A (Ms.sthr z t0) _ x2 2 _ ho6) (cwV 2 hts (gi_V wm_3 wm_4 wm_5 wm_6 wm_7) rfl rfl rfl hdV_X4_is ⟨Nat.le_of_ble_eq_true rfl, Nat.le_of_ble_eq_true rfl⟩) hK hP hD 0 rfl rfl rfl hl.1 (Nat.le_of_ble_eq_true rfl) dX4_shift_35 ⟨by show _ ≤ mcT; omega, by show _ ≤ msT; omega⟩) hS hD hA (fun H locs hP hS => ?_)
    refine lv_if_ne (tgt := 45) hx hb dX4_shift_38 (by decide) (fun c7 => ?_) (fun c7 => ?_)
    · have hf := (if_neg c7).symm.trans hf
      refine lv_aload_n hx hb dX4_shift_45 rfl (lv_at hl 0 rfl) ?_
      refine va_get (D := G) (ci := 4) (v := .ref (A 2)) (C := RX4) (T := TX4) (N := 32) hx hb hts (fun w h => .tail _ (wl_X4 w h)) hown hK hP 0 rfl rfl 8 (by decide) (hts _ (.tail _ wm_8)) (fun _ h9 => h9) rfl dX4_shift_46 ?_
      refine lv_iload_n hx hb dX4_shift_49 rfl (lv_at hl 2 rfl) ?_
      obtain ⟨hg8, hf⟩ := of_gd hf
      refine va_lald (f := (Ms.avl z)) (n := (Ms.nvl z)) hx hb hK hP 2 1 rfl rfl (inb_in hg8) dX4_shift_50 ?_
      refine lv_iload_n hx hb dX4_shift_51 rfl (lv_at hl 3 rfl) ?_
      refine lv_i2l hx hb dX4_shift_52 rfl ?_
      refine lv_ladd hx hb dX4_shift_53 ?_
      refine lv_lconst (v := 0) hx hb dX4_shift_54 (by decide) ?_
      refine W.lcmp hx hb dX4_shift_55 ?_
      refine lv_if_lt (tgt := 84) hx hb dX4_shift_56 (by decide) (fun c9 => ?_) (fun c9 => ?_)
      · have hf := (if_pos c9).symm.trans hf
        exact L_md_shift_j84 _ _ _ _ _ _ _ _ _ _ _ _ _ _ _ _ _ _ _ C hK _ _ _ _ _ _ _ _ _ _ hP hD hS (lv_sub hl [0, 1, 2, 3] rfl) hf (by omega) (by omega)
      · have hf := (if_neg c9).symm.trans hf
        refine lv_aload_n hx hb dX4_shift_59 rfl (lv_at hl 0 rfl) ?_
        refine va_get (D := G) (ci := 4) (v := .ref (A 2)) (C := RX4) (T := TX4) (N := 32) hx hb hts (fun w h => .tail _ (wl_X4 w h)) hown hK hP 0 rfl rfl 8 (by decide) (hts _ (.tail _ wm_8)) (fun _ h9 => h9) rfl dX4_shift_60 ?_
        refine lv_iload_n hx hb dX4_shift_63 rfl (lv_at hl 2 rfl) ?_
        obtain ⟨hg10, hf⟩ := of_gd hf
        refine va_lald (f := (Ms.avl z)) (n := (Ms.nvl z)) hx hb hK hP 2 1 rfl rfl (inb_in hg10) dX4_shift_64 ?_
        refine lv_iload_n hx hb dX4_shift_65 rfl (lv_at hl 3 rfl) ?_
        refine lv_i2l hx hb dX4_shift_66 rfl ?_
        refine lv_ladd hx hb dX4_shift_67 ?_
        refine lv_aload_n hx hb dX4_shift_68 rfl (lv_at hl 0 rfl) ?_
        refine va_get (D := G) (ci := 4) (v := .ref (A 4)) (C := RX4) (T := TX4) (N := 32) hx hb hts (fun w h => .tail _ (wl_X4 w h)) hown hK hP 0 rfl rfl 11 (by decide) (hts _ (.tail _ wm_17)) (fun _ h9 => h9) rfl dX4_shift_69 ?_
        refine lv_aload_n hx hb dX4_shift_72 rfl (lv_at hl 0 rfl) ?_
        refine va_get (D := G) (ci := 4) (v := .ref (A 1)) (C := RX4) (T := TX4) (N := 32) hx hb hts (fun w h => .tail _ (wl_X4 w h)) hown hK hP 0 rfl rfl 7 (by decide) (hts _ (.tail _ wm_1)) (fun _ h9 => h9) rfl dX4_shift_73 ?_
        refine lv_iload_n hx hb dX4_shift_76 rfl (lv_at hl 2 rfl) ?_
        obtain ⟨hg11, hf⟩ := of_gd hf
        refine va_iald (f := (Ms.atg z)) (n := (Ms.ntg z)) hx hb hK hP 1 0 rfl rfl (inb_in hg11) dX4_shift_77 ?_
        obtain ⟨hg12, hf⟩ := of_gd hf
        refine va_iald (f := (Ms.asi z)) (n := (Ms.nsi z)) hx hb hK hP 4 0 rfl rfl (inb_in hg12) dX4_shift_78 ?_
        refine lv_i2l hx hb dX4_shift_79 rfl ?_
        refine W.lcmp hx hb dX4_shift_80 ?_
        refine lv_if_le (tgt := 88) hx hb dX4_shift_81 (by decide) (fun c13 => ?_) (fun c13 => ?_)
        · have hf := (if_pos c13).symm.trans hf
          refine lv_iconst (v := 0) hx hb dX4_shift_88 (by decide) ?_
          exact L_md_shift_j89 _ _ _ _ _ _ _ _ _ _ _ _ _ _ _ _ _ _ _ C hK _ _ _ _ _ _ _ _ _ _ _ hP hD hS (lv_sub hl [0, 1, 2, 3] rfl) hf (by omega) (by omega)
        · have hf := (if_neg c13).symm.trans hf
          exact L_md_shift_j84 _ _ _ _ _ _ _ _ _ _ _ _ _ _ _ _ _ _ _ C hK _ _ _ _ _ _ _ _ _ _ hP hD hS (lv_sub hl [0, 1, 2, 3] rfl) hf (by omega) (by omega)
    · have hf := (if_pos c7).symm.trans hf
      refine lv_iconst (v := 2) hx hb dX4_shift_41 (by decide) ?_
      refine lv_goto (tgt := 89) hx hb dX4_shift_42 (by decide) ?_
      exact L_md_shift_j89 _ _ _ _ _ _ _ _ _ _ _ _ _ _ _ _ _ _ _ C hK _ _ _ _ _ _ _ _ _ _ _ hP hD hS (lv_sub hl [0, 1, 2, 3] rfl) hf (by omega) (by omega)
  · have hf := (if_neg c5).symm.trans hf
    obtain rfl := Option.some.inj hf
    exact grWv hx hb hr hlocks hP hK hD hS dX4_shift_30 (by omega) (by omega)
set_option maxHeartbeats 4000000 in
set_option maxRecDepth 100000 in
theorem L_md_shift_j19 (l : Launch) (G : va_G) (cI cL cZ cB : ClassId) (q : Nat) (w : va_W) (p : Program) (e : Env) (s : State) (m : MethodId) (args : Array Value) (below : List Frame) (meth : Method) (c : Code) (O0 : Ms × Unit) (mcT msT : Nat) (C : MC p s m args meth c cX4_shift 4 (none) RX4 vX4_shift) (hK : va_K G vwCl (mt cI cL cZ cB) s) : At_md_shift_j19 l G cI cL cZ cB q w p e s m args below meth c O0 mcT msT md_shift_j19 := by
  obtain ⟨hx, hb, hr, hml, hown, hts, hlocks⟩ := id C
  have FX : CallFix p m c cX4_shift 4 s args vX4_shift RX4 := ⟨hx, hb, hml, hown, hts⟩
  have hA : ∀ q9 : Nat, s.heap.size ≤ q9 → va_A w s.heap.size q9 := fun q9 h => Or.inr h
  intro A z x1 x2 x3 H locs ls cells slots hP hD hS hl hf hcc hss
  unfold md_shift_j19 at hf
  refine lv_iconst (v := 1) hx hb dX4_shift_19 (by decide) ?_
  exact L_md_shift_j20 _ _ _ _ _ _ _ _ _ _ _ _ _ _ _ _ _ _ _ C hK _ _ _ _ _ _ _ _ _ _ _ hP hD hS (lv_sub hl [0, 1, 2, 3] rfl) hf (by omega) (by omega)
set_option maxHeartbeats 4000000 in
set_option maxRecDepth 100000 in
theorem c_md_shift (l : Launch) (G : va_G) (cI cL cZ cB : ClassId) (q : Nat) (A : Nat → Nat) (z : Ms) (sz : Nat) (p0 : Int32) (p1 : Int32) (p2 : Int32) (O0 : Ms × Unit) (hf : md_shift z p0 p1 p2 = some O0) : Met l yX4_shift vX4_shift { frames := 1, cells := 0, slots := 0, locals := 24 } (gPc G vwCl (mt cI cL cZ cB) [.ref q, .int p0, .int p1, .int p2] (mw cI cL cZ cB q A z) sz) (qWv G vwCl (mt cI cL cZ cB) (mw cI cL cZ cB q A z) sz (mw cI cL cZ cB q) O0) 0 0 (va_A (mw cI cL cZ cB q A z) sz) := by
  refine gMet (by decide) rfl (Nat.le_of_ble_eq_true rfl) ?_
  intro p e s m below meth c ls C hK hP hD hsz hl
  subst hsz
  obtain ⟨hx, hb, hr, hml, hown, hts, hlocks⟩ := id C
  have FX : CallFix p m c cX4_shift 4 s _ vX4_shift RX4 := ⟨hx, hb, hml, hown, hts⟩
  have hA : ∀ q9 : Nat, s.heap.size ≤ q9 → va_A (mw cI cL cZ cB q A z) s.heap.size q9 := fun q9 h => Or.inr h
  have hS : va_S (va_A (mw cI cL cZ cB q A z) s.heap.size) s.heap s.heap [] := va_S.rf
  have hl : lv_has ls 4 [(0, .ref q), (1, .int p0), (2, .int p1), (3, .int p2)] := hl
  unfold md_shift at hf
  refine lv_aload_n hx hb dX4_shift_0 rfl (lv_at hl 0 rfl) ?_
  refine lv_iload_n hx hb dX4_shift_1 rfl (lv_at hl 1 rfl) ?_
  obtain ⟨r1, ho1, hf⟩ := of_b0 hf
  refine gcRi (gS FX [.int p0] (c_md_isRegister l G cI cL cZ cB q A z _ p0 _ ho1) (cwS 1 hts (gi_S wm_79 wm_80 wm_6 wm_81) rfl rfl rfl hdS_X4_isRegister ⟨Nat.le_of_ble_eq_true rfl, Nat.le_of_ble_eq_true rfl⟩) hK hP hD rfl hl.1 (Nat.le_of_ble_eq_true rfl) dX4_shift_2 ⟨by show _ ≤ 0; omega, by show _ ≤ 0; omega⟩) hS hD hA (fun H locs hP hS => ?_)
  refine lv_if_eq (tgt := 19) hx hb dX4_shift_5 (by decide) (fun c2 => ?_) (fun c2 => ?_)
  · have hf := (if_pos c2).symm.trans hf
    exact L_md_shift_j19 _ _ _ _ _ _ _ _ _ _ _ _ _ _ _ _ _ _ _ C hK _ _ _ _ _ _ _ _ _ _ hP hD hS (lv_sub hl [0, 1, 2, 3] rfl) hf (by omega) (by omega)
  · have hf := (if_neg c2).symm.trans hf
    refine lv_iload_n hx hb dX4_shift_8 rfl (lv_at hl 2 rfl) ?_
    obtain ⟨r3, ho3, hf⟩ := of_b0 hf
    refine gcRi (gS FX [.int p1] (c_md_isRegister l G cI cL cZ cB q A z _ p1 _ ho3) (cwS 1 hts (gi_S wm_79 wm_80 wm_6 wm_81) rfl rfl rfl hdS_X4_isRegister ⟨Nat.le_of_ble_eq_true rfl, Nat.le_of_ble_eq_true rfl⟩) hK hP hD rfl hl.1 (Nat.le_of_ble_eq_true rfl) dX4_shift_9 ⟨by show _ ≤ 0; omega, by show _ ≤ 0; omega⟩) hS hD hA (fun H locs hP hS => ?_)
    refine lv_if_eq (tgt := 19) hx hb dX4_shift_12 (by decide) (fun c4 => ?_) (fun c4 => ?_)
    · have hf := (if_pos c4).symm.trans hf
      exact L_md_shift_j19 _ _ _ _ _ _ _ _ _ _ _ _ _ _ _ _ _ _ _ C hK _ _ _ _ _ _ _ _ _ _ hP hD hS (lv_sub hl [0, 1, 2, 3] rfl) hf (by omega) (by omega)
    · have hf := (if_neg c4).symm.trans hf
      refine lv_iconst (v := 0) hx hb dX4_shift_15 (by decide) ?_
      refine lv_goto (tgt := 20) hx hb dX4_shift_16 (by decide) ?_
      exact L_md_shift_j20 _ _ _ _ _ _ _ _ _ _ _ _ _ _ _ _ _ _ _ C hK _ _ _ _ _ _ _ _ _ _ _ hP hD hS (lv_sub hl [0, 1, 2, 3] rfl) hf (by omega) (by omega)
set_option maxHeartbeats 4000000 in
set_option maxRecDepth 100000 in
theorem c_md_at (l : Launch) (G : va_G) (cI cL cZ cB : ClassId) (q : Nat) (A : Nat → Nat) (z : Ms) (sz : Nat) (p0 : Int32) (p1 : Int32) (O0 : Int32) (hf : md_at z p0 p1 = some O0) : Met l yX4_at vX4_at { frames := 0, cells := 0, slots := 0, locals := 0 } (gPc G vwCl (mt cI cL cZ cB) [.ref q, .int p0, .int p1] (mw cI cL cZ cB q A z) sz) (qRi G vwCl (mt cI cL cZ cB) (mw cI cL cZ cB q A z) sz O0) 0 0 (va_A (mw cI cL cZ cB q A z) sz) := by
  refine gMet (by decide) rfl (Nat.le_of_ble_eq_true rfl) ?_
  intro p e s m below meth c ls C hK hP hD hsz hl
  subst hsz
  obtain ⟨hx, hb, hr, hml, hown, hts, hlocks⟩ := id C
  have FX : CallFix p m c cX4_at 3 s _ vX4_at RX4 := ⟨hx, hb, hml, hown, hts⟩
  have hA : ∀ q9 : Nat, s.heap.size ≤ q9 → va_A (mw cI cL cZ cB q A z) s.heap.size q9 := fun q9 h => Or.inr h
  have hS : va_S (va_A (mw cI cL cZ cB q A z) s.heap.size) s.heap s.heap [] := va_S.rf
  have hl : lv_has ls 3 [(0, .ref q), (1, .int p0), (2, .int p1)] := hl
  unfold md_at at hf
  refine lv_aload_n hx hb dX4_at_0 rfl (lv_at hl 0 rfl) ?_
  refine va_get (D := G) (ci := 4) (v := .ref (A 5)) (C := RX4) (T := TX4) (N := 32) hx hb hts (fun w h => .tail _ (wl_X4 w h)) hown hK hP 0 rfl rfl 12 (by decide) (hts _ (.tail _ wm_27)) (fun _ h9 => h9) rfl dX4_at_1 ?_
  refine lv_aload_n hx hb dX4_at_4 rfl (lv_at hl 0 rfl) ?_
  refine va_get (D := G) (ci := 4) (v := .ref (A 1)) (C := RX4) (T := TX4) (N := 32) hx hb hts (fun w h => .tail _ (wl_X4 w h)) hown hK hP 0 rfl rfl 7 (by decide) (hts _ (.tail _ wm_1)) (fun _ h9 => h9) rfl dX4_at_5 ?_
  refine lv_iload_n hx hb dX4_at_8 rfl (lv_at hl 1 rfl) ?_
  obtain ⟨hg1, hf⟩ := of_gd hf
  refine va_iald (f := (Ms.atg z)) (n := (Ms.ntg z)) hx hb hK hP 1 0 rfl rfl (inb_in hg1) dX4_at_9 ?_
  obtain ⟨hg2, hf⟩ := of_gd hf
  refine va_iald (f := (Ms.asr z)) (n := (Ms.nsr z)) hx hb hK hP 5 0 rfl rfl (inb_in hg2) dX4_at_10 ?_
  refine lv_aload_n hx hb dX4_at_11 rfl (lv_at hl 0 rfl) ?_
  refine va_get (D := G) (ci := 4) (v := .ref (A 2)) (C := RX4) (T := TX4) (N := 32) hx hb hts (fun w h => .tail _ (wl_X4 w h)) hown hK hP 0 rfl rfl 8 (by decide) (hts _ (.tail _ wm_8)) (fun _ h9 => h9) rfl dX4_at_12 ?_
  refine lv_iload_n hx hb dX4_at_15 rfl (lv_at hl 1 rfl) ?_
  obtain ⟨hg3, hf⟩ := of_gd hf
  refine va_lald (f := (Ms.avl z)) (n := (Ms.nvl z)) hx hb hK hP 2 1 rfl rfl (inb_in hg3) dX4_at_16 ?_
  refine lv_l2i hx hb dX4_at_17 rfl ?_
  refine lv_iadd hx hb dX4_at_18 ?_
  refine lv_iload_n hx hb dX4_at_19 rfl (lv_at hl 2 rfl) ?_
  refine lv_iadd hx hb dX4_at_20 ?_
  obtain rfl := Option.some.inj hf
  exact grRi hx hb hr hlocks hP hK hD hS dX4_at_21 (by omega) (by omega)
def At_md_load_j60 (l : Launch) (G : va_G) (cI cL cZ cB : ClassId) (q : Nat) (w : va_W) (p : Program) (e : Env) (s : State) (m : MethodId) (args : Array Value) (below : List Frame) (meth : Method) (c : Code) (O0 : Ms × Unit) (mcT msT : Nat) (F : Int32 → Int32 → Int32 → Int32 → Ms → Option (Ms × Unit)) : Prop := ∀ (A : Nat → Nat) (z : Ms) (x1 : Int32) (x2 : Int32) (x3 : Int32) (t0 : Int32) (H : Heap) (locs : List Loc) (ls : Array Slot) (cells slots : Nat), va_P G vwCl (mw cI cL cZ cB q A z) H → va_D (va_A w s.heap.size) (mw cI cL cZ cB q A z) → va_S (va_A w s.heap.size) s.heap H locs → lv_has ls 5 [(0, .ref q), (1, .int x1), (2, .int x2), (3, .int x3)] → F x1 x2 x3 t0 z = some O0 → cells + 0 ≤ mcT → slots + 0 ≤ msT → W p l e { frames := 1, cells := mcT, slots := msT, locals := 24 } s m args below meth c H locs cells slots (MQ below (qWv G vwCl (mt cI cL cZ cB) w s.heap.size (mw cI cL cZ cB q) O0) args s mcT msT (va_A w s.heap.size)) (F0 m 60 ls [.int t0, .ref q])
def At_md_load_j20 (l : Launch) (G : va_G) (cI cL cZ cB : ClassId) (q : Nat) (w : va_W) (p : Program) (e : Env) (s : State) (m : MethodId) (args : Array Value) (below : List Frame) (meth : Method) (c : Code) (O0 : Ms × Unit) (mcT msT : Nat) (F : Int32 → Int32 → Int32 → Int32 → Ms → Option (Ms × Unit)) : Prop := ∀ (A : Nat → Nat) (z : Ms) (x1 : Int32) (x2 : Int32) (x3 : Int32) (t0 : Int32) (H : Heap) (locs : List Loc) (ls : Array Slot) (cells slots : Nat), va_P G vwCl (mw cI cL cZ cB q A z) H → va_D (va_A w s.heap.size) (mw cI cL cZ cB q A z) → va_S (va_A w s.heap.size) s.heap H locs → lv_has ls 5 [(0, .ref q), (1, .int x1), (2, .int x2), (3, .int x3)] → F x1 x2 x3 t0 z = some O0 → cells + 0 ≤ mcT → slots + 0 ≤ msT → W p l e { frames := 1, cells := mcT, slots := msT, locals := 24 } s m args below meth c H locs cells slots (MQ below (qWv G vwCl (mt cI cL cZ cB) w s.heap.size (mw cI cL cZ cB q) O0) args s mcT msT (va_A w s.heap.size)) (F0 m 20 ls [.int t0, .ref q])
def At_md_load_j19 (l : Launch) (G : va_G) (cI cL cZ cB : ClassId) (q : Nat) (w : va_W) (p : Program) (e : Env) (s : State) (m : MethodId) (args : Array Value) (below : List Frame) (meth : Method) (c : Code) (O0 : Ms × Unit) (mcT msT : Nat) (F : Int32 → Int32 → Int32 → Ms → Option (Ms × Unit)) : Prop := ∀ (A : Nat → Nat) (z : Ms) (x1 : Int32) (x2 : Int32) (x3 : Int32) (H : Heap) (locs : List Loc) (ls : Array Slot) (cells slots : Nat), va_P G vwCl (mw cI cL cZ cB q A z) H → va_D (va_A w s.heap.size) (mw cI cL cZ cB q A z) → va_S (va_A w s.heap.size) s.heap H locs → lv_has ls 5 [(0, .ref q), (1, .int x1), (2, .int x2), (3, .int x3)] → F x1 x2 x3 z = some O0 → cells + 0 ≤ mcT → slots + 0 ≤ msT → W p l e { frames := 1, cells := mcT, slots := msT, locals := 24 } s m args below meth c H locs cells slots (MQ below (qWv G vwCl (mt cI cL cZ cB) w s.heap.size (mw cI cL cZ cB q) O0) args s mcT msT (va_A w s.heap.size)) (F0 m 19 ls [.ref q])
set_option maxHeartbeats 4000000 in
set_option maxRecDepth 100000 in
theorem L_md_load_j60 (l : Launch) (G : va_G) (cI cL cZ cB : ClassId) (q : Nat) (w : va_W) (p : Program) (e : Env) (s : State) (m : MethodId) (args : Array Value) (below : List Frame) (meth : Method) (c : Code) (O0 : Ms × Unit) (mcT msT : Nat) (C : MC p s m args meth c cX4_load 5 (none) RX4 vX4_load) (hK : va_K G vwCl (mt cI cL cZ cB) s) : At_md_load_j60 l G cI cL cZ cB q w p e s m args below meth c O0 mcT msT md_load_j60 := by
  obtain ⟨hx, hb, hr, hml, hown, hts, hlocks⟩ := id C
  have FX : CallFix p m c cX4_load 5 s args vX4_load RX4 := ⟨hx, hb, hml, hown, hts⟩
  have hA : ∀ q9 : Nat, s.heap.size ≤ q9 → va_A w s.heap.size q9 := fun q9 h => Or.inr h
  intro A z x1 x2 x3 t0 H locs ls cells slots hP hD hS hl hf hcc hss
  unfold md_load_j60 at hf
  refine va_put (D := G) (ci := 4) (v := .int t0) (ty := .int) (C := RX4) (T := TX4) (N := 32) hx hb hts (fun w h => .tail _ (wl_X4 w h)) tyX4 tyX4_ok nmX4 hown hK hP hD hS 0 rfl rfl 0 (by decide) (hts _ (.tail _ wm_0)) (fun _ h9 => h9) rfl (by decide +kernel) rfl rfl (Nat.le_of_ble_eq_true rfl) dX4_load_60 (fun H locs hP hD hS => ?_)
  have hP : va_P G vwCl (mw cI cL cZ cB q A (Ms.sthr z t0)) H := hP
  have hD : va_D _ (mw cI cL cZ cB q A (Ms.sthr z t0)) := hD
  refine lv_aload_n hx hb dX4_load_63 rfl (lv_at hl 0 rfl) ?_
  refine va_get (D := G) (ci := 4) (v := .int t0) (C := RX4) (T := TX4) (N := 32) hx hb hts (fun w h => .tail _ (wl_X4 w h)) hown hK hP 0 rfl rfl 0 (by decide) (hts _ (.tail _ wm_0)) (fun _ h9 => h9) rfl dX4_load_64 ?_
  refine lv_if_le (tgt := 71) hx hb dX4_load_67 (by decide) (fun c10 => ?_) (fun c10 => ?_)
  · have hf := (if_pos c10).symm.trans hf
    refine lv_aload_n hx hb dX4_load_71 rfl (lv_at hl 0 rfl) ?_
    refine lv_iload_n hx hb dX4_load_72 rfl (lv_at hl 2 rfl) ?_
    refine lv_iload_n hx hb dX4_load_73 rfl (lv_at hl 3 rfl) ?_
    obtain ⟨r11, ho11, hf⟩ := of_b0 hf
    refine gcRi (gV FX [.int x2, .int x3] (c_md_at l G cI cL cZ cB q A (Ms.sthr z t0) _ x2 x3 _ ho11) (cwV 2 hts (gi_V wm_126 wm_127 wm_128 wm_6 wm_129) rfl rfl rfl hdV_X4_at ⟨Nat.le_of_ble_eq_true rfl, Nat.le_of_ble_eq_true rfl⟩) hK hP hD 0 rfl rfl rfl hl.1 (Nat.le_of_ble_eq_true rfl) dX4_load_74 ⟨by show _ ≤ mcT; omega, by show _ ≤ msT; omega⟩) hS hD hA (fun H locs hP hS => ?_)
    refine lv_istore (lv' := [(4, .int r11), (0, .ref q), (1, .int x1), (2, .int x2), (3, .int x3)]) hx hb dX4_load_77 hl (by decide) rfl (fun ls hl => ?_)
    refine lv_aload_n hx hb dX4_load_79 rfl (lv_at hl 1 rfl) ?_
    refine lv_iload_n hx hb dX4_load_80 rfl (lv_at hl 2 rfl) ?_
    refine lv_aload_n hx hb dX4_load_81 rfl (lv_at hl 1 rfl) ?_
    refine va_get (D := G) (ci := 4) (v := .ref (A 15)) (C := RX4) (T := TX4) (N := 32) hx hb hts (fun w h => .tail _ (wl_X4 w h)) hown hK hP 0 rfl rfl 22 (by decide) (hts _ (.tail _ wm_26)) (fun _ h9 => h9) rfl dX4_load_82 ?_
    refine lv_iload hx hb dX4_load_85 (lv_at hl 0 rfl) ?_
    obtain ⟨hg12, hf⟩ := of_gd hf
    refine va_iald (f := (Ms.awt z)) (n := (Ms.nwt z)) hx hb hK hP 15 0 rfl rfl (inb_in hg12) dX4_load_87 ?_
    refine lv_aload_n hx hb dX4_load_88 rfl (lv_at hl 1 rfl) ?_
    refine va_get (D := G) (ci := 4) (v := .ref (A 16)) (C := RX4) (T := TX4) (N := 32) hx hb hts (fun w h => .tail _ (wl_X4 w h)) hown hK hP 0 rfl rfl 23 (by decide) (hts _ (.tail _ wm_39)) (fun _ h9 => h9) rfl dX4_load_89 ?_
    refine lv_iload hx hb dX4_load_92 (lv_at hl 0 rfl) ?_
    obtain ⟨hg13, hf⟩ := of_gd hf
    refine va_lald (f := (Ms.awv z)) (n := (Ms.nwv z)) hx hb hK hP 16 1 rfl rfl (inb_in hg13) dX4_load_94 ?_
    obtain ⟨z14, o9, ho14, hf⟩ := of_bw hf
    refine gcWv (gV FX [.int x1, .int ((Ms.awt z) r11.toNatClampNeg), .long ((Ms.awv z) r11.toNatClampNeg)] (c_md_set l G cI cL cZ cB q A (Ms.sthr z t0) _ x1 ((Ms.awt z) r11.toNatClampNeg) ((Ms.awv z) r11.toNatClampNeg) _ ho14) (cwV 3 hts (gi_V wm_82 wm_83 wm_84 wm_6 wm_85) rfl rfl rfl hdV_X4_set ⟨Nat.le_of_ble_eq_true rfl, Nat.le_of_ble_eq_true rfl⟩) hK hP hD 0 rfl rfl rfl hl.1 (Nat.le_of_ble_eq_true rfl) dX4_load_95 ⟨by show _ ≤ mcT; omega, by show _ ≤ msT; omega⟩) hS hD hA (fun A H locs hP hD hS => ?_)
    obtain rfl := Option.some.inj hf
    exact grWv hx hb hr hlocks hP hK hD hS dX4_load_98 (by omega) (by omega)
  · have hf := (if_neg c10).symm.trans hf
    obtain rfl := Option.some.inj hf
    exact grWv hx hb hr hlocks hP hK hD hS dX4_load_70 (by omega) (by omega)
set_option maxHeartbeats 4000000 in
set_option maxRecDepth 100000 in
theorem L_md_load_j20 (l : Launch) (G : va_G) (cI cL cZ cB : ClassId) (q : Nat) (w : va_W) (p : Program) (e : Env) (s : State) (m : MethodId) (args : Array Value) (below : List Frame) (meth : Method) (c : Code) (O0 : Ms × Unit) (mcT msT : Nat) (C : MC p s m args meth c cX4_load 5 (none) RX4 vX4_load) (hK : va_K G vwCl (mt cI cL cZ cB) s) : At_md_load_j20 l G cI cL cZ cB q w p e s m args below meth c O0 mcT msT md_load_j20 := by
  obtain ⟨hx, hb, hr, hml, hown, hts, hlocks⟩ := id C
  have FX : CallFix p m c cX4_load 5 s args vX4_load RX4 := ⟨hx, hb, hml, hown, hts⟩
  have hA : ∀ q9 : Nat, s.heap.size ≤ q9 → va_A w s.heap.size q9 := fun q9 h => Or.inr h
  intro A z x1 x2 x3 t0 H locs ls cells slots hP hD hS hl hf hcc hss
  unfold md_load_j20 at hf
  refine va_put (D := G) (ci := 4) (v := .int t0) (ty := .int) (C := RX4) (T := TX4) (N := 32) hx hb hts (fun w h => .tail _ (wl_X4 w h)) tyX4 tyX4_ok nmX4 hown hK hP hD hS 0 rfl rfl 0 (by decide) (hts _ (.tail _ wm_0)) (fun _ h9 => h9) rfl (by decide +kernel) rfl rfl (Nat.le_of_ble_eq_true rfl) dX4_load_20 (fun H locs hP hD hS => ?_)
  have hP : va_P G vwCl (mw cI cL cZ cB q A (Ms.sthr z t0)) H := hP
  have hD : va_D _ (mw cI cL cZ cB q A (Ms.sthr z t0)) := hD
  refine lv_aload_n hx hb dX4_load_23 rfl (lv_at hl 0 rfl) ?_
  refine va_get (D := G) (ci := 4) (v := .int t0) (C := RX4) (T := TX4) (N := 32) hx hb hts (fun w h => .tail _ (wl_X4 w h)) hown hK hP 0 rfl rfl 0 (by decide) (hts _ (.tail _ wm_0)) (fun _ h9 => h9) rfl dX4_load_24 ?_
  refine lv_if_le (tgt := 31) hx hb dX4_load_27 (by decide) (fun c5 => ?_) (fun c5 => ?_)
  · have hf := (if_pos c5).symm.trans hf
    refine lv_aload_n hx hb dX4_load_31 rfl (lv_at hl 0 rfl) ?_
    refine lv_aload_n hx hb dX4_load_32 rfl (lv_at hl 0 rfl) ?_
    refine lv_iload_n hx hb dX4_load_33 rfl (lv_at hl 2 rfl) ?_
    refine lv_iconst (v := 2) hx hb dX4_load_34 (by decide) ?_
    obtain ⟨r6, ho6, hf⟩ := of_b0 hf
    refine gcRi (gV FX [.int x2, .int 2] (c_md_is l G cI cL cZ cB q A (Ms.sthr z t0) _ x2 2 _ ho6) (cwV 2 hts (gi_V wm_3 wm_4 wm_5 wm_6 wm_7) rfl rfl rfl hdV_X4_is ⟨Nat.le_of_ble_eq_true rfl, Nat.le_of_ble_eq_true rfl⟩) hK hP hD 0 rfl rfl rfl hl.1 (Nat.le_of_ble_eq_true rfl) dX4_load_35 ⟨by show _ ≤ mcT; omega, by show _ ≤ msT; omega⟩) hS hD hA (fun H locs hP hS => ?_)
    refine lv_if_ne (tgt := 45) hx hb dX4_load_38 (by decide) (fun c7 => ?_) (fun c7 => ?_)
    · have hf := (if_neg c7).symm.trans hf
      refine lv_aload_n hx hb dX4_load_45 rfl (lv_at hl 0 rfl) ?_
      refine lv_iload_n hx hb dX4_load_46 rfl (lv_at hl 2 rfl) ?_
      refine lv_iload_n hx hb dX4_load_47 rfl (lv_at hl 3 rfl) ?_
      refine lv_i2l hx hb dX4_load_48 rfl ?_
      obtain ⟨r8, ho8, hf⟩ := of_b0 hf
      refine gcRi (gV FX [.int x2, .long (x3.toInt64)] (c_md_hasWord l G cI cL cZ cB q A (Ms.sthr z t0) _ x2 (x3.toInt64) _ ho8) (cwV 2 hts (gi_V wm_122 wm_123 wm_124 wm_6 wm_125) rfl rfl rfl hdV_X4_hasWord ⟨Nat.le_of_ble_eq_true rfl, Nat.le_of_ble_eq_true rfl⟩) hK hP hD 0 rfl rfl rfl hl.1 (Nat.le_of_ble_eq_true rfl) dX4_load_49 ⟨by show _ ≤ mcT; omega, by show _ ≤ msT; omega⟩) hS hD hA (fun H locs hP hS => ?_)
      refine lv_if_ne (tgt := 59) hx hb dX4_load_52 (by decide) (fun c9 => ?_) (fun c9 => ?_)
      · have hf := (if_neg c9).symm.trans hf
        refine lv_iconst (v := 0) hx hb dX4_load_59 (by decide) ?_
        exact L_md_load_j60 _ _ _ _ _ _ _ _ _ _ _ _ _ _ _ _ _ _ _ C hK _ _ _ _ _ _ _ _ _ _ _ hP hD hS (lv_sub hl [0, 1, 2, 3] rfl) hf (by omega) (by omega)
      · have hf := (if_pos c9).symm.trans hf
        refine lv_iconst (v := 3) hx hb dX4_load_55 (by decide) ?_
        refine lv_goto (tgt := 60) hx hb dX4_load_56 (by decide) ?_
        exact L_md_load_j60 _ _ _ _ _ _ _ _ _ _ _ _ _ _ _ _ _ _ _ C hK _ _ _ _ _ _ _ _ _ _ _ hP hD hS (lv_sub hl [0, 1, 2, 3] rfl) hf (by omega) (by omega)
    · have hf := (if_pos c7).symm.trans hf
      refine lv_iconst (v := 2) hx hb dX4_load_41 (by decide) ?_
      refine lv_goto (tgt := 60) hx hb dX4_load_42 (by decide) ?_
      exact L_md_load_j60 _ _ _ _ _ _ _ _ _ _ _ _ _ _ _ _ _ _ _ C hK _ _ _ _ _ _ _ _ _ _ _ hP hD hS (lv_sub hl [0, 1, 2, 3] rfl) hf (by omega) (by omega)
  · have hf := (if_neg c5).symm.trans hf
    obtain rfl := Option.some.inj hf
    exact grWv hx hb hr hlocks hP hK hD hS dX4_load_30 (by omega) (by omega)
set_option maxHeartbeats 4000000 in
set_option maxRecDepth 100000 in
theorem L_md_load_j19 (l : Launch) (G : va_G) (cI cL cZ cB : ClassId) (q : Nat) (w : va_W) (p : Program) (e : Env) (s : State) (m : MethodId) (args : Array Value) (below : List Frame) (meth : Method) (c : Code) (O0 : Ms × Unit) (mcT msT : Nat) (C : MC p s m args meth c cX4_load 5 (none) RX4 vX4_load) (hK : va_K G vwCl (mt cI cL cZ cB) s) : At_md_load_j19 l G cI cL cZ cB q w p e s m args below meth c O0 mcT msT md_load_j19 := by
  obtain ⟨hx, hb, hr, hml, hown, hts, hlocks⟩ := id C
  have FX : CallFix p m c cX4_load 5 s args vX4_load RX4 := ⟨hx, hb, hml, hown, hts⟩
  have hA : ∀ q9 : Nat, s.heap.size ≤ q9 → va_A w s.heap.size q9 := fun q9 h => Or.inr h
  intro A z x1 x2 x3 H locs ls cells slots hP hD hS hl hf hcc hss
  unfold md_load_j19 at hf
  refine lv_iconst (v := 1) hx hb dX4_load_19 (by decide) ?_
  exact L_md_load_j20 _ _ _ _ _ _ _ _ _ _ _ _ _ _ _ _ _ _ _ C hK _ _ _ _ _ _ _ _ _ _ _ hP hD hS (lv_sub hl [0, 1, 2, 3] rfl) hf (by omega) (by omega)
set_option maxHeartbeats 4000000 in
set_option maxRecDepth 100000 in
theorem c_md_load (l : Launch) (G : va_G) (cI cL cZ cB : ClassId) (q : Nat) (A : Nat → Nat) (z : Ms) (sz : Nat) (p0 : Int32) (p1 : Int32) (p2 : Int32) (O0 : Ms × Unit) (hf : md_load z p0 p1 p2 = some O0) : Met l yX4_load vX4_load { frames := 1, cells := 0, slots := 0, locals := 24 } (gPc G vwCl (mt cI cL cZ cB) [.ref q, .int p0, .int p1, .int p2] (mw cI cL cZ cB q A z) sz) (qWv G vwCl (mt cI cL cZ cB) (mw cI cL cZ cB q A z) sz (mw cI cL cZ cB q) O0) 0 0 (va_A (mw cI cL cZ cB q A z) sz) := by
  refine gMet (by decide) rfl (Nat.le_of_ble_eq_true rfl) ?_
  intro p e s m below meth c ls C hK hP hD hsz hl
  subst hsz
  obtain ⟨hx, hb, hr, hml, hown, hts, hlocks⟩ := id C
  have FX : CallFix p m c cX4_load 5 s _ vX4_load RX4 := ⟨hx, hb, hml, hown, hts⟩
  have hA : ∀ q9 : Nat, s.heap.size ≤ q9 → va_A (mw cI cL cZ cB q A z) s.heap.size q9 := fun q9 h => Or.inr h
  have hS : va_S (va_A (mw cI cL cZ cB q A z) s.heap.size) s.heap s.heap [] := va_S.rf
  have hl : lv_has ls 5 [(0, .ref q), (1, .int p0), (2, .int p1), (3, .int p2)] := hl
  unfold md_load at hf
  refine lv_aload_n hx hb dX4_load_0 rfl (lv_at hl 0 rfl) ?_
  refine lv_iload_n hx hb dX4_load_1 rfl (lv_at hl 1 rfl) ?_
  obtain ⟨r1, ho1, hf⟩ := of_b0 hf
  refine gcRi (gS FX [.int p0] (c_md_isRegister l G cI cL cZ cB q A z _ p0 _ ho1) (cwS 1 hts (gi_S wm_79 wm_80 wm_6 wm_81) rfl rfl rfl hdS_X4_isRegister ⟨Nat.le_of_ble_eq_true rfl, Nat.le_of_ble_eq_true rfl⟩) hK hP hD rfl hl.1 (Nat.le_of_ble_eq_true rfl) dX4_load_2 ⟨by show _ ≤ 0; omega, by show _ ≤ 0; omega⟩) hS hD hA (fun H locs hP hS => ?_)
  refine lv_if_eq (tgt := 19) hx hb dX4_load_5 (by decide) (fun c2 => ?_) (fun c2 => ?_)
  · have hf := (if_pos c2).symm.trans hf
    exact L_md_load_j19 _ _ _ _ _ _ _ _ _ _ _ _ _ _ _ _ _ _ _ C hK _ _ _ _ _ _ _ _ _ _ hP hD hS (lv_sub hl [0, 1, 2, 3] rfl) hf (by omega) (by omega)
  · have hf := (if_neg c2).symm.trans hf
    refine lv_iload_n hx hb dX4_load_8 rfl (lv_at hl 2 rfl) ?_
    obtain ⟨r3, ho3, hf⟩ := of_b0 hf
    refine gcRi (gS FX [.int p1] (c_md_isRegister l G cI cL cZ cB q A z _ p1 _ ho3) (cwS 1 hts (gi_S wm_79 wm_80 wm_6 wm_81) rfl rfl rfl hdS_X4_isRegister ⟨Nat.le_of_ble_eq_true rfl, Nat.le_of_ble_eq_true rfl⟩) hK hP hD rfl hl.1 (Nat.le_of_ble_eq_true rfl) dX4_load_9 ⟨by show _ ≤ 0; omega, by show _ ≤ 0; omega⟩) hS hD hA (fun H locs hP hS => ?_)
    refine lv_if_eq (tgt := 19) hx hb dX4_load_12 (by decide) (fun c4 => ?_) (fun c4 => ?_)
    · have hf := (if_pos c4).symm.trans hf
      exact L_md_load_j19 _ _ _ _ _ _ _ _ _ _ _ _ _ _ _ _ _ _ _ C hK _ _ _ _ _ _ _ _ _ _ hP hD hS (lv_sub hl [0, 1, 2, 3] rfl) hf (by omega) (by omega)
    · have hf := (if_neg c4).symm.trans hf
      refine lv_iconst (v := 0) hx hb dX4_load_15 (by decide) ?_
      refine lv_goto (tgt := 20) hx hb dX4_load_16 (by decide) ?_
      exact L_md_load_j20 _ _ _ _ _ _ _ _ _ _ _ _ _ _ _ _ _ _ _ C hK _ _ _ _ _ _ _ _ _ _ _ hP hD hS (lv_sub hl [0, 1, 2, 3] rfl) hf (by omega) (by omega)
