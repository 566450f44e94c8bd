def At_md_store_j60 (l : Launch) (G : va_G) (cI cL cZ cB : ClassId) (q : Nat) (w : va_W) (p : Program) (e : Env) (s : State) (m : MethodId) (args : Array Value) (below : List Frame) (meth : Method) (c : Code) (O0 : Ms × Unit) (mcT msT : Nat) (F : Int32 → Int32 → Int32 → Int32 → Ms → Option (Ms × Unit)) : Prop := ∀ (A : Nat → Nat) (z : Ms) (x1 : Int32) (x2 : Int32) (x3 : Int32) (t0 : Int32) (H : Heap) (locs : List Loc) (ls : Array Slot) (cells slots : Nat), va_P G vwCl (mw cI cL cZ cB q A z) H → va_D (va_A w s.heap.size) (mw cI cL cZ cB q A z) → va_S (va_A w s.heap.size) s.heap H locs → lv_has ls 5 [(0, .ref q), (1, .int x1), (2, .int x2), (3, .int x3)] → F x1 x2 x3 t0 z = some O0 → cells + 0 ≤ mcT → slots + 0 ≤ msT → W p l e { frames := 1, cells := mcT, slots := msT, locals := 23 } s m args below meth c H locs cells slots (MQ below (qWv G vwCl (mt cI cL cZ cB) w s.heap.size (mw cI cL cZ cB q) O0) args s mcT msT (va_A w s.heap.size)) (F0 m 60 ls [.int t0, .ref q])
def At_md_store_j20 (l : Launch) (G : va_G) (cI cL cZ cB : ClassId) (q : Nat) (w : va_W) (p : Program) (e : Env) (s : State) (m : MethodId) (args : Array Value) (below : List Frame) (meth : Method) (c : Code) (O0 : Ms × Unit) (mcT msT : Nat) (F : Int32 → Int32 → Int32 → Int32 → Ms → Option (Ms × Unit)) : Prop := ∀ (A : Nat → Nat) (z : Ms) (x1 : Int32) (x2 : Int32) (x3 : Int32) (t0 : Int32) (H : Heap) (locs : List Loc) (ls : Array Slot) (cells slots : Nat), va_P G vwCl (mw cI cL cZ cB q A z) H → va_D (va_A w s.heap.size) (mw cI cL cZ cB q A z) → va_S (va_A w s.heap.size) s.heap H locs → lv_has ls 5 [(0, .ref q), (1, .int x1), (2, .int x2), (3, .int x3)] → F x1 x2 x3 t0 z = some O0 → cells + 0 ≤ mcT → slots + 0 ≤ msT → W p l e { frames := 1, cells := mcT, slots := msT, locals := 23 } s m args below meth c H locs cells slots (MQ below (qWv G vwCl (mt cI cL cZ cB) w s.heap.size (mw cI cL cZ cB q) O0) args s mcT msT (va_A w s.heap.size)) (F0 m 20 ls [.int t0, .ref q])
def At_md_store_j19 (l : Launch) (G : va_G) (cI cL cZ cB : ClassId) (q : Nat) (w : va_W) (p : Program) (e : Env) (s : State) (m : MethodId) (args : Array Value) (below : List Frame) (meth : Method) (c : Code) (O0 : Ms × Unit) (mcT msT : Nat) (F : Int32 → Int32 → Int32 → Ms → Option (Ms × Unit)) : Prop := ∀ (A : Nat → Nat) (z : Ms) (x1 : Int32) (x2 : Int32) (x3 : Int32) (H : Heap) (locs : List Loc) (ls : Array Slot) (cells slots : Nat), va_P G vwCl (mw cI cL cZ cB q A z) H → va_D (va_A w s.heap.size) (mw cI cL cZ cB q A z) → va_S (va_A w s.heap.size) s.heap H locs → lv_has ls 5 [(0, .ref q), (1, .int x1), (2, .int x2), (3, .int x3)] → F x1 x2 x3 z = some O0 → cells + 0 ≤ mcT → slots + 0 ≤ msT → W p l e { frames := 1, cells := mcT, slots := msT, locals := 23 } s m args below meth c H locs cells slots (MQ below (qWv G vwCl (mt cI cL cZ cB) w s.heap.size (mw cI cL cZ cB q) O0) args s mcT msT (va_A w s.heap.size)) (F0 m 19 ls [.ref q])
set_option maxHeartbeats 4000000 in
set_option maxRecDepth 100000 in
theorem L_md_store_j60 (l : Launch) (G : va_G) (cI cL cZ cB : ClassId) (q : Nat) (w : va_W) (p : Program) (e : Env) (s : State) (m : MethodId) (args : Array Value) (below : List Frame) (meth : Method) (c : Code) (O0 : Ms × Unit) (mcT msT : Nat) (C : MC p s m args meth c cX4_store 5 (none) RX4 vX4_store) (hK : va_K G vwCl (mt cI cL cZ cB) s) : At_md_store_j60 l G cI cL cZ cB q w p e s m args below meth c O0 mcT msT md_store_j60 := by
  obtain ⟨hx, hb, hr, hml, hown, hts, hlocks⟩ := id C
  have FX : CallFix p m c cX4_store 5 s args vX4_store RX4 := ⟨hx, hb, hml, hown, hts⟩
  have hA : ∀ q9 : Nat, s.heap.size ≤ q9 → va_A w s.heap.size q9 := fun q9 h => Or.inr h
  intro A z x1 x2 x3 t0 H locs ls cells slots hP hD hS hl hf hcc hss
  unfold md_store_j60 at hf
  refine va_put (D := G) (ci := 4) (v := .int t0) (ty := .int) (C := RX4) (T := TX4) (N := 32) hx hb hts (fun w h => .tail _ (wl_X4 w h)) tyX4 tyX4_ok nmX4 hown hK hP hD hS 0 rfl rfl 0 (by decide) (hts _ (.tail _ wm_0)) (fun _ h9 => h9) rfl (by decide +kernel) rfl rfl (Nat.le_of_ble_eq_true rfl) dX4_store_60 (fun H locs hP hD hS => ?_)
  have hP : va_P G vwCl (mw cI cL cZ cB q A (Ms.sthr z t0)) H := hP
  have hD : va_D _ (mw cI cL cZ cB q A (Ms.sthr z t0)) := hD
  refine lv_aload_n hx hb dX4_store_63 rfl (lv_at hl 0 rfl) ?_
  refine va_get (D := G) (ci := 4) (v := .int t0) (C := RX4) (T := TX4) (N := 32) hx hb hts (fun w h => .tail _ (wl_X4 w h)) hown hK hP 0 rfl rfl 0 (by decide) (hts _ (.tail _ wm_0)) (fun _ h9 => h9) rfl dX4_store_64 ?_
  refine lv_if_le (tgt := 71) hx hb dX4_store_67 (by decide) (fun c10 => ?_) (fun c10 => ?_)
  · have hf := (if_pos c10).symm.trans hf
    refine lv_aload_n hx hb dX4_store_71 rfl (lv_at hl 0 rfl) ?_
    refine lv_iload_n hx hb dX4_store_72 rfl (lv_at hl 1 rfl) ?_
    refine lv_iload_n hx hb dX4_store_73 rfl (lv_at hl 2 rfl) ?_
    obtain ⟨r11, ho11, hf⟩ := of_b0 hf
    refine gcRi (gV FX [.int x1, .int x2] (c_md_at l G cI cL cZ cB q A (Ms.sthr z t0) _ x1 x2 _ ho11) (cwV 2 hts (gi_V wm_126 wm_127 wm_128 wm_6 wm_129) rfl rfl rfl hdV_X4_at ⟨Nat.le_of_ble_eq_true rfl, Nat.le_of_ble_eq_true rfl⟩) hK hP hD 0 rfl rfl rfl hl.1 (Nat.le_of_ble_eq_true rfl) dX4_store_74 ⟨by show _ ≤ mcT; omega, by show _ ≤ msT; omega⟩) hS hD hA (fun H locs hP hS => ?_)
    refine lv_istore (lv' := [(4, .int r11), (0, .ref q), (1, .int x1), (2, .int x2), (3, .int x3)]) hx hb dX4_store_77 hl (by decide) rfl (fun ls hl => ?_)
    refine lv_aload_n hx hb dX4_store_79 rfl (lv_at hl 1 rfl) ?_
    refine va_get (D := G) (ci := 4) (v := .ref (A 15)) (C := RX4) (T := TX4) (N := 32) hx hb hts (fun w h => .tail _ (wl_X4 w h)) hown hK hP 0 rfl rfl 22 (by decide) (hts _ (.tail _ wm_26)) (fun _ h9 => h9) rfl dX4_store_80 ?_
    refine lv_iload hx hb dX4_store_83 (lv_at hl 0 rfl) ?_
    refine lv_aload_n hx hb dX4_store_85 rfl (lv_at hl 1 rfl) ?_
    refine va_get (D := G) (ci := 4) (v := .ref (A 1)) (C := RX4) (T := TX4) (N := 32) hx hb hts (fun w h => .tail _ (wl_X4 w h)) hown hK hP 0 rfl rfl 7 (by decide) (hts _ (.tail _ wm_1)) (fun _ h9 => h9) rfl dX4_store_86 ?_
    refine lv_iload_n hx hb dX4_store_89 rfl (lv_at hl 4 rfl) ?_
    obtain ⟨hg12, hf⟩ := of_gd hf
    refine va_iald (f := (Ms.atg z)) (n := (Ms.ntg z)) hx hb hK hP 1 0 rfl rfl (inb_in hg12) dX4_store_90 ?_
    obtain ⟨hg13, hf⟩ := of_gd hf
    refine va_iast (f := (Ms.awt z)) (n := (Ms.nwt z)) hx hb hK hP hD hS 15 0 rfl rfl (inb_in hg13) dX4_store_91 (fun H locs hP hD hS => ?_)
    have hP : va_P G vwCl (mw cI cL cZ cB q A (Ms.wwt (Ms.sthr z t0) (upd (Ms.awt z) (r11.toNatClampNeg) ((Ms.atg z) x3.toNatClampNeg)))) H := hP
    have hD : va_D _ (mw cI cL cZ cB q A (Ms.wwt (Ms.sthr z t0) (upd (Ms.awt z) (r11.toNatClampNeg) ((Ms.atg z) x3.toNatClampNeg)))) := hD
    refine lv_aload_n hx hb dX4_store_92 rfl (lv_at hl 1 rfl) ?_
    refine va_get (D := G) (ci := 4) (v := .ref (A 16)) (C := RX4) (T := TX4) (N := 32) hx hb hts (fun w h => .tail _ (wl_X4 w h)) hown hK hP 0 rfl rfl 23 (by decide) (hts _ (.tail _ wm_39)) (fun _ h9 => h9) rfl dX4_store_93 ?_
    refine lv_iload hx hb dX4_store_96 (lv_at hl 0 rfl) ?_
    refine lv_aload_n hx hb dX4_store_98 rfl (lv_at hl 1 rfl) ?_
    refine va_get (D := G) (ci := 4) (v := .ref (A 2)) (C := RX4) (T := TX4) (N := 32) hx hb hts (fun w h => .tail _ (wl_X4 w h)) hown hK hP 0 rfl rfl 8 (by decide) (hts _ (.tail _ wm_8)) (fun _ h9 => h9) rfl dX4_store_99 ?_
    refine lv_iload_n hx hb dX4_store_102 rfl (lv_at hl 4 rfl) ?_
    obtain ⟨hg14, hf⟩ := of_gd hf
    refine va_lald (f := (Ms.avl z)) (n := (Ms.nvl z)) hx hb hK hP 2 1 rfl rfl (inb_in hg14) dX4_store_103 ?_
    obtain ⟨hg15, hf⟩ := of_gd hf
    refine va_last (f := (Ms.awv z)) (n := (Ms.nwv z)) hx hb hK hP hD hS 16 1 rfl rfl (inb_in hg15) dX4_store_104 (fun H locs hP hD hS => ?_)
    have hP : va_P G vwCl (mw cI cL cZ cB q A (Ms.wwv (Ms.wwt (Ms.sthr z t0) (upd (Ms.awt z) (r11.toNatClampNeg) ((Ms.atg z) x3.toNatClampNeg))) (vp_updL (Ms.awv z) (r11.toNatClampNeg) ((Ms.avl z) x3.toNatClampNeg)))) H := hP
    have hD : va_D _ (mw cI cL cZ cB q A (Ms.wwv (Ms.wwt (Ms.sthr z t0) (upd (Ms.awt z) (r11.toNatClampNeg) ((Ms.atg z) x3.toNatClampNeg))) (vp_updL (Ms.awv z) (r11.toNatClampNeg) ((Ms.avl z) x3.toNatClampNeg)))) := hD
    obtain rfl := Option.some.inj hf
    exact grWv hx hb hr hlocks hP hK hD hS dX4_store_105 (by omega) (by omega)
  · have hf := (if_neg c10).symm.trans hf
    obtain rfl := Option.some.inj hf
    exact grWv hx hb hr hlocks hP hK hD hS dX4_store_70 (by omega) (by omega)
set_option maxHeartbeats 4000000 in
set_option maxRecDepth 100000 in
theorem L_md_store_j20 (l : Launch) (G : va_G) (cI cL cZ cB : ClassId) (q : Nat) (w : va_W) (p : Program) (e : Env) (s : State) (m : MethodId) (args : Array Value) (below : List Frame) (meth : Method) (c : Code) (O0 : Ms × Unit) (mcT msT : Nat) (C : MC p s m args meth c cX4_store 5 (none) RX4 vX4_store) (hK : va_K G vwCl (mt cI cL cZ cB) s) : At_md_store_j20 l G cI cL cZ cB q w p e s m args below meth c O0 mcT msT md_store_j20 := by
  obtain ⟨hx, hb, hr, hml, hown, hts, hlocks⟩ := id C
  have FX : CallFix p m c cX4_store 5 s args vX4_store RX4 := ⟨hx, hb, hml, hown, hts⟩
  have hA : ∀ q9 : Nat, s.heap.size ≤ q9 → va_A w s.heap.size q9 := fun q9 h => Or.inr h
  intro A z x1 x2 x3 t0 H locs ls cells slots hP hD hS hl hf hcc hss
  unfold md_store_j20 at hf
  refine va_put (D := G) (ci := 4) (v := .int t0) (ty := .int) (C := RX4) (T := TX4) (N := 32) hx hb hts (fun w h => .tail _ (wl_X4 w h)) tyX4 tyX4_ok nmX4 hown hK hP hD hS 0 rfl rfl 0 (by decide) (hts _ (.tail _ wm_0)) (fun _ h9 => h9) rfl (by decide +kernel) rfl rfl (Nat.le_of_ble_eq_true rfl) dX4_store_20 (fun H locs hP hD hS => ?_)
  have hP : va_P G vwCl (mw cI cL cZ cB q A (Ms.sthr z t0)) H := hP
  have hD : va_D _ (mw cI cL cZ cB q A (Ms.sthr z t0)) := hD
  refine lv_aload_n hx hb dX4_store_23 rfl (lv_at hl 0 rfl) ?_
  refine va_get (D := G) (ci := 4) (v := .int t0) (C := RX4) (T := TX4) (N := 32) hx hb hts (fun w h => .tail _ (wl_X4 w h)) hown hK hP 0 rfl rfl 0 (by decide) (hts _ (.tail _ wm_0)) (fun _ h9 => h9) rfl dX4_store_24 ?_
  refine lv_if_le (tgt := 31) hx hb dX4_store_27 (by decide) (fun c5 => ?_) (fun c5 => ?_)
  · have hf := (if_pos c5).symm.trans hf
    refine lv_aload_n hx hb dX4_store_31 rfl (lv_at hl 0 rfl) ?_
    refine lv_aload_n hx hb dX4_store_32 rfl (lv_at hl 0 rfl) ?_
    refine lv_iload_n hx hb dX4_store_33 rfl (lv_at hl 1 rfl) ?_
    refine lv_iconst (v := 2) hx hb dX4_store_34 (by decide) ?_
    obtain ⟨r6, ho6, hf⟩ := of_b0 hf
    refine gcRi (gV FX [.int x1, .int 2] (c_md_is l G cI cL cZ cB q A (Ms.sthr z t0) _ x1 2 _ ho6) (cwV 2 hts (gi_V wm_3 wm_4 wm_5 wm_6 wm_7) rfl rfl rfl hdV_X4_is ⟨Nat.le_of_ble_eq_true rfl, Nat.le_of_ble_eq_true rfl⟩) hK hP hD 0 rfl rfl rfl hl.1 (Nat.le_of_ble_eq_true rfl) dX4_store_35 ⟨by show _ ≤ mcT; omega, by show _ ≤ msT; omega⟩) hS hD hA (fun H locs hP hS => ?_)
    refine lv_if_ne (tgt := 45) hx hb dX4_store_38 (by decide) (fun c7 => ?_) (fun c7 => ?_)
    · have hf := (if_neg c7).symm.trans hf
      refine lv_aload_n hx hb dX4_store_45 rfl (lv_at hl 0 rfl) ?_
      refine lv_iload_n hx hb dX4_store_46 rfl (lv_at hl 1 rfl) ?_
      refine lv_iload_n hx hb dX4_store_47 rfl (lv_at hl 2 rfl) ?_
      refine lv_i2l hx hb dX4_store_48 rfl ?_
      obtain ⟨r8, ho8, hf⟩ := of_b0 hf
      refine gcRi (gV FX [.int x1, .long (x2.toInt64)] (c_md_hasWord l G cI cL cZ cB q A (Ms.sthr z t0) _ x1 (x2.toInt64) _ ho8) (cwV 2 hts (gi_V wm_122 wm_123 wm_124 wm_6 wm_125) rfl rfl rfl hdV_X4_hasWord ⟨Nat.le_of_ble_eq_true rfl, Nat.le_of_ble_eq_true rfl⟩) hK hP hD 0 rfl rfl rfl hl.1 (Nat.le_of_ble_eq_true rfl) dX4_store_49 ⟨by show _ ≤ mcT; omega, by show _ ≤ msT; omega⟩) hS hD hA (fun H locs hP hS => ?_)
      refine lv_if_ne (tgt := 59) hx hb dX4_store_52 (by decide) (fun c9 => ?_) (fun c9 => ?_)
      · have hf := (if_neg c9).symm.trans hf
        refine lv_iconst (v := 0) hx hb dX4_store_59 (by decide) ?_
        exact L_md_store_j60 _ _ _ _ _ _ _ _ _ _ _ _ _ _ _ _ _ _ _ C hK _ _ _ _ _ _ _ _ _ _ _ hP hD hS (lv_sub hl [0, 1, 2, 3] rfl) hf (by omega) (by omega)
      · have hf := (if_pos c9).symm.trans hf
        refine lv_iconst (v := 3) hx hb dX4_store_55 (by decide) ?_
        refine lv_goto (tgt := 60) hx hb dX4_store_56 (by decide) ?_
        exact L_md_store_j60 _ _ _ _ _ _ _ _ _ _ _ _ _ _ _ _ _ _ _ C hK _ _ _ _ _ _ _ _ _ _ _ hP hD hS (lv_sub hl [0, 1, 2, 3] rfl) hf (by omega) (by omega)
    · have hf := (if_pos c7).symm.trans hf
      refine lv_iconst (v := 2) hx hb dX4_store_41 (by decide) ?_
      refine lv_goto (tgt := 60) hx hb dX4_store_42 (by decide) ?_
      exact L_md_store_j60 _ _ _ _ _ _ _ _ _ _ _ _ _ _ _ _ _ _ _ C hK _ _ _ _ _ _ _ _ _ _ _ hP hD hS (lv_sub hl [0, 1, 2, 3] rfl) hf (by omega) (by omega)
  · have hf := (if_neg c5).symm.trans hf
    obtain rfl := Option.some.inj hf
    exact grWv hx hb hr hlocks hP hK hD hS dX4_store_30 (by omega) (by omega)
set_option maxHeartbeats 4000000 in
set_option maxRecDepth 100000 in
theorem L_md_store_j19 (l : Launch) (G : va_G) (cI cL cZ cB : ClassId) (q : Nat) (w : va_W) (p : Program) (e : Env) (s : State) (m : MethodId) (args : Array Value) (below : List Frame) (meth : Method) (c : Code) (O0 : Ms × Unit) (mcT msT : Nat) (C : MC p s m args meth c cX4_store 5 (none) RX4 vX4_store) (hK : va_K G vwCl (mt cI cL cZ cB) s) : At_md_store_j19 l G cI cL cZ cB q w p e s m args below meth c O0 mcT msT md_store_j19 := by
  obtain ⟨hx, hb, hr, hml, hown, hts, hlocks⟩ := id C
  have FX : CallFix p m c cX4_store 5 s args vX4_store RX4 := ⟨hx, hb, hml, hown, hts⟩
  have hA : ∀ q9 : Nat, s.heap.size ≤ q9 → va_A w s.heap.size q9 := fun q9 h => Or.inr h
  intro A z x1 x2 x3 H locs ls cells slots hP hD hS hl hf hcc hss
  unfold md_store_j19 at hf
  refine lv_iconst (v := 1) hx hb dX4_store_19 (by decide) ?_
  exact L_md_store_j20 _ _ _ _ _ _ _ _ _ _ _ _ _ _ _ _ _ _ _ C hK _ _ _ _ _ _ _ _ _ _ _ hP hD hS (lv_sub hl [0, 1, 2, 3] rfl) hf (by omega) (by omega)
set_option maxHeartbeats 4000000 in
set_option maxRecDepth 100000 in
theorem c_md_store (l : Launch) (G : va_G) (cI cL cZ cB : ClassId) (q : Nat) (A : Nat → Nat) (z : Ms) (sz : Nat) (p0 : Int32) (p1 : Int32) (p2 : Int32) (O0 : Ms × Unit) (hf : md_store z p0 p1 p2 = some O0) : Met l yX4_store vX4_store { frames := 1, cells := 0, slots := 0, locals := 23 } (gPc G vwCl (mt cI cL cZ cB) [.ref q, .int p0, .int p1, .int p2] (mw cI cL cZ cB q A z) sz) (qWv G vwCl (mt cI cL cZ cB) (mw cI cL cZ cB q A z) sz (mw cI cL cZ cB q) O0) 0 0 (va_A (mw cI cL cZ cB q A z) sz) := by
  refine gMet (by decide) rfl (Nat.le_of_ble_eq_true rfl) ?_
  intro p e s m below meth c ls C hK hP hD hsz hl
  subst hsz
  obtain ⟨hx, hb, hr, hml, hown, hts, hlocks⟩ := id C
  have FX : CallFix p m c cX4_store 5 s _ vX4_store RX4 := ⟨hx, hb, hml, hown, hts⟩
  have hA : ∀ q9 : Nat, s.heap.size ≤ q9 → va_A (mw cI cL cZ cB q A z) s.heap.size q9 := fun q9 h => Or.inr h
  have hS : va_S (va_A (mw cI cL cZ cB q A z) s.heap.size) s.heap s.heap [] := va_S.rf
  have hl : lv_has ls 5 [(0, .ref q), (1, .int p0), (2, .int p1), (3, .int p2)] := hl
  unfold md_store at hf
  refine lv_aload_n hx hb dX4_store_0 rfl (lv_at hl 0 rfl) ?_
  refine lv_iload_n hx hb dX4_store_1 rfl (lv_at hl 3 rfl) ?_
  obtain ⟨r1, ho1, hf⟩ := of_b0 hf
  refine gcRi (gS FX [.int p2] (c_md_isRegister l G cI cL cZ cB q A z _ p2 _ ho1) (cwS 1 hts (gi_S wm_79 wm_80 wm_6 wm_81) rfl rfl rfl hdS_X4_isRegister ⟨Nat.le_of_ble_eq_true rfl, Nat.le_of_ble_eq_true rfl⟩) hK hP hD rfl hl.1 (Nat.le_of_ble_eq_true rfl) dX4_store_2 ⟨by show _ ≤ 0; omega, by show _ ≤ 0; omega⟩) hS hD hA (fun H locs hP hS => ?_)
  refine lv_if_eq (tgt := 19) hx hb dX4_store_5 (by decide) (fun c2 => ?_) (fun c2 => ?_)
  · have hf := (if_pos c2).symm.trans hf
    exact L_md_store_j19 _ _ _ _ _ _ _ _ _ _ _ _ _ _ _ _ _ _ _ C hK _ _ _ _ _ _ _ _ _ _ hP hD hS (lv_sub hl [0, 1, 2, 3] rfl) hf (by omega) (by omega)
  · have hf := (if_neg c2).symm.trans hf
    refine lv_iload_n hx hb dX4_store_8 rfl (lv_at hl 1 rfl) ?_
    obtain ⟨r3, ho3, hf⟩ := of_b0 hf
    refine gcRi (gS FX [.int p0] (c_md_isRegister l G cI cL cZ cB q A z _ p0 _ ho3) (cwS 1 hts (gi_S wm_79 wm_80 wm_6 wm_81) rfl rfl rfl hdS_X4_isRegister ⟨Nat.le_of_ble_eq_true rfl, Nat.le_of_ble_eq_true rfl⟩) hK hP hD rfl hl.1 (Nat.le_of_ble_eq_true rfl) dX4_store_9 ⟨by show _ ≤ 0; omega, by show _ ≤ 0; omega⟩) hS hD hA (fun H locs hP hS => ?_)
    refine lv_if_eq (tgt := 19) hx hb dX4_store_12 (by decide) (fun c4 => ?_) (fun c4 => ?_)
    · have hf := (if_pos c4).symm.trans hf
      exact L_md_store_j19 _ _ _ _ _ _ _ _ _ _ _ _ _ _ _ _ _ _ _ C hK _ _ _ _ _ _ _ _ _ _ hP hD hS (lv_sub hl [0, 1, 2, 3] rfl) hf (by omega) (by omega)
    · have hf := (if_neg c4).symm.trans hf
      refine lv_iconst (v := 0) hx hb dX4_store_15 (by decide) ?_
      refine lv_goto (tgt := 20) hx hb dX4_store_16 (by decide) ?_
      exact L_md_store_j20 _ _ _ _ _ _ _ _ _ _ _ _ _ _ _ _ _ _ _ C hK _ _ _ _ _ _ _ _ _ _ _ hP hD hS (lv_sub hl [0, 1, 2, 3] rfl) hf (by omega) (by omega)
set_option maxHeartbeats 4000000 in
set_option maxRecDepth 100000 in
theorem c_md_hasWords (l : Launch) (G : va_G) (cI cL cZ cB : ClassId) (q : Nat) (A : Nat → Nat) (z : Ms) (sz : Nat) (p0 : Int32) (p1 : Int32) (O0 : Int32) (hf : md_hasWords z p0 p1 = some O0) : Met l yX4_hasWords vX4_hasWords { frames := 0, cells := 0, slots := 0, locals := 0 } (gPc G vwCl (mt cI cL cZ cB) [.ref q, .int p0, .int p1] (mw cI cL cZ cB q A z) sz) (qRi G vwCl (mt cI cL cZ cB) (mw cI cL cZ cB q A z) sz O0) 0 0 (va_A (mw cI cL cZ cB q A z) sz) := by
  refine gMet (by decide) rfl (Nat.le_of_ble_eq_true rfl) ?_
  intro p e s m below meth c ls C hK hP hD hsz hl
  subst hsz
  obtain ⟨hx, hb, hr, hml, hown, hts, hlocks⟩ := id C
  have FX : CallFix p m c cX4_hasWords 3 s _ vX4_hasWords RX4 := ⟨hx, hb, hml, hown, hts⟩
  have hA : ∀ q9 : Nat, s.heap.size ≤ q9 → va_A (mw cI cL cZ cB q A z) s.heap.size q9 := fun q9 h => Or.inr h
  have hS : va_S (va_A (mw cI cL cZ cB q A z) s.heap.size) s.heap s.heap [] := va_S.rf
  have hl : lv_has ls 3 [(0, .ref q), (1, .int p0), (2, .int p1)] := hl
  unfold md_hasWords at hf
  refine lv_aload_n hx hb dX4_hasWords_0 rfl (lv_at hl 0 rfl) ?_
  refine va_get (D := G) (ci := 4) (v := .ref (A 2)) (C := RX4) (T := TX4) (N := 32) hx hb hts (fun w h => .tail _ (wl_X4 w h)) hown hK hP 0 rfl rfl 8 (by decide) (hts _ (.tail _ wm_8)) (fun _ h9 => h9) rfl dX4_hasWords_1 ?_
  refine lv_iload_n hx hb dX4_hasWords_4 rfl (lv_at hl 1 rfl) ?_
  obtain ⟨hg1, hf⟩ := of_gd hf
  refine va_lald (f := (Ms.avl z)) (n := (Ms.nvl z)) hx hb hK hP 2 1 rfl rfl (inb_in hg1) dX4_hasWords_5 ?_
  refine lv_iload_n hx hb dX4_hasWords_6 rfl (lv_at hl 2 rfl) ?_
  refine lv_i2l hx hb dX4_hasWords_7 rfl ?_
  refine lv_ladd hx hb dX4_hasWords_8 ?_
  refine lv_aload_n hx hb dX4_hasWords_9 rfl (lv_at hl 0 rfl) ?_
  refine va_get (D := G) (ci := 4) (v := .ref (A 4)) (C := RX4) (T := TX4) (N := 32) hx hb hts (fun w h => .tail _ (wl_X4 w h)) hown hK hP 0 rfl rfl 11 (by decide) (hts _ (.tail _ wm_17)) (fun _ h9 => h9) rfl dX4_hasWords_10 ?_
  refine lv_aload_n hx hb dX4_hasWords_13 rfl (lv_at hl 0 rfl) ?_
  refine va_get (D := G) (ci := 4) (v := .ref (A 1)) (C := RX4) (T := TX4) (N := 32) hx hb hts (fun w h => .tail _ (wl_X4 w h)) hown hK hP 0 rfl rfl 7 (by decide) (hts _ (.tail _ wm_1)) (fun _ h9 => h9) rfl dX4_hasWords_14 ?_
  refine lv_iload_n hx hb dX4_hasWords_17 rfl (lv_at hl 1 rfl) ?_
  obtain ⟨hg2, hf⟩ := of_gd hf
  refine va_iald (f := (Ms.atg z)) (n := (Ms.ntg z)) hx hb hK hP 1 0 rfl rfl (inb_in hg2) dX4_hasWords_18 ?_
  obtain ⟨hg3, hf⟩ := of_gd hf
  refine va_iald (f := (Ms.asi z)) (n := (Ms.nsi z)) hx hb hK hP 4 0 rfl rfl (inb_in hg3) dX4_hasWords_19 ?_
  refine lv_i2l hx hb dX4_hasWords_20 rfl ?_
  refine W.lcmp hx hb dX4_hasWords_21 ?_
  refine lv_if_gt (tgt := 29) hx hb dX4_hasWords_22 (by decide) (fun c4 => ?_) (fun c4 => ?_)
  · have hf := (if_pos c4).symm.trans hf
    refine lv_iconst (v := 0) hx hb dX4_hasWords_29 (by decide) ?_
    obtain rfl := Option.some.inj hf
    exact grRz (by decide) hx hb hr hlocks hP hK hD hS dX4_hasWords_30 (by omega) (by omega)
  · have hf := (if_neg c4).symm.trans hf
    refine lv_iconst (v := 1) hx hb dX4_hasWords_25 (by decide) ?_
    refine lv_goto (tgt := 30) hx hb dX4_hasWords_26 (by decide) ?_
    obtain rfl := Option.some.inj hf
    exact grRz (by decide) hx hb hr hlocks hP hK hD hS dX4_hasWords_30 (by omega) (by omega)
def At_md_copy_j142 (l : Launch) (G : va_G) (cI cL cZ cB : ClassId) (q : Nat) (w : va_W) (p : Program) (e : Env) (s : State) (m : MethodId) (args : Array Value) (below : List Frame) (meth : Method) (c : Code) (O0 : Ms × Unit) (mcT msT : Nat) (F : Int32 → Int32 → Int32 → Int32 → Int32 → Ms → Option (Ms × Unit)) : Prop := ∀ (A : Nat → Nat) (z : Ms) (x3 : Int32) (x4 : Int32) (x5 : Int32) (x6 : Int32) (t0 : Int32) (H : Heap) (locs : List Loc) (ls : Array Slot) (cells slots : Nat), va_P G vwCl (mw cI cL cZ cB q A z) H → va_D (va_A w s.heap.size) (mw cI cL cZ cB q A z) → va_S (va_A w s.heap.size) s.heap H locs → lv_has ls 8 [(0, .ref q), (3, .int x3), (4, .int x4), (5, .int x5), (6, .int x6)] → F x3 x4 x5 x6 t0 z = some O0 → cells + 0 ≤ mcT → slots + 0 ≤ msT → W p l e { frames := 1, cells := mcT, slots := msT, locals := 22 } s m args below meth c H locs cells slots (MQ below (qWv G vwCl (mt cI cL cZ cB) w s.heap.size (mw cI cL cZ cB q) O0) args s mcT msT (va_A w s.heap.size)) (F0 m 142 ls [.int t0])
def At_md_copy_l118 (l : Launch) (G : va_G) (cI cL cZ cB : ClassId) (q : Nat) (w : va_W) (p : Program) (e : Env) (s : State) (m : MethodId) (args : Array Value) (below : List Frame) (meth : Method) (c : Code) (O0 : Ms × Unit) (mcT msT : Nat) (F : Int32 → Int32 → Int32 → Int32 → Ms → Option (Ms × Unit)) : Prop := ∀ (A : Nat → Nat) (z : Ms) (x3 : Int32) (x4 : Int32) (x5 : Int32) (x6 : Int32) (H : Heap) (locs : List Loc) (ls : Array Slot) (cells slots : Nat), va_P G vwCl (mw cI cL cZ cB q A z) H → va_D (va_A w s.heap.size) (mw cI cL cZ cB q A z) → va_S (va_A w s.heap.size) s.heap H locs → lv_has ls 8 [(0, .ref q), (3, .int x3), (4, .int x4), (5, .int x5), (6, .int x6)] → F x3 x4 x5 x6 z = some O0 → cells + 0 ≤ mcT → slots + 0 ≤ msT → W p l e { frames := 1, cells := mcT, slots := msT, locals := 22 } s m args below meth c H locs cells slots (MQ below (qWv G vwCl (mt cI cL cZ cB) w s.heap.size (mw cI cL cZ cB q) O0) args s mcT msT (va_A w s.heap.size)) (F0 m 118 ls [])
def At_md_copy_j88 (l : Launch) (G : va_G) (cI cL cZ cB : ClassId) (q : Nat) (w : va_W) (p : Program) (e : Env) (s : State) (m : MethodId) (args : Array Value) (below : List Frame) (meth : Method) (c : Code) (O0 : Ms × Unit) (mcT msT : Nat) (F : Int32 → Int32 → Int32 → Int32 → Ms → Option (Ms × Unit)) : Prop := ∀ (A : Nat → Nat) (z : Ms) (x1 : Int32) (x2 : Int32) (x3 : Int32) (t0 : Int32) (H : Heap) (locs : List Loc) (ls : Array Slot) (cells slots : Nat), va_P G vwCl (mw cI cL cZ cB q A z) H → va_D (va_A w s.heap.size) (mw cI cL cZ cB q A z) → va_S (va_A w s.heap.size) s.heap H locs → lv_has ls 8 [(0, .ref q), (1, .int x1), (2, .int x2), (3, .int x3)] → F x1 x2 x3 t0 z = some O0 → cells + 0 ≤ mcT → slots + 0 ≤ msT → W p l e { frames := 1, cells := mcT, slots := msT, locals := 22 } s m args below meth c H locs cells slots (MQ below (qWv G vwCl (mt cI cL cZ cB) w s.heap.size (mw cI cL cZ cB q) O0) args s mcT msT (va_A w s.heap.size)) (F0 m 88 ls [.int t0, .ref q])
def At_md_copy_j83 (l : Launch) (G : va_G) (cI cL cZ cB : ClassId) (q : Nat) (w : va_W) (p : Program) (e : Env) (s : State) (m : MethodId) (args : Array Value) (below : List Frame) (meth : Method) (c : Code) (O0 : Ms × Unit) (mcT msT : Nat) (F : Int32 → Int32 → Int32 → Ms → Option (Ms × Unit)) : Prop := ∀ (A : Nat → Nat) (z : Ms) (x1 : Int32) (x2 : Int32) (x3 : Int32) (H : Heap) (locs : List Loc) (ls : Array Slot) (cells slots : Nat), va_P G vwCl (mw cI cL cZ cB q A z) H → va_D (va_A w s.heap.size) (mw cI cL cZ cB q A z) → va_S (va_A w s.heap.size) s.heap H locs → lv_has ls 8 [(0, .ref q), (1, .int x1), (2, .int x2), (3, .int x3)] → F x1 x2 x3 z = some O0 → cells + 0 ≤ mcT → slots + 0 ≤ msT → W p l e { frames := 1, cells := mcT, slots := msT, locals := 22 } s m args below meth c H locs cells slots (MQ below (qWv G vwCl (mt cI cL cZ cB) w s.heap.size (mw cI cL cZ cB q) O0) args s mcT msT (va_A w s.heap.size)) (F0 m 83 ls [.ref q])
def At_md_copy_j61 (l : Launch) (G : va_G) (cI cL cZ cB : ClassId) (q : Nat) (w : va_W) (p : Program) (e : Env) (s : State) (m : MethodId) (args : Array Value) (below : List Frame) (meth : Method) (c : Code) (O0 : Ms × Unit) (mcT msT : Nat) (F : Int32 → Int32 → Int32 → Ms → Option (Ms × Unit)) : Prop := ∀ (A : Nat → Nat) (z : Ms) (x1 : Int32) (x2 : Int32) (x3 : Int32) (H : Heap) (locs : List Loc) (ls : Array Slot) (cells slots : Nat), va_P G vwCl (mw cI cL cZ cB q A z) H → va_D (va_A w s.heap.size) (mw cI cL cZ cB q A z) → va_S (va_A w s.heap.size) s.heap H locs → lv_has ls 8 [(0, .ref q), (1, .int x1), (2, .int x2), (3, .int x3)] → F x1 x2 x3 z = some O0 → cells + 0 ≤ mcT → slots + 0 ≤ msT → W p l e { frames := 1, cells := mcT, slots := msT, locals := 22 } s m args below meth c H locs cells slots (MQ below (qWv G vwCl (mt cI cL cZ cB) w s.heap.size (mw cI cL cZ cB q) O0) args s mcT msT (va_A w s.heap.size)) (F0 m 61 ls [.ref q])
def At_md_copy_j31 (l : Launch) (G : va_G) (cI cL cZ cB : ClassId) (q : Nat) (w : va_W) (p : Program) (e : Env) (s : State) (m : MethodId) (args : Array Value) (below : List Frame) (meth : Method) (c : Code) (O0 : Ms × Unit) (mcT msT : Nat) (F : Int32 → Int32 → Int32 → Int32 → Ms → Option (Ms × Unit)) : Prop := ∀ (A : Nat → Nat) (z : Ms) (x1 : Int32) (x2 : Int32) (x3 : Int32) (t0 : Int32) (H : Heap) (locs : List Loc) (ls : Array Slot) (cells slots : Nat), va_P G vwCl (mw cI cL cZ cB q A z) H → va_D (va_A w s.heap.size) (mw cI cL cZ cB q A z) → va_S (va_A w s.heap.size) s.heap H locs → lv_has ls 8 [(0, .ref q), (1, .int x1), (2, .int x2), (3, .int x3)] → F x1 x2 x3 t0 z = some O0 → cells + 0 ≤ mcT → slots + 0 ≤ msT → W p l e { frames := 1, cells := mcT, slots := msT, locals := 22 } s m args below meth c H locs cells slots (MQ below (qWv G vwCl (mt cI cL cZ cB) w s.heap.size (mw cI cL cZ cB q) O0) args s mcT msT (va_A w s.heap.size)) (F0 m 31 ls [.int t0, .ref q])
def At_md_copy_j30 (l : Launch) (G : va_G) (cI cL cZ cB : ClassId) (q : Nat) (w : va_W) (p : Program) (e : Env) (s : State) (m : MethodId) (args : Array Value) (below : List Frame) (meth : Method) (c : Code) (O0 : Ms × Unit) (mcT msT : Nat) (F : Int32 → Int32 → Int32 → Ms → Option (Ms × Unit)) : Prop := ∀ (A : Nat → Nat) (z : Ms) (x1 : Int32) (x2 : Int32) (x3 : Int32) (H : Heap) (locs : List Loc) (ls : Array Slot) (cells slots : Nat), va_P G vwCl (mw cI cL cZ cB q A z) H → va_D (va_A w s.heap.size) (mw cI cL cZ cB q A z) → va_S (va_A w s.heap.size) s.heap H locs → lv_has ls 8 [(0, .ref q), (1, .int x1), (2, .int x2), (3, .int x3)] → F x1 x2 x3 z = some O0 → cells + 0 ≤ mcT → slots + 0 ≤ msT → W p l e { frames := 1, cells := mcT, slots := msT, locals := 22 } s m args below meth c H locs cells slots (MQ below (qWv G vwCl (mt cI cL cZ cB) w s.heap.size (mw cI cL cZ cB q) O0) args s mcT msT (va_A w s.heap.size)) (F0 m 30 ls [.ref q])
set_option maxHeartbeats 4000000 in
set_option maxRecDepth 100000 in
theorem L_md_copy_j142 (l : Launch) (G : va_G) (cI cL cZ cB : ClassId) (q : Nat) (w : va_W) (p : Program) (e : Env) (s : State) (m : MethodId) (args : Array Value) (below : List Frame) (meth : Method) (c : Code) (O0 : Ms × Unit) (mcT msT : Nat) (C : MC p s m args meth c cX4_copy 8 (none) RX4 vX4_copy) (hK : va_K G vwCl (mt cI cL cZ cB) s) (K118 : Int32 → Int32 → Int32 → Int32 → Ms → Option (Ms × Unit)) (hK118 : At_md_copy_l118 l G cI cL cZ cB q w p e s m args below meth c O0 mcT msT K118) : At_md_copy_j142 l G cI cL cZ cB q w p e s m args below meth c O0 mcT msT (md_copy_j142 K118 ) := by
  obtain ⟨hx, hb, hr, hml, hown, hts, hlocks⟩ := id C
  have FX : CallFix p m c cX4_copy 8 s args vX4_copy RX4 := ⟨hx, hb, hml, hown, hts⟩
  have hA : ∀ q9 : Nat, s.heap.size ≤ q9 → va_A w s.heap.size q9 := fun q9 h => Or.inr h
  intro A z x3 x4 x5 x6 t0 H locs ls cells slots hP hD hS hl hf hcc hss
  unfold md_copy_j142 at hf
  refine lv_istore (lv' := [(7, .int t0), (0, .ref q), (3, .int x3), (4, .int x4), (5, .int x5), (6, .int x6)]) hx hb dX4_copy_142 hl (by decide) rfl (fun ls hl => ?_)
  refine lv_aload_n hx hb dX4_copy_144 rfl (lv_at hl 1 rfl) ?_
  refine va_get (D := G) (ci := 4) (v := .ref (A 15)) (C := RX4) (T := TX4) (N := 32) hx hb hts (fun w h => .tail _ (wl_X4 w h)) hown hK hP 0 rfl rfl 22 (by decide) (hts _ (.tail _ wm_26)) (fun _ h9 => h9) rfl dX4_copy_145 ?_
  refine lv_iload hx hb dX4_copy_148 (lv_at hl 4 rfl) ?_
  refine lv_iload hx hb dX4_copy_150 (lv_at hl 0 rfl) ?_
  refine lv_iadd hx hb dX4_copy_152 ?_
  refine lv_aload_n hx hb dX4_copy_153 rfl (lv_at hl 1 rfl) ?_
  refine va_get (D := G) (ci := 4) (v := .ref (A 15)) (C := RX4) (T := TX4) (N := 32) hx hb hts (fun w h => .tail _ (wl_X4 w h)) hown hK hP 0 rfl rfl 22 (by decide) (hts _ (.tail _ wm_26)) (fun _ h9 => h9) rfl dX4_copy_154 ?_
  refine lv_iload hx hb dX4_copy_157 (lv_at hl 3 rfl) ?_
  refine lv_iload hx hb dX4_copy_159 (lv_at hl 0 rfl) ?_
  refine lv_iadd hx hb dX4_copy_161 ?_
  obtain ⟨hg21, hf⟩ := of_gd hf
  refine va_iald (f := (Ms.awt z)) (n := (Ms.nwt z)) hx hb hK hP 15 0 rfl rfl (inb_in hg21) dX4_copy_162 ?_
  obtain ⟨hg22, hf⟩ := of_gd hf
  refine va_iast (f := (Ms.awt z)) (n := (Ms.nwt z)) hx hb hK hP hD hS 15 0 rfl rfl (inb_in hg22) dX4_copy_163 (fun H locs hP hD hS => ?_)
  have hP : va_P G vwCl (mw cI cL cZ cB q A (Ms.wwt z (upd (Ms.awt z) ((x5 + t0).toNatClampNeg) ((Ms.awt z) (x4 + t0).toNatClampNeg)))) H := hP
  have hD : va_D _ (mw cI cL cZ cB q A (Ms.wwt z (upd (Ms.awt z) ((x5 + t0).toNatClampNeg) ((Ms.awt z) (x4 + t0).toNatClampNeg)))) := hD
  refine lv_aload_n hx hb dX4_copy_164 rfl (lv_at hl 1 rfl) ?_
  refine va_get (D := G) (ci := 4) (v := .ref (A 16)) (C := RX4) (T := TX4) (N := 32) hx hb hts (fun w h => .tail _ (wl_X4 w h)) hown hK hP 0 rfl rfl 23 (by decide) (hts _ (.tail _ wm_39)) (fun _ h9 => h9) rfl dX4_copy_165 ?_
  refine lv_iload hx hb dX4_copy_168 (lv_at hl 4 rfl) ?_
  refine lv_iload hx hb dX4_copy_170 (lv_at hl 0 rfl) ?_
  refine lv_iadd hx hb dX4_copy_172 ?_
  refine lv_aload_n hx hb dX4_copy_173 rfl (lv_at hl 1 rfl) ?_
  refine va_get (D := G) (ci := 4) (v := .ref (A 16)) (C := RX4) (T := TX4) (N := 32) hx hb hts (fun w h => .tail _ (wl_X4 w h)) hown hK hP 0 rfl rfl 23 (by decide) (hts _ (.tail _ wm_39)) (fun _ h9 => h9) rfl dX4_copy_174 ?_
  refine lv_iload hx hb dX4_copy_177 (lv_at hl 3 rfl) ?_
  refine lv_iload hx hb dX4_copy_179 (lv_at hl 0 rfl) ?_
  refine lv_iadd hx hb dX4_copy_181 ?_
  obtain ⟨hg23, hf⟩ := of_gd hf
  refine va_lald (f := (Ms.awv z)) (n := (Ms.nwv z)) hx hb hK hP 16 1 rfl rfl (inb_in hg23) dX4_copy_182 ?_
  obtain ⟨hg24, hf⟩ := of_gd hf
  refine va_last (f := (Ms.awv z)) (n := (Ms.nwv z)) hx hb hK hP hD hS 16 1 rfl rfl (inb_in hg24) dX4_copy_183 (fun H locs hP hD hS => ?_)
  have hP : va_P G vwCl (mw cI cL cZ cB q A (Ms.wwv (Ms.wwt z (upd (Ms.awt z) ((x5 + t0).toNatClampNeg) ((Ms.awt z) (x4 + t0).toNatClampNeg))) (vp_updL (Ms.awv z) ((x5 + t0).toNatClampNeg) ((Ms.awv z) (x4 + t0).toNatClampNeg)))) H := hP
  have hD : va_D _ (mw cI cL cZ cB q A (Ms.wwv (Ms.wwt z (upd (Ms.awt z) ((x5 + t0).toNatClampNeg) ((Ms.awt z) (x4 + t0).toNatClampNeg))) (vp_updL (Ms.awv z) ((x5 + t0).toNatClampNeg) ((Ms.awv z) (x4 + t0).toNatClampNeg)))) := hD
  refine lv_iinc (v := (x6 + 1)) (lv' := [(6, .int (x6 + 1)), (7, .int t0), (0, .ref q), (3, .int x3), (4, .int x4), (5, .int x5)]) hx hb dX4_copy_184 hl (k := 5) rfl rfl (by decide) rfl (fun ls hl => ?_)
  refine lv_goto (tgt := 118) hx hb dX4_copy_187 (by decide) ?_
  exact hK118 _ _ _ _ _ _ _ _ _ _ _ hP hD hS (lv_sub hl [2, 3, 4, 5, 0] rfl) hf (by omega) (by omega)
set_option maxHeartbeats 4000000 in
set_option maxRecDepth 100000 in
theorem L_md_copy_l118 (l : Launch) (G : va_G) (cI cL cZ cB : ClassId) (q : Nat) (w : va_W) (p : Program) (e : Env) (s : State) (m : MethodId) (args : Array Value) (below : List Frame) (meth : Method) (c : Code) (O0 : Ms × Unit) (mcT msT : Nat) (C : MC p s m args meth c cX4_copy 8 (none) RX4 vX4_copy) (hK : va_K G vwCl (mt cI cL cZ cB) s) : ∀ n : Nat, At_md_copy_l118 l G cI cL cZ cB q w p e s m args below meth c O0 mcT msT (md_copy_l118 n) := by
  obtain ⟨hx, hb, hr, hml, hown, hts, hlocks⟩ := id C
  have FX : CallFix p m c cX4_copy 8 s args vX4_copy RX4 := ⟨hx, hb, hml, hown, hts⟩
  have hA : ∀ q9 : Nat, s.heap.size ≤ q9 → va_A w s.heap.size q9 := fun q9 h => Or.inr h
  intro n
  induction n with
  | zero =>
    intro A z x3 x4 x5 x6 H locs ls cells slots hP hD hS hl hf hcc hss
    exact nomatch (show none = some _ from hf)
  | succ n ih =>
    intro A z x3 x4 x5 x6 H locs ls cells slots hP hD hS hl hf hcc hss
    rw [md_copy_l118] at hf
    refine lv_iload hx hb dX4_copy_118 (lv_at hl 4 rfl) ?_
    refine lv_iload_n hx hb dX4_copy_120 rfl (lv_at hl 1 rfl) ?_
    refine lv_icmp_ge (tgt := 190) hx hb dX4_copy_121 (by decide) (fun c19 => ?_) (fun c19 => ?_)
    · have hf := (if_pos c19).symm.trans hf
      obtain rfl := Option.some.inj hf
      exact grWv hx hb hr hlocks hP hK hD hS dX4_copy_190 (by omega) (by omega)
    · have hf := (if_neg c19).symm.trans hf
      refine lv_iload hx hb dX4_copy_124 (lv_at hl 2 rfl) ?_
      refine lv_iload hx hb dX4_copy_126 (lv_at hl 3 rfl) ?_
      refine lv_icmp_ge (tgt := 140) hx hb dX4_copy_128 (by decide) (fun c20 => ?_) (fun c20 => ?_)
      · have hf := (if_pos c20).symm.trans hf
        refine lv_iload hx hb dX4_copy_140 (lv_at hl 4 rfl) ?_
        exact L_md_copy_j142 _ _ _ _ _ _ _ _ _ _ _ _ _ _ _ _ _ _ _ C hK _ ih _ _ _ _ _ _ _ _ _ _ _ _ hP hD hS (lv_sub hl [0, 1, 2, 3, 4] rfl) hf (by omega) (by omega)
      · have hf := (if_neg c20).symm.trans hf
        refine lv_iload_n hx hb dX4_copy_131 rfl (lv_at hl 1 rfl) ?_
        refine lv_iconst (v := 1) hx hb dX4_copy_132 (by decide) ?_
        refine lv_isub hx hb dX4_copy_133 ?_
        refine lv_iload hx hb dX4_copy_134 (lv_at hl 4 rfl) ?_
        refine lv_isub hx hb dX4_copy_136 ?_
        refine lv_goto (tgt := 142) hx hb dX4_copy_137 (by decide) ?_
        exact L_md_copy_j142 _ _ _ _ _ _ _ _ _ _ _ _ _ _ _ _ _ _ _ C hK _ ih _ _ _ _ _ _ _ _ _ _ _ _ hP hD hS (lv_sub hl [0, 1, 2, 3, 4] rfl) hf (by omega) (by omega)
set_option maxHeartbeats 4000000 in
set_option maxRecDepth 100000 in
theorem L_md_copy_j88 (l : Launch) (G : va_G) (cI cL cZ cB : ClassId) (q : Nat) (w : va_W) (p : Program) (e : Env) (s : State) (m : MethodId) (args : Array Value) (below : List Frame) (meth : Method) (c : Code) (O0 : Ms × Unit) (mcT msT : Nat) (C : MC p s m args meth c cX4_copy 8 (none) RX4 vX4_copy) (hK : va_K G vwCl (mt cI cL cZ cB) s) : At_md_copy_j88 l G cI cL cZ cB q w p e s m args below meth c O0 mcT msT md_copy_j88 := by
  obtain ⟨hx, hb, hr, hml, hown, hts, hlocks⟩ := id C
  have FX : CallFix p m c cX4_copy 8 s args vX4_copy RX4 := ⟨hx, hb, hml, hown, hts⟩
  have hA : ∀ q9 : Nat, s.heap.size ≤ q9 → va_A w s.heap.size q9 := fun q9 h => Or.inr h
  intro A z x1 x2 x3 t0 H locs ls cells slots hP hD hS hl hf hcc hss
  unfold md_copy_j88 at hf
  refine va_put (D := G) (ci := 4) (v := .int t0) (ty := .int) (C := RX4) (T := TX4) (N := 32) hx hb hts (fun w h => .tail _ (wl_X4 w h)) tyX4 tyX4_ok nmX4 hown hK hP hD hS 0 rfl rfl 0 (by decide) (hts _ (.tail _ wm_0)) (fun _ h9 => h9) rfl (by decide +kernel) rfl rfl (Nat.le_of_ble_eq_true rfl) dX4_copy_88 (fun H locs hP hD hS => ?_)
  have hP : va_P G vwCl (mw cI cL cZ cB q A (Ms.sthr z t0)) H := hP
  have hD : va_D _ (mw cI cL cZ cB q A (Ms.sthr z t0)) := hD
  refine lv_aload_n hx hb dX4_copy_91 rfl (lv_at hl 0 rfl) ?_
  refine va_get (D := G) (ci := 4) (v := .int t0) (C := RX4) (T := TX4) (N := 32) hx hb hts (fun w h => .tail _ (wl_X4 w h)) hown hK hP 0 rfl rfl 0 (by decide) (hts _ (.tail _ wm_0)) (fun _ h9 => h9) rfl dX4_copy_92 ?_
  refine lv_if_le (tgt := 99) hx hb dX4_copy_95 (by decide) (fun c16 => ?_) (fun c16 => ?_)
  · have hf := (if_pos c16).symm.trans hf
    refine lv_aload_n hx hb dX4_copy_99 rfl (lv_at hl 0 rfl) ?_
    refine lv_iload_n hx hb dX4_copy_100 rfl (lv_at hl 2 rfl) ?_
    refine lv_iconst (v := 0) hx hb dX4_copy_101 (by decide) ?_
    obtain ⟨r17, ho17, hf⟩ := of_b0 hf
    refine gcRi (gV FX [.int x2, .int 0] (c_md_at l G cI cL cZ cB q A (Ms.sthr z t0) _ x2 0 _ ho17) (cwV 2 hts (gi_V wm_126 wm_127 wm_128 wm_6 wm_129) rfl rfl rfl hdV_X4_at ⟨Nat.le_of_ble_eq_true rfl, Nat.le_of_ble_eq_true rfl⟩) hK hP hD 0 rfl rfl rfl hl.1 (Nat.le_of_ble_eq_true rfl) dX4_copy_102 ⟨by show _ ≤ mcT; omega, by show _ ≤ msT; omega⟩) hS hD hA (fun H locs hP hS => ?_)
    refine lv_istore (lv' := [(4, .int r17), (0, .ref q), (1, .int x1), (2, .int x2), (3, .int x3)]) hx hb dX4_copy_105 hl (by decide) rfl (fun ls hl => ?_)
    refine lv_aload_n hx hb dX4_copy_107 rfl (lv_at hl 1 rfl) ?_
    refine lv_iload_n hx hb dX4_copy_108 rfl (lv_at hl 2 rfl) ?_
    refine lv_iconst (v := 0) hx hb dX4_copy_109 (by decide) ?_
    obtain ⟨r18, ho18, hf⟩ := of_b0 hf
    refine gcRi (gV FX [.int x1, .int 0] (c_md_at l G cI cL cZ cB q A (Ms.sthr z t0) _ x1 0 _ ho18) (cwV 2 hts (gi_V wm_126 wm_127 wm_128 wm_6 wm_129) rfl rfl rfl hdV_X4_at ⟨Nat.le_of_ble_eq_true rfl, Nat.le_of_ble_eq_true rfl⟩) hK hP hD 0 rfl rfl rfl hl.1 (Nat.le_of_ble_eq_true rfl) dX4_copy_110 ⟨by show _ ≤ mcT; omega, by show _ ≤ msT; omega⟩) hS hD hA (fun H locs hP hS => ?_)
    refine lv_istore (lv' := [(5, .int r18), (4, .int r17), (0, .ref q), (1, .int x1), (2, .int x2), (3, .int x3)]) hx hb dX4_copy_113 hl (by decide) rfl (fun ls hl => ?_)
    refine lv_iconst (v := 0) hx hb dX4_copy_115 (by decide) ?_
    refine lv_istore (lv' := [(6, .int 0), (5, .int r18), (4, .int r17), (0, .ref q), (1, .int x1), (2, .int x2), (3, .int x3)]) hx hb dX4_copy_116 hl (by decide) rfl (fun ls hl => ?_)
    exact L_md_copy_l118 _ _ _ _ _ _ _ _ _ _ _ _ _ _ _ _ _ _ _ C hK FU _ _ _ _ _ _ _ _ _ _ _ hP hD hS (lv_sub hl [3, 6, 2, 1, 0] rfl) hf (by omega) (by omega)
  · have hf := (if_neg c16).symm.trans hf
    obtain rfl := Option.some.inj hf
    exact grWv hx hb hr hlocks hP hK hD hS dX4_copy_98 (by omega) (by omega)
set_option maxHeartbeats 4000000 in
set_option maxRecDepth 100000 in
theorem L_md_copy_j83 (l : Launch) (G : va_G) (cI cL cZ cB : ClassId) (q : Nat) (w : va_W) (p : Program) (e : Env) (s : State) (m : MethodId) (args : Array Value) (below : List Frame) (meth : Method) (c : Code) (O0 : Ms × Unit) (mcT msT : Nat) (C : MC p s m args meth c cX4_copy 8 (none) RX4 vX4_copy) (hK : va_K G vwCl (mt cI cL cZ cB) s) : At_md_copy_j83 l G cI cL cZ cB q w p e s m args below meth c O0 mcT msT md_copy_j83 := by
  obtain ⟨hx, hb, hr, hml, hown, hts, hlocks⟩ := id C
  have FX : CallFix p m c cX4_copy 8 s args vX4_copy RX4 := ⟨hx, hb, hml, hown, hts⟩
  have hA : ∀ q9 : Nat, s.heap.size ≤ q9 → va_A w s.heap.size q9 := fun q9 h => Or.inr h
  intro A z x1 x2 x3 H locs ls cells slots hP hD hS hl hf hcc hss
  unfold md_copy_j83 at hf
  refine lv_iconst (v := 3) hx hb dX4_copy_83 (by decide) ?_
  refine lv_goto (tgt := 88) hx hb dX4_copy_84 (by decide) ?_
  exact L_md_copy_j88 _ _ _ _ _ _ _ _ _ _ _ _ _ _ _ _ _ _ _ C hK _ _ _ _ _ _ _ _ _ _ _ hP hD hS (lv_sub hl [0, 1, 2, 3] rfl) hf (by omega) (by omega)
set_option maxHeartbeats 4000000 in
set_option maxRecDepth 100000 in
theorem L_md_copy_j61 (l : Launch) (G : va_G) (cI cL cZ cB : ClassId) (q : Nat) (w : va_W) (p : Program) (e : Env) (s : State) (m : MethodId) (args : Array Value) (below : List Frame) (meth : Method) (c : Code) (O0 : Ms × Unit) (mcT msT : Nat) (C : MC p s m args meth c cX4_copy 8 (none) RX4 vX4_copy) (hK : va_K G vwCl (mt cI cL cZ cB) s) : At_md_copy_j61 l G cI cL cZ cB q w p e s m args below meth c O0 mcT msT md_copy_j61 := by
  obtain ⟨hx, hb, hr, hml, hown, hts, hlocks⟩ := id C
  have FX : CallFix p m c cX4_copy 8 s args vX4_copy RX4 := ⟨hx, hb, hml, hown, hts⟩
  have hA : ∀ q9 : Nat, s.heap.size ≤ q9 → va_A w s.heap.size q9 := fun q9 h => Or.inr h
  intro A z x1 x2 x3 H locs ls cells slots hP hD hS hl hf hcc hss
  unfold md_copy_j61 at hf
  refine lv_iconst (v := 2) hx hb dX4_copy_61 (by decide) ?_
  refine lv_goto (tgt := 88) hx hb dX4_copy_62 (by decide) ?_
  exact L_md_copy_j88 _ _ _ _ _ _ _ _ _ _ _ _ _ _ _ _ _ _ _ C hK _ _ _ _ _ _ _ _ _ _ _ hP hD hS (lv_sub hl [0, 1, 2, 3] rfl) hf (by omega) (by omega)
set_option maxHeartbeats 4000000 in
set_option maxRecDepth 100000 in
theorem L_md_copy_j31 (l : Launch) (G : va_G) (cI cL cZ cB : ClassId) (q : Nat) (w : va_W) (p : Program) (e : Env) (s : State) (m : MethodId) (args : Array Value) (below : List Frame) (meth : Method) (c : Code) (O0 : Ms × Unit) (mcT msT : Nat) (C : MC p s m args meth c cX4_copy 8 (none) RX4 vX4_copy) (hK : va_K G vwCl (mt cI cL cZ cB) s) : At_md_copy_j31 l G cI cL cZ cB q w p e s m args below meth c O0 mcT msT md_copy_j31 := by
  obtain ⟨hx, hb, hr, hml, hown, hts, hlocks⟩ := id C
  have FX : CallFix p m c cX4_copy 8 s args vX4_copy RX4 := ⟨hx, hb, hml, hown, hts⟩
  have hA : ∀ q9 : Nat, s.heap.size ≤ q9 → va_A w s.heap.size q9 := fun q9 h => Or.inr h
  intro A z x1 x2 x3 t0 H locs ls cells slots hP hD hS hl hf hcc hss
  unfold md_copy_j31 at hf
  refine va_put (D := G) (ci := 4) (v := .int t0) (ty := .int) (C := RX4) (T := TX4) (N := 32) hx hb hts (fun w h => .tail _ (wl_X4 w h)) tyX4 tyX4_ok nmX4 hown hK hP hD hS 0 rfl rfl 0 (by decide) (hts _ (.tail _ wm_0)) (fun _ h9 => h9) rfl (by decide +kernel) rfl rfl (Nat.le_of_ble_eq_true rfl) dX4_copy_31 (fun H locs hP hD hS => ?_)
  have hP : va_P G vwCl (mw cI cL cZ cB q A (Ms.sthr z t0)) H := hP
  have hD : va_D _ (mw cI cL cZ cB q A (Ms.sthr z t0)) := hD
  refine lv_aload_n hx hb dX4_copy_34 rfl (lv_at hl 0 rfl) ?_
  refine va_get (D := G) (ci := 4) (v := .int t0) (C := RX4) (T := TX4) (N := 32) hx hb hts (fun w h => .tail _ (wl_X4 w h)) hown hK hP 0 rfl rfl 0 (by decide) (hts _ (.tail _ wm_0)) (fun _ h9 => h9) rfl dX4_copy_35 ?_
  refine lv_if_le (tgt := 42) hx hb dX4_copy_38 (by decide) (fun c7 => ?_) (fun c7 => ?_)
  · have hf := (if_pos c7).symm.trans hf
    refine lv_aload_n hx hb dX4_copy_42 rfl (lv_at hl 0 rfl) ?_
    refine lv_aload_n hx hb dX4_copy_43 rfl (lv_at hl 0 rfl) ?_
    refine lv_iload_n hx hb dX4_copy_44 rfl (lv_at hl 1 rfl) ?_
    refine lv_iconst (v := 2) hx hb dX4_copy_45 (by decide) ?_
    obtain ⟨r8, ho8, hf⟩ := of_b0 hf
    refine gcRi (gV FX [.int x1, .int 2] (c_md_is l G cI cL cZ cB q A (Ms.sthr z t0) _ x1 2 _ ho8) (cwV 2 hts (gi_V wm_3 wm_4 wm_5 wm_6 wm_7) rfl rfl rfl hdV_X4_is ⟨Nat.le_of_ble_eq_true rfl, Nat.le_of_ble_eq_true rfl⟩) hK hP hD 0 rfl rfl rfl hl.1 (Nat.le_of_ble_eq_true rfl) dX4_copy_46 ⟨by show _ ≤ mcT; omega, by show _ ≤ msT; omega⟩) hS hD hA (fun H locs hP hS => ?_)
    refine lv_if_eq (tgt := 61) hx hb dX4_copy_49 (by decide) (fun c9 => ?_) (fun c9 => ?_)
    · have hf := (if_pos c9).symm.trans hf
      exact L_md_copy_j61 _ _ _ _ _ _ _ _ _ _ _ _ _ _ _ _ _ _ _ C hK _ _ _ _ _ _ _ _ _ _ hP hD hS (lv_sub hl [0, 1, 2, 3] rfl) hf (by omega) (by omega)
    · have hf := (if_neg c9).symm.trans hf
      refine lv_aload_n hx hb dX4_copy_52 rfl (lv_at hl 0 rfl) ?_
      refine lv_iload_n hx hb dX4_copy_53 rfl (lv_at hl 2 rfl) ?_
      refine lv_iconst (v := 2) hx hb dX4_copy_54 (by decide) ?_
      obtain ⟨r10, ho10, hf⟩ := of_b0 hf
      refine gcRi (gV FX [.int x2, .int 2] (c_md_is l G cI cL cZ cB q A (Ms.sthr z t0) _ x2 2 _ ho10) (cwV 2 hts (gi_V wm_3 wm_4 wm_5 wm_6 wm_7) rfl rfl rfl hdV_X4_is ⟨Nat.le_of_ble_eq_true rfl, Nat.le_of_ble_eq_true rfl⟩) hK hP hD 0 rfl rfl rfl hl.1 (Nat.le_of_ble_eq_true rfl) dX4_copy_55 ⟨by show _ ≤ mcT; omega, by show _ ≤ msT; omega⟩) hS hD hA (fun H locs hP hS => ?_)
      refine lv_if_ne (tgt := 65) hx hb dX4_copy_58 (by decide) (fun c11 => ?_) (fun c11 => ?_)
      · have hf := (if_neg c11).symm.trans hf
        refine lv_aload_n hx hb dX4_copy_65 rfl (lv_at hl 0 rfl) ?_
        refine lv_iload_n hx hb dX4_copy_66 rfl (lv_at hl 1 rfl) ?_
        refine lv_iload_n hx hb dX4_copy_67 rfl (lv_at hl 3 rfl) ?_
        obtain ⟨r12, ho12, hf⟩ := of_b0 hf
        refine gcRi (gV FX [.int x1, .int x3] (c_md_hasWords l G cI cL cZ cB q A (Ms.sthr z t0) _ x1 x3 _ ho12) (cwV 2 hts (gi_V wm_130 wm_131 wm_132 wm_6 wm_133) rfl rfl rfl hdV_X4_hasWords ⟨Nat.le_of_ble_eq_true rfl, Nat.le_of_ble_eq_true rfl⟩) hK hP hD 0 rfl rfl rfl hl.1 (Nat.le_of_ble_eq_true rfl) dX4_copy_68 ⟨by show _ ≤ mcT; omega, by show _ ≤ msT; omega⟩) hS hD hA (fun H locs hP hS => ?_)
        refine lv_if_eq (tgt := 83) hx hb dX4_copy_71 (by decide) (fun c13 => ?_) (fun c13 => ?_)
        · have hf := (if_pos c13).symm.trans hf
          exact L_md_copy_j83 _ _ _ _ _ _ _ _ _ _ _ _ _ _ _ _ _ _ _ C hK _ _ _ _ _ _ _ _ _ _ hP hD hS (lv_sub hl [0, 1, 2, 3] rfl) hf (by omega) (by omega)
        · have hf := (if_neg c13).symm.trans hf
          refine lv_aload_n hx hb dX4_copy_74 rfl (lv_at hl 0 rfl) ?_
          refine lv_iload_n hx hb dX4_copy_75 rfl (lv_at hl 2 rfl) ?_
          refine lv_iload_n hx hb dX4_copy_76 rfl (lv_at hl 3 rfl) ?_
          obtain ⟨r14, ho14, hf⟩ := of_b0 hf
          refine gcRi (gV FX [.int x2, .int x3] (c_md_hasWords l G cI cL cZ cB q A (Ms.sthr z t0) _ x2 x3 _ ho14) (cwV 2 hts (gi_V wm_130 wm_131 wm_132 wm_6 wm_133) rfl rfl rfl hdV_X4_hasWords ⟨Nat.le_of_ble_eq_true rfl, Nat.le_of_ble_eq_true rfl⟩) hK hP hD 0 rfl rfl rfl hl.1 (Nat.le_of_ble_eq_true rfl) dX4_copy_77 ⟨by show _ ≤ mcT; omega, by show _ ≤ msT; omega⟩) hS hD hA (fun H locs hP hS => ?_)
          refine lv_if_ne (tgt := 87) hx hb dX4_copy_80 (by decide) (fun c15 => ?_) (fun c15 => ?_)
          · have hf := (if_neg c15).symm.trans hf
            refine lv_iconst (v := 0) hx hb dX4_copy_87 (by decide) ?_
            exact L_md_copy_j88 _ _ _ _ _ _ _ _ _ _ _ _ _ _ _ _ _ _ _ C hK _ _ _ _ _ _ _ _ _ _ _ hP hD hS (lv_sub hl [0, 1, 2, 3] rfl) hf (by omega) (by omega)
          · have hf := (if_pos c15).symm.trans hf
            exact L_md_copy_j83 _ _ _ _ _ _ _ _ _ _ _ _ _ _ _ _ _ _ _ C hK _ _ _ _ _ _ _ _ _ _ hP hD hS (lv_sub hl [0, 1, 2, 3] rfl) hf (by omega) (by omega)
      · have hf := (if_pos c11).symm.trans hf
        exact L_md_copy_j61 _ _ _ _ _ _ _ _ _ _ _ _ _ _ _ _ _ _ _ C hK _ _ _ _ _ _ _ _ _ _ hP hD hS (lv_sub hl [0, 1, 2, 3] rfl) hf (by omega) (by omega)
  · have hf := (if_neg c7).symm.trans hf
    obtain rfl := Option.some.inj hf
    exact grWv hx hb hr hlocks hP hK hD hS dX4_copy_41 (by omega) (by omega)
set_option maxHeartbeats 4000000 in
set_option maxRecDepth 100000 in
theorem L_md_copy_j30 (l : Launch) (G : va_G) (cI cL cZ cB : ClassId) (q : Nat) (w : va_W) (p : Program) (e : Env) (s : State) (m : MethodId) (args : Array Value) (below : List Frame) (meth : Method) (c : Code) (O0 : Ms × Unit) (mcT msT : Nat) (C : MC p s m args meth c cX4_copy 8 (none) RX4 vX4_copy) (hK : va_K G vwCl (mt cI cL cZ cB) s) : At_md_copy_j30 l G cI cL cZ cB q w p e s m args below meth c O0 mcT msT md_copy_j30 := by
  obtain ⟨hx, hb, hr, hml, hown, hts, hlocks⟩ := id C
  have FX : CallFix p m c cX4_copy 8 s args vX4_copy RX4 := ⟨hx, hb, hml, hown, hts⟩
  have hA : ∀ q9 : Nat, s.heap.size ≤ q9 → va_A w s.heap.size q9 := fun q9 h => Or.inr h
  intro A z x1 x2 x3 H locs ls cells slots hP hD hS hl hf hcc hss
  unfold md_copy_j30 at hf
  refine lv_iconst (v := 1) hx hb dX4_copy_30 (by decide) ?_
  exact L_md_copy_j31 _ _ _ _ _ _ _ _ _ _ _ _ _ _ _ _ _ _ _ C hK _ _ _ _ _ _ _ _ _ _ _ hP hD hS (lv_sub hl [0, 1, 2, 3] rfl) hf (by omega) (by omega)
set_option maxHeartbeats 4000000 in
set_option maxRecDepth 100000 in
theorem c_md_copy (l : Launch) (G : va_G) (cI cL cZ cB : ClassId) (q : Nat) (A : Nat → Nat) (z : Ms) (sz : Nat) (p0 : Int32) (p1 : Int32) (p2 : Int32) (O0 : Ms × Unit) (hf : md_copy z p0 p1 p2 = some O0) : Met l yX4_copy vX4_copy { frames := 1, cells := 0, slots := 0, locals := 22 } (gPc G vwCl (mt cI cL cZ cB) [.ref q, .int p0, .int p1, .int p2] (mw cI cL cZ cB q A z) sz) (qWv G vwCl (mt cI cL cZ cB) (mw cI cL cZ cB q A z) sz (mw cI cL cZ cB q) O0) 0 0 (va_A (mw cI cL cZ cB q A z) sz) := by
  refine gMet (by decide) rfl (Nat.le_of_ble_eq_true rfl) ?_
  intro p e s m below meth c ls C hK hP hD hsz hl
  subst hsz
  obtain ⟨hx, hb, hr, hml, hown, hts, hlocks⟩ := id C
  have FX : CallFix p m c cX4_copy 8 s _ vX4_copy RX4 := ⟨hx, hb, hml, hown, hts⟩
  have hA : ∀ q9 : Nat, s.heap.size ≤ q9 → va_A (mw cI cL cZ cB q A z) s.heap.size q9 := fun q9 h => Or.inr h
  have hS : va_S (va_A (mw cI cL cZ cB q A z) s.heap.size) s.heap s.heap [] := va_S.rf
  have hl : lv_has ls 8 [(0, .ref q), (1, .int p0), (2, .int p1), (3, .int p2)] := hl
  unfold md_copy at hf
  refine lv_aload_n hx hb dX4_copy_0 rfl (lv_at hl 0 rfl) ?_
  refine lv_iload_n hx hb dX4_copy_1 rfl (lv_at hl 1 rfl) ?_
  obtain ⟨r1, ho1, hf⟩ := of_b0 hf
  refine gcRi (gS FX [.int p0] (c_md_isRegister l G cI cL cZ cB q A z _ p0 _ ho1) (cwS 1 hts (gi_S wm_79 wm_80 wm_6 wm_81) rfl rfl rfl hdS_X4_isRegister ⟨Nat.le_of_ble_eq_true rfl, Nat.le_of_ble_eq_true rfl⟩) hK hP hD rfl hl.1 (Nat.le_of_ble_eq_true rfl) dX4_copy_2 ⟨by show _ ≤ 0; omega, by show _ ≤ 0; omega⟩) hS hD hA (fun H locs hP hS => ?_)
  refine lv_if_eq (tgt := 30) hx hb dX4_copy_5 (by decide) (fun c2 => ?_) (fun c2 => ?_)
  · have hf := (if_pos c2).symm.trans hf
    exact L_md_copy_j30 _ _ _ _ _ _ _ _ _ _ _ _ _ _ _ _ _ _ _ C hK _ _ _ _ _ _ _ _ _ _ hP hD hS (lv_sub hl [0, 1, 2, 3] rfl) hf (by omega) (by omega)
  · have hf := (if_neg c2).symm.trans hf
    refine lv_iload_n hx hb dX4_copy_8 rfl (lv_at hl 2 rfl) ?_
    obtain ⟨r3, ho3, hf⟩ := of_b0 hf
    refine gcRi (gS FX [.int p1] (c_md_isRegister l G cI cL cZ cB q A z _ p1 _ ho3) (cwS 1 hts (gi_S wm_79 wm_80 wm_6 wm_81) rfl rfl rfl hdS_X4_isRegister ⟨Nat.le_of_ble_eq_true rfl, Nat.le_of_ble_eq_true rfl⟩) hK hP hD rfl hl.1 (Nat.le_of_ble_eq_true rfl) dX4_copy_9 ⟨by show _ ≤ 0; omega, by show _ ≤ 0; omega⟩) hS hD hA (fun H locs hP hS => ?_)
    refine lv_if_eq (tgt := 30) hx hb dX4_copy_12 (by decide) (fun c4 => ?_) (fun c4 => ?_)
    · have hf := (if_pos c4).symm.trans hf
      exact L_md_copy_j30 _ _ _ _ _ _ _ _ _ _ _ _ _ _ _ _ _ _ _ C hK _ _ _ _ _ _ _ _ _ _ hP hD hS (lv_sub hl [0, 1, 2, 3] rfl) hf (by omega) (by omega)
    · have hf := (if_neg c4).symm.trans hf
      refine lv_iload_n hx hb dX4_copy_15 rfl (lv_at hl 3 rfl) ?_
      refine lv_iconst (v := 0) hx hb dX4_copy_16 (by decide) ?_
      refine lv_sipush (v := 4096) hx hb dX4_copy_17 (by decide) ?_
      obtain ⟨r5, ho5, hf⟩ := of_b0 hf
      refine gcRi (gS FX [.int p2, .int 0, .int 4096] (c_md_outside l G cI cL cZ cB q A z _ p2 0 4096 _ ho5) (cwS 3 hts (gi_S wm_89 wm_90 wm_6 wm_91) rfl rfl rfl hdS_X4_outside ⟨Nat.le_of_ble_eq_true rfl, Nat.le_of_ble_eq_true rfl⟩) hK hP hD rfl hl.1 (Nat.le_of_ble_eq_true rfl) dX4_copy_20 ⟨by show _ ≤ 0; omega, by show _ ≤ 0; omega⟩) hS hD hA (fun H locs hP hS => ?_)
      refine lv_if_ne (tgt := 30) hx hb dX4_copy_23 (by decide) (fun c6 => ?_) (fun c6 => ?_)
      · have hf := (if_neg c6).symm.trans hf
        exact L_md_copy_j30 _ _ _ _ _ _ _ _ _ _ _ _ _ _ _ _ _ _ _ C hK _ _ _ _ _ _ _ _ _ _ hP hD hS (lv_sub hl [0, 1, 2, 3] rfl) hf (by omega) (by omega)
      · have hf := (if_pos c6).symm.trans hf
        refine lv_iconst (v := 0) hx hb dX4_copy_26 (by decide) ?_
        refine lv_goto (tgt := 31) hx hb dX4_copy_27 (by decide) ?_
        exact L_md_copy_j31 _ _ _ _ _ _ _ _ _ _ _ _ _ _ _ _ _ _ _ C hK _ _ _ _ _ _ _ _ _ _ _ hP hD hS (lv_sub hl [0, 1, 2, 3] rfl) hf (by omega) (by omega)
def At_md_alikeWord_j53 (l : Launch) (G : va_G) (cI cL cZ cB : ClassId) (q : Nat) (A : Nat → Nat) (z : Ms) (p : Program) (e : Env) (s : State) (m : MethodId) (args : Array Value) (below : List Frame) (meth : Method) (c : Code) (O0 : Int32) (mcT msT : Nat) (F : Ms → Option (Int32)) : Prop := ∀ (_ : Unit) (H : Heap) (locs : List Loc) (ls : Array Slot) (cells slots : Nat), va_P G vwCl (mw cI cL cZ cB q A z) H → va_D (va_A (mw cI cL cZ cB q A z) s.heap.size) (mw cI cL cZ cB q A z) → va_S (va_A (mw cI cL cZ cB q A z) s.heap.size) s.heap H locs → lv_has ls 9 [] → F z = some O0 → cells + 0 ≤ mcT → slots + 0 ≤ msT → W p l e { frames := 2, cells := mcT, slots := msT, locals := 45 } s m args below meth c H locs cells slots (MQ below (qRi G vwCl (mt cI cL cZ cB) (mw cI cL cZ cB q A z) s.heap.size O0) args s mcT msT (va_A (mw cI cL cZ cB q A z) s.heap.size)) (F0 m 53 ls [])
def At_md_alikeWord_j49 (l : Launch) (G : va_G) (cI cL cZ cB : ClassId) (q : Nat) (A : Nat → Nat) (z : Ms) (p : Program) (e : Env) (s : State) (m : MethodId) (args : Array Value) (below : List Frame) (meth : Method) (c : Code) (O0 : Int32) (mcT msT : Nat) (F : Ms → Option (Int32)) : Prop := ∀ (_ : Unit) (H : Heap) (locs : List Loc) (ls : Array Slot) (cells slots : Nat), va_P G vwCl (mw cI cL cZ cB q A z) H → va_D (va_A (mw cI cL cZ cB q A z) s.heap.size) (mw cI cL cZ cB q A z) → va_S (va_A (mw cI cL cZ cB q A z) s.heap.size) s.heap H locs → lv_has ls 9 [] → F z = some O0 → cells + 0 ≤ mcT → slots + 0 ≤ msT → W p l e { frames := 2, cells := mcT, slots := msT, locals := 45 } s m args below meth c H locs cells slots (MQ below (qRi G vwCl (mt cI cL cZ cB) (mw cI cL cZ cB q A z) s.heap.size O0) args s mcT msT (va_A (mw cI cL cZ cB q A z) s.heap.size)) (F0 m 49 ls [])
set_option maxHeartbeats 4000000 in
set_option maxRecDepth 100000 in
theorem L_md_alikeWord_j53 (l : Launch) (G : va_G) (cI cL cZ cB : ClassId) (q : Nat) (A : Nat → Nat) (z : Ms) (p : Program) (e : Env) (s : State) (m : MethodId) (args : Array Value) (below : List Frame) (meth : Method) (c : Code) (O0 : Int32) (mcT msT : Nat) (C : MC p s m args meth c cX4_alikeWord 9 (some .boolean) RX4 vX4_alikeWord) (hK : va_K G vwCl (mt cI cL cZ cB) s) : At_md_alikeWord_j53 l G cI cL cZ cB q A z p e s m args below meth c O0 mcT msT md_alikeWord_j53 := by
  obtain ⟨hx, hb, hr, hml, hown, hts, hlocks⟩ := id C
  have FX : CallFix p m c cX4_alikeWord 9 s args vX4_alikeWord RX4 := ⟨hx, hb, hml, hown, hts⟩
  have hA : ∀ q9 : Nat, s.heap.size ≤ q9 → va_A (mw cI cL cZ cB q A z) s.heap.size q9 := fun q9 h => Or.inr h
  intro _ H locs ls cells slots hP hD hS hl hf hcc hss
  unfold md_alikeWord_j53 at hf
  refine lv_iconst (v := 0) hx hb dX4_alikeWord_53 (by decide) ?_
  obtain rfl := Option.some.inj hf
  exact grRz (by decide) hx hb hr hlocks hP hK hD hS dX4_alikeWord_54 (by omega) (by omega)
set_option maxHeartbeats 4000000 in
set_option maxRecDepth 100000 in
theorem L_md_alikeWord_j49 (l : Launch) (G : va_G) (cI cL cZ cB : ClassId) (q : Nat) (A : Nat → Nat) (z : Ms) (p : Program) (e : Env) (s : State) (m : MethodId) (args : Array Value) (below : List Frame) (meth : Method) (c : Code) (O0 : Int32) (mcT msT : Nat) (C : MC p s m args meth c cX4_alikeWord 9 (some .boolean) RX4 vX4_alikeWord) (hK : va_K G vwCl (mt cI cL cZ cB) s) : At_md_alikeWord_j49 l G cI cL cZ cB q A z p e s m args below meth c O0 mcT msT md_alikeWord_j49 := by
  obtain ⟨hx, hb, hr, hml, hown, hts, hlocks⟩ := id C
  have FX : CallFix p m c cX4_alikeWord 9 s args vX4_alikeWord RX4 := ⟨hx, hb, hml, hown, hts⟩
  have hA : ∀ q9 : Nat, s.heap.size ≤ q9 → va_A (mw cI cL cZ cB q A z) s.heap.size q9 := fun q9 h => Or.inr h
  intro _ H locs ls cells slots hP hD hS hl hf hcc hss
  unfold md_alikeWord_j49 at hf
  refine lv_iconst (v := 1) hx hb dX4_alikeWord_49 (by decide) ?_
  refine lv_goto (tgt := 54) hx hb dX4_alikeWord_50 (by decide) ?_
  obtain rfl := Option.some.inj hf
  exact grRz (by decide) hx hb hr hlocks hP hK hD hS dX4_alikeWord_54 (by omega) (by omega)
set_option maxHeartbeats 4000000 in
set_option maxRecDepth 100000 in
theorem c_md_alikeWord (l : Launch) (G : va_G) (cI cL cZ cB : ClassId) (q : Nat) (A : Nat → Nat) (z : Ms) (sz : Nat) (p0 : Int32) (p1 : Int32) (p2 : Int32) (p3 : Int64) (p4 : Int32) (p5 : Int64) (O0 : Int32) (hf : md_alikeWord z p0 p1 p2 p3 p4 p5 = some O0) : Met l yX4_alikeWord vX4_alikeWord { frames := 2, cells := 0, slots := 0, locals := 45 } (gPc G vwCl (mt cI cL cZ cB) [.ref q, .int p0, .int p1, .int p2, .long p3, .int p4, .long p5] (mw cI cL cZ cB q A z) sz) (qRi G vwCl (mt cI cL cZ cB) (mw cI cL cZ cB q A z) sz O0) 0 0 (va_A (mw cI cL cZ cB q A z) sz) := by
  refine gMet (by decide) rfl (Nat.le_of_ble_eq_true rfl) ?_
  intro p e s m below meth c ls C hK hP hD hsz hl
  subst hsz
  obtain ⟨hx, hb, hr, hml, hown, hts, hlocks⟩ := id C
  have FX : CallFix p m c cX4_alikeWord 9 s _ vX4_alikeWord RX4 := ⟨hx, hb, hml, hown, hts⟩
  have hA : ∀ q9 : Nat, s.heap.size ≤ q9 → va_A (mw cI cL cZ cB q A z) s.heap.size q9 := fun q9 h => Or.inr h
  have hS : va_S (va_A (mw cI cL cZ cB q A z) s.heap.size) s.heap s.heap [] := va_S.rf
  have hl : lv_has ls 9 [(0, .ref q), (1, .int p0), (2, .int p1), (3, .int p2), (4, .long p3), (6, .int p4), (7, .long p5)] := hl
  unfold md_alikeWord at hf
  refine lv_aload_n hx hb dX4_alikeWord_0 rfl (lv_at hl 0 rfl) ?_
  refine va_get (D := G) (ci := 4) (v := .ref (A 8)) (C := RX4) (T := TX4) (N := 32) hx hb hts (fun w h => .tail _ (wl_X4 w h)) hown hK hP 0 rfl rfl 15 (by decide) (hts _ (.tail _ wm_62)) (fun _ h9 => h9) rfl dX4_alikeWord_1 ?_
  refine lv_iload_n hx hb dX4_alikeWord_4 rfl (lv_at hl 1 rfl) ?_
  obtain ⟨hg1, hf⟩ := of_gd hf
  refine va_iald (f := (Ms.ate z)) (n := (Ms.nte z)) hx hb hK hP 8 0 rfl rfl (inb_in hg1) dX4_alikeWord_5 ?_
  refine lv_iload_n hx hb dX4_alikeWord_6 rfl (lv_at hl 2 rfl) ?_
  refine lv_ishr hx hb dX4_alikeWord_7 ?_
  refine lv_iconst (v := 1) hx hb dX4_alikeWord_8 (by decide) ?_
  refine lv_iand hx hb dX4_alikeWord_9 ?_
  refine lv_iconst (v := 1) hx hb dX4_alikeWord_10 (by decide) ?_
  refine lv_icmp_ne (tgt := 30) hx hb dX4_alikeWord_11 (by decide) (fun c2 => ?_) (fun c2 => ?_)
  · have hf := (if_neg c2).symm.trans hf
    refine lv_iload_n hx hb dX4_alikeWord_30 rfl (lv_at hl 3 rfl) ?_
    refine lv_iload hx hb dX4_alikeWord_31 (lv_at hl 5 rfl) ?_
    refine lv_icmp_ne (tgt := 53) hx hb dX4_alikeWord_33 (by decide) (fun c3 => ?_) (fun c3 => ?_)
    · have hf := (if_neg c3).symm.trans hf
      exact L_md_alikeWord_j53 _ _ _ _ _ _ _ _ _ _ _ _ _ _ _ _ _ _ _ _ C hK () _ _ _ _ _ hP hD hS (lv_sub hl [] rfl) hf (by omega) (by omega)
    · have hf := (if_pos c3).symm.trans hf
      refine lv_iload_n hx hb dX4_alikeWord_36 rfl (lv_at hl 3 rfl) ?_
      refine lv_iconst (v := (-1)) hx hb dX4_alikeWord_37 (by decide) ?_
      refine lv_icmp_eq (tgt := 49) hx hb dX4_alikeWord_38 (by decide) (fun c4 => ?_) (fun c4 => ?_)
      · have hf := (if_pos c4).symm.trans hf
        exact L_md_alikeWord_j49 _ _ _ _ _ _ _ _ _ _ _ _ _ _ _ _ _ _ _ _ C hK () _ _ _ _ _ hP hD hS (lv_sub hl [] rfl) hf (by omega) (by omega)
      · have hf := (if_neg c4).symm.trans hf
        refine lv_lload hx hb dX4_alikeWord_41 (lv_at hl 4 rfl) ?_
        refine lv_lload hx hb dX4_alikeWord_43 (lv_at hl 6 rfl) ?_
        refine W.lcmp hx hb dX4_alikeWord_45 ?_
        refine lv_if_ne (tgt := 53) hx hb dX4_alikeWord_46 (by decide) (fun c5 => ?_) (fun c5 => ?_)
        · have hf := (if_neg c5).symm.trans hf
          exact L_md_alikeWord_j53 _ _ _ _ _ _ _ _ _ _ _ _ _ _ _ _ _ _ _ _ C hK () _ _ _ _ _ hP hD hS (lv_sub hl [] rfl) hf (by omega) (by omega)
        · have hf := (if_pos c5).symm.trans hf
          exact L_md_alikeWord_j49 _ _ _ _ _ _ _ _ _ _ _ _ _ _ _ _ _ _ _ _ C hK () _ _ _ _ _ hP hD hS (lv_sub hl [] rfl) hf (by omega) (by omega)
  · have hf := (if_pos c2).symm.trans hf
    refine lv_aload_n hx hb dX4_alikeWord_14 rfl (lv_at hl 0 rfl) ?_
    refine lv_iload_n hx hb dX4_alikeWord_15 rfl (lv_at hl 3 rfl) ?_
    refine lv_iload hx hb dX4_alikeWord_16 (lv_at hl 5 rfl) ?_
    obtain ⟨r6, ho6, hf⟩ := of_b0 hf
    refine gcRi (gV FX [.int p2, .int p4] (c_md_order l G cI cL cZ cB q A z _ p2 p4 _ ho6) (cwV 2 hts (gi_V wm_118 wm_119 wm_120 wm_6 wm_121) rfl rfl rfl hdV_X4_order ⟨Nat.le_of_ble_eq_true rfl, Nat.le_of_ble_eq_true rfl⟩) hK hP hD 0 rfl rfl rfl hl.1 (Nat.le_of_ble_eq_true rfl) dX4_alikeWord_18 ⟨by show _ ≤ 0; omega, by show _ ≤ 0; omega⟩) hS hD hA (fun H locs hP hS => ?_)
    refine lv_if_ne (tgt := 28) hx hb dX4_alikeWord_21 (by decide) (fun c7 => ?_) (fun c7 => ?_)
    · have hf := (if_neg c7).symm.trans hf
      refine lv_iconst (v := 0) hx hb dX4_alikeWord_28 (by decide) ?_
      obtain rfl := Option.some.inj hf
      exact grRz (by decide) hx hb hr hlocks hP hK hD hS dX4_alikeWord_29 (by omega) (by omega)
    · have hf := (if_pos c7).symm.trans hf
      refine lv_iconst (v := 1) hx hb dX4_alikeWord_24 (by decide) ?_
      refine lv_goto (tgt := 29) hx hb dX4_alikeWord_25 (by decide) ?_
      obtain rfl := Option.some.inj hf
      exact grRz (by decide) hx hb hr hlocks hP hK hD hS dX4_alikeWord_29 (by omega) (by omega)
def At_md_find_j121 (l : Launch) (G : va_G) (cI cL cZ cB : ClassId) (q : Nat) (A : Nat → Nat) (z : Ms) (p : Program) (e : Env) (s : State) (m : MethodId) (args : Array Value) (below : List Frame) (meth : Method) (c : Code) (O0 : Int32) (mcT msT : Nat) (F : Int32 → Int32 → Int32 → Int32 → Ms → Option (Int32)) : Prop := ∀ (x2 : Int32) (x3 : Int32) (x4 : Int32) (x5 : Int32) (H : Heap) (locs : List Loc) (ls : Array Slot) (cells slots : Nat), va_P G vwCl (mw cI cL cZ cB q A z) H → va_D (va_A (mw cI cL cZ cB q A z) s.heap.size) (mw cI cL cZ cB q A z) → va_S (va_A (mw cI cL cZ cB q A z) s.heap.size) s.heap H locs → lv_has ls 7 [(0, .ref q), (2, .int x2), (3, .int x3), (4, .int x4), (5, .int x5)] → F x2 x3 x4 x5 z = some O0 → cells + 0 ≤ mcT → slots + 0 ≤ msT → W p l e { frames := 3, cells := mcT, slots := msT, locals := 73 } s m args below meth c H locs cells slots (MQ below (qRi G vwCl (mt cI cL cZ cB) (mw cI cL cZ cB q A z) s.heap.size O0) args s mcT msT (va_A (mw cI cL cZ cB q A z) s.heap.size)) (F0 m 121 ls [])
def At_md_find_l40 (l : Launch) (G : va_G) (cI cL cZ cB : ClassId) (q : Nat) (A : Nat → Nat) (z : Ms) (p : Program) (e : Env) (s : State) (m : MethodId) (args : Array Value) (below : List Frame) (meth : Method) (c : Code) (O0 : Int32) (mcT msT : Nat) (F : Int32 → Int32 → Int32 → Int32 → Int32 → Ms → Option (Int32)) : Prop := ∀ (x2 : Int32) (x3 : Int32) (x4 : Int32) (x5 : Int32) (x6 : Int32) (H : Heap) (locs : List Loc) (ls : Array Slot) (cells slots : Nat), va_P G vwCl (mw cI cL cZ cB q A z) H → va_D (va_A (mw cI cL cZ cB q A z) s.heap.size) (mw cI cL cZ cB q A z) → va_S (va_A (mw cI cL cZ cB q A z) s.heap.size) s.heap H locs → lv_has ls 7 [(0, .ref q), (2, .int x2), (3, .int x3), (4, .int x4), (5, .int x5), (6, .int x6)] → F x2 x3 x4 x5 x6 z = some O0 → cells + 0 ≤ mcT → slots + 0 ≤ msT → W p l e { frames := 3, cells := mcT, slots := msT, locals := 73 } s m args below meth c H locs cells slots (MQ below (qRi G vwCl (mt cI cL cZ cB) (mw cI cL cZ cB q A z) s.heap.size O0) args s mcT msT (va_A (mw cI cL cZ cB q A z) s.heap.size)) (F0 m 40 ls [])
def At_md_find_l10 (l : Launch) (G : va_G) (cI cL cZ cB : ClassId) (q : Nat) (A : Nat → Nat) (z : Ms) (p : Program) (e : Env) (s : State) (m : MethodId) (args : Array Value) (below : List Frame) (meth : Method) (c : Code) (O0 : Int32) (mcT msT : Nat) (F : Int32 → Int32 → Int32 → Ms → Option (Int32)) : Prop := ∀ (x2 : Int32) (x3 : Int32) (x4 : Int32) (H : Heap) (locs : List Loc) (ls : Array Slot) (cells slots : Nat), va_P G vwCl (mw cI cL cZ cB q A z) H → va_D (va_A (mw cI cL cZ cB q A z) s.heap.size) (mw cI cL cZ cB q A z) → va_S (va_A (mw cI cL cZ cB q A z) s.heap.size) s.heap H locs → lv_has ls 7 [(0, .ref q), (2, .int x2), (3, .int x3), (4, .int x4)] → F x2 x3 x4 z = some O0 → cells + 0 ≤ mcT → slots + 0 ≤ msT → W p l e { frames := 3, cells := mcT, slots := msT, locals := 73 } s m args below meth c H locs cells slots (MQ below (qRi G vwCl (mt cI cL cZ cB) (mw cI cL cZ cB q A z) s.heap.size O0) args s mcT msT (va_A (mw cI cL cZ cB q A z) s.heap.size)) (F0 m 10 ls [])
set_option maxHeartbeats 4000000 in
set_option maxRecDepth 100000 in
theorem L_md_find_j121 (l : Launch) (G : va_G) (cI cL cZ cB : ClassId) (q : Nat) (A : Nat → Nat) (z : Ms) (p : Program) (e : Env) (s : State) (m : MethodId) (args : Array Value) (below : List Frame) (meth : Method) (c : Code) (O0 : Int32) (mcT msT : Nat) (C : MC p s m args meth c cX4_find 7 (some .int) RX4 vX4_find) (hK : va_K G vwCl (mt cI cL cZ cB) s) (K10 : Int32 → Int32 → Int32 → Ms → Option (Int32)) (hK10 : At_md_find_l10 l G cI cL cZ cB q A z p e s m args below meth c O0 mcT msT K10) : At_md_find_j121 l G cI cL cZ cB q A z p e s m args below meth c O0 mcT msT (md_find_j121 K10 ) := by
  obtain ⟨hx, hb, hr, hml, hown, hts, hlocks⟩ := id C
  have FX : CallFix p m c cX4_find 7 s args vX4_find RX4 := ⟨hx, hb, hml, hown, hts⟩
  have hA : ∀ q9 : Nat, s.heap.size ≤ q9 → va_A (mw cI cL cZ cB q A z) s.heap.size q9 := fun q9 h => Or.inr h
  intro x2 x3 x4 x5 H locs ls cells slots hP hD hS hl hf hcc hss
  unfold md_find_j121 at hf
  refine lv_iload hx hb dX4_find_121 (lv_at hl 4 rfl) ?_
  refine lv_if_eq (tgt := 129) hx hb dX4_find_123 (by decide) (fun c15 => ?_) (fun c15 => ?_)
  · have hf := (if_pos c15).symm.trans hf
    refine lv_iinc (v := (x4 + 1)) (lv' := [(4, .int (x4 + 1)), (0, .ref q), (2, .int x2), (3, .int x3), (5, .int x5)]) hx hb dX4_find_129 hl (k := 3) rfl rfl (by decide) rfl (fun ls hl => ?_)
    refine lv_goto (tgt := 10) hx hb dX4_find_132 (by decide) ?_
    exact hK10 _ _ _ _ _ _ _ _ hP hD hS (lv_sub hl [1, 2, 3, 0] rfl) hf (by omega) (by omega)
  · have hf := (if_neg c15).symm.trans hf
    refine lv_iload hx hb dX4_find_126 (lv_at hl 3 rfl) ?_
    obtain rfl := Option.some.inj hf
    exact grRi hx hb hr hlocks hP hK hD hS dX4_find_128 (by omega) (by omega)
set_option maxHeartbeats 4000000 in
set_option maxRecDepth 100000 in
theorem L_md_find_l40 (l : Launch) (G : va_G) (cI cL cZ cB : ClassId) (q : Nat) (A : Nat → Nat) (z : Ms) (p : Program) (e : Env) (s : State) (m : MethodId) (args : Array Value) (below : List Frame) (meth : Method) (c : Code) (O0 : Int32) (mcT msT : Nat) (C : MC p s m args meth c cX4_find 7 (some .int) RX4 vX4_find) (hK : va_K G vwCl (mt cI cL cZ cB) s) (K10 : Int32 → Int32 → Int32 → Ms → Option (Int32)) (hK10 : At_md_find_l10 l G cI cL cZ cB q A z p e s m args below meth c O0 mcT msT K10) : ∀ n : Nat, At_md_find_l40 l G cI cL cZ cB q A z p e s m args below meth c O0 mcT msT (md_find_l40 K10 n) := by
  obtain ⟨hx, hb, hr, hml, hown, hts, hlocks⟩ := id C
  have FX : CallFix p m c cX4_find 7 s args vX4_find RX4 := ⟨hx, hb, hml, hown, hts⟩
  have hA : ∀ q9 : Nat, s.heap.size ≤ q9 → va_A (mw cI cL cZ cB q A z) s.heap.size q9 := fun q9 h => Or.inr h
  intro n
  induction n with
  | zero =>
    intro x2 x3 x4 x5 x6 H locs ls cells slots hP hD hS hl hf hcc hss
    exact nomatch (show none = some _ from hf)
  | succ n ih =>
    intro x2 x3 x4 x5 x6 H locs ls cells slots hP hD hS hl hf hcc hss
    rw [md_find_l40] at hf
    refine lv_iload hx hb dX4_find_40 (lv_at hl 5 rfl) ?_
    refine lv_aload_n hx hb dX4_find_42 rfl (lv_at hl 0 rfl) ?_
    refine va_get (D := G) (ci := 4) (v := .ref (A 6)) (C := RX4) (T := TX4) (N := 32) hx hb hts (fun w h => .tail _ (wl_X4 w h)) hown hK hP 0 rfl rfl 13 (by decide) (hts _ (.tail _ wm_9)) (fun _ h9 => h9) rfl dX4_find_43 ?_
    refine lv_iload_n hx hb dX4_find_46 rfl (lv_at hl 2 rfl) ?_
    obtain ⟨hg5, hf⟩ := of_gd hf
    refine va_iald (f := (Ms.ake z)) (n := (Ms.nke z)) hx hb hK hP 6 0 rfl rfl (inb_in hg5) dX4_find_47 ?_
    refine lv_icmp_ge (tgt := 121) hx hb dX4_find_48 (by decide) (fun c6 => ?_) (fun c6 => ?_)
    · have hf := (if_pos c6).symm.trans hf
      exact L_md_find_j121 _ _ _ _ _ _ _ _ _ _ _ _ _ _ _ _ _ _ _ _ C hK _ hK10 _ _ _ _ _ _ _ _ _ hP hD hS (lv_sub hl [0, 1, 2, 3, 4] rfl) hf (by omega) (by omega)
    · have hf := (if_neg c6).symm.trans hf
      refine lv_iload hx hb dX4_find_51 (lv_at hl 4 rfl) ?_
      refine lv_if_eq (tgt := 121) hx hb dX4_find_53 (by decide) (fun c7 => ?_) (fun c7 => ?_)
      · have hf := (if_pos c7).symm.trans hf
        exact L_md_find_j121 _ _ _ _ _ _ _ _ _ _ _ _ _ _ _ _ _ _ _ _ C hK _ hK10 _ _ _ _ _ _ _ _ _ hP hD hS (lv_sub hl [0, 1, 2, 3, 4] rfl) hf (by omega) (by omega)
      · have hf := (if_neg c7).symm.trans hf
        refine lv_aload_n hx hb dX4_find_56 rfl (lv_at hl 0 rfl) ?_
        refine lv_iload_n hx hb dX4_find_57 rfl (lv_at hl 2 rfl) ?_
        refine lv_iload hx hb dX4_find_58 (lv_at hl 5 rfl) ?_
        refine lv_aload_n hx hb dX4_find_60 rfl (lv_at hl 0 rfl) ?_
        refine va_get (D := G) (ci := 4) (v := .ref (A 20)) (C := RX4) (T := TX4) (N := 32) hx hb hts (fun w h => .tail _ (wl_X4 w h)) hown hK hP 0 rfl rfl 29 (by decide) (hts _ (.tail _ wm_28)) (fun _ h9 => h9) rfl dX4_find_61 ?_
        refine lv_bipush (v := 8) hx hb dX4_find_64 (by decide) ?_
        refine lv_iload hx hb dX4_find_66 (lv_at hl 3 rfl) ?_
        refine lv_imul hx hb dX4_find_68 ?_
        refine lv_iload hx hb dX4_find_69 (lv_at hl 5 rfl) ?_
        refine lv_iadd hx hb dX4_find_71 ?_
        obtain ⟨hg8, hf⟩ := of_gd hf
        refine va_iald (f := (Ms.aet z)) (n := (Ms.net z)) hx hb hK hP 20 0 rfl rfl (inb_in hg8) dX4_find_72 ?_
        refine lv_aload_n hx hb dX4_find_73 rfl (lv_at hl 0 rfl) ?_
        refine va_get (D := G) (ci := 4) (v := .ref (A 21)) (C := RX4) (T := TX4) (N := 32) hx hb hts (fun w h => .tail _ (wl_X4 w h)) hown hK hP 0 rfl rfl 30 (by decide) (hts _ (.tail _ wm_30)) (fun _ h9 => h9) rfl dX4_find_74 ?_
        refine lv_bipush (v := 8) hx hb dX4_find_77 (by decide) ?_
        refine lv_iload hx hb dX4_find_79 (lv_at hl 3 rfl) ?_
        refine lv_imul hx hb dX4_find_81 ?_
        refine lv_iload hx hb dX4_find_82 (lv_at hl 5 rfl) ?_
        refine lv_iadd hx hb dX4_find_84 ?_
        obtain ⟨hg9, hf⟩ := of_gd hf
        refine va_lald (f := (Ms.aev z)) (n := (Ms.nev z)) hx hb hK hP 21 1 rfl rfl (inb_in hg9) dX4_find_85 ?_
        refine lv_aload_n hx hb dX4_find_86 rfl (lv_at hl 0 rfl) ?_
        refine va_get (D := G) (ci := 4) (v := .ref (A 15)) (C := RX4) (T := TX4) (N := 32) hx hb hts (fun w h => .tail _ (wl_X4 w h)) hown hK hP 0 rfl rfl 22 (by decide) (hts _ (.tail _ wm_26)) (fun _ h9 => h9) rfl dX4_find_87 ?_
        refine lv_aload_n hx hb dX4_find_90 rfl (lv_at hl 0 rfl) ?_
        refine lv_iload_n hx hb dX4_find_91 rfl (lv_at hl 1 rfl) ?_
        refine lv_iload hx hb dX4_find_92 (lv_at hl 5 rfl) ?_
        obtain ⟨r10, ho10, hf⟩ := of_b0 hf
        refine gcRi (gV FX [.int x2, .int x6] (c_md_at l G cI cL cZ cB q A z _ x2 x6 _ ho10) (cwV 2 hts (gi_V wm_126 wm_127 wm_128 wm_6 wm_129) rfl rfl rfl hdV_X4_at ⟨Nat.le_of_ble_eq_true rfl, Nat.le_of_ble_eq_true rfl⟩) hK hP hD 0 rfl rfl rfl hl.1 (Nat.le_of_ble_eq_true rfl) dX4_find_94 ⟨by show _ ≤ mcT; omega, by show _ ≤ msT; omega⟩) hS hD hA (fun H locs hP hS => ?_)
        obtain ⟨hg11, hf⟩ := of_gd hf
        refine va_iald (f := (Ms.awt z)) (n := (Ms.nwt z)) hx hb hK hP 15 0 rfl rfl (inb_in hg11) dX4_find_97 ?_
        refine lv_aload_n hx hb dX4_find_98 rfl (lv_at hl 0 rfl) ?_
        refine va_get (D := G) (ci := 4) (v := .ref (A 16)) (C := RX4) (T := TX4) (N := 32) hx hb hts (fun w h => .tail _ (wl_X4 w h)) hown hK hP 0 rfl rfl 23 (by decide) (hts _ (.tail _ wm_39)) (fun _ h9 => h9) rfl dX4_find_99 ?_
        refine lv_aload_n hx hb dX4_find_102 rfl (lv_at hl 0 rfl) ?_
        refine lv_iload_n hx hb dX4_find_103 rfl (lv_at hl 1 rfl) ?_
        refine lv_iload hx hb dX4_find_104 (lv_at hl 5 rfl) ?_
        obtain ⟨r12, ho12, hf⟩ := of_b0 hf
        refine gcRi (gV FX [.int x2, .int x6] (c_md_at l G cI cL cZ cB q A z _ x2 x6 _ ho12) (cwV 2 hts (gi_V wm_126 wm_127 wm_128 wm_6 wm_129) rfl rfl rfl hdV_X4_at ⟨Nat.le_of_ble_eq_true rfl, Nat.le_of_ble_eq_true rfl⟩) hK hP hD 0 rfl rfl rfl hl.1 (Nat.le_of_ble_eq_true rfl) dX4_find_106 ⟨by show _ ≤ mcT; omega, by show _ ≤ msT; omega⟩) hS hD hA (fun H locs hP hS => ?_)
        obtain ⟨hg13, hf⟩ := of_gd hf
        refine va_lald (f := (Ms.awv z)) (n := (Ms.nwv z)) hx hb hK hP 16 1 rfl rfl (inb_in hg13) dX4_find_109 ?_
        obtain ⟨r14, ho14, hf⟩ := of_b0 hf
        refine gcRi (gV FX [.int x3, .int x6, .int ((Ms.aet z) ((8 * x4) + x6).toNatClampNeg), .long ((Ms.aev z) ((8 * x4) + x6).toNatClampNeg), .int ((Ms.awt z) r10.toNatClampNeg), .long ((Ms.awv z) r12.toNatClampNeg)] (c_md_alikeWord l G cI cL cZ cB q A z _ x3 x6 ((Ms.aet z) ((8 * x4) + x6).toNatClampNeg) ((Ms.aev z) ((8 * x4) + x6).toNatClampNeg) ((Ms.awt z) r10.toNatClampNeg) ((Ms.awv z) r12.toNatClampNeg) _ ho14) (cwV 6 hts (gi_V wm_134 wm_135 wm_136 wm_6 wm_137) rfl rfl rfl hdV_X4_alikeWord ⟨Nat.le_of_ble_eq_true rfl, Nat.le_of_ble_eq_true rfl⟩) hK hP hD 0 rfl rfl rfl hl.1 (Nat.le_of_ble_eq_true rfl) dX4_find_110 ⟨by show _ ≤ mcT; omega, by show _ ≤ msT; omega⟩) hS hD hA (fun H locs hP hS => ?_)
        refine lv_istore (lv' := [(5, .int r14), (0, .ref q), (2, .int x2), (3, .int x3), (4, .int x4), (6, .int x6)]) hx hb dX4_find_113 hl (by decide) rfl (fun ls hl => ?_)
        refine lv_iinc (v := (x6 + 1)) (lv' := [(6, .int (x6 + 1)), (5, .int r14), (0, .ref q), (2, .int x2), (3, .int x3), (4, .int x4)]) hx hb dX4_find_115 hl (k := 5) rfl rfl (by decide) rfl (fun ls hl => ?_)
        refine lv_goto (tgt := 40) hx hb dX4_find_118 (by decide) ?_
        exact ih _ _ _ _ _ _ _ _ _ _ hP hD hS (lv_sub hl [2, 3, 4, 5, 1, 0] rfl) hf (by omega) (by omega)
set_option maxHeartbeats 4000000 in
set_option maxRecDepth 100000 in
theorem L_md_find_l10 (l : Launch) (G : va_G) (cI cL cZ cB : ClassId) (q : Nat) (A : Nat → Nat) (z : Ms) (p : Program) (e : Env) (s : State) (m : MethodId) (args : Array Value) (below : List Frame) (meth : Method) (c : Code) (O0 : Int32) (mcT msT : Nat) (C : MC p s m args meth c cX4_find 7 (some .int) RX4 vX4_find) (hK : va_K G vwCl (mt cI cL cZ cB) s) : ∀ n : Nat, At_md_find_l10 l G cI cL cZ cB q A z p e s m args below meth c O0 mcT msT (md_find_l10 n) := by
  obtain ⟨hx, hb, hr, hml, hown, hts, hlocks⟩ := id C
  have FX : CallFix p m c cX4_find 7 s args vX4_find RX4 := ⟨hx, hb, hml, hown, hts⟩
  have hA : ∀ q9 : Nat, s.heap.size ≤ q9 → va_A (mw cI cL cZ cB q A z) s.heap.size q9 := fun q9 h => Or.inr h
  intro n
  induction n with
  | zero =>
    intro x2 x3 x4 H locs ls cells slots hP hD hS hl hf hcc hss
    exact nomatch (show none = some _ from hf)
  | succ n ih =>
    intro x2 x3 x4 H locs ls cells slots hP hD hS hl hf hcc hss
    rw [md_find_l10] at hf
    refine lv_iload hx hb dX4_find_10 (lv_at hl 3 rfl) ?_
    refine lv_aload_n hx hb dX4_find_12 rfl (lv_at hl 0 rfl) ?_
    refine va_get (D := G) (ci := 4) (v := .int (Ms.ent z)) (C := RX4) (T := TX4) (N := 32) hx hb hts (fun w h => .tail _ (wl_X4 w h)) hown hK hP 0 rfl rfl 31 (by decide) (hts _ (.tail _ wm_24)) (fun _ h9 => h9) rfl dX4_find_13 ?_
    refine lv_icmp_ge (tgt := 135) hx hb dX4_find_16 (by decide) (fun c2 => ?_) (fun c2 => ?_)
    · have hf := (if_pos c2).symm.trans hf
      refine lv_iconst (v := (-1)) hx hb dX4_find_135 (by decide) ?_
      obtain rfl := Option.some.inj hf
      exact grRi hx hb hr hlocks hP hK hD hS dX4_find_136 (by omega) (by omega)
    · have hf := (if_neg c2).symm.trans hf
      refine lv_aload_n hx hb dX4_find_19 rfl (lv_at hl 0 rfl) ?_
      refine va_get (D := G) (ci := 4) (v := .ref (A 18)) (C := RX4) (T := TX4) (N := 32) hx hb hts (fun w h => .tail _ (wl_X4 w h)) hown hK hP 0 rfl rfl 27 (by decide) (hts _ (.tail _ wm_25)) (fun _ h9 => h9) rfl dX4_find_20 ?_
      refine lv_iload hx hb dX4_find_23 (lv_at hl 3 rfl) ?_
      obtain ⟨hg3, hf⟩ := of_gd hf
      refine va_iald (f := (Ms.aem z)) (n := (Ms.nem z)) hx hb hK hP 18 0 rfl rfl (inb_in hg3) dX4_find_25 ?_
      refine lv_iload_n hx hb dX4_find_26 rfl (lv_at hl 2 rfl) ?_
      refine lv_icmp_ne (tgt := 34) hx hb dX4_find_27 (by decide) (fun c4 => ?_) (fun c4 => ?_)
      · have hf := (if_neg c4).symm.trans hf
        refine lv_iconst (v := 0) hx hb dX4_find_34 (by decide) ?_
        refine lv_istore (lv' := [(5, .int 0), (0, .ref q), (2, .int x2), (3, .int x3), (4, .int x4)]) hx hb dX4_find_35 hl (by decide) rfl (fun ls hl => ?_)
        refine lv_iconst (v := 0) hx hb dX4_find_37 (by decide) ?_
        refine lv_istore (lv' := [(6, .int 0), (5, .int 0), (0, .ref q), (2, .int x2), (3, .int x3), (4, .int x4)]) hx hb dX4_find_38 hl (by decide) rfl (fun ls hl => ?_)
        exact L_md_find_l40 _ _ _ _ _ _ _ _ _ _ _ _ _ _ _ _ _ _ _ _ C hK _ ih FU _ _ _ _ _ _ _ _ _ _ hP hD hS (lv_sub hl [2, 3, 4, 5, 1, 0] rfl) hf (by omega) (by omega)
      · have hf := (if_pos c4).symm.trans hf
        refine lv_iconst (v := 1) hx hb dX4_find_30 (by decide) ?_
        refine lv_goto (tgt := 35) hx hb dX4_find_31 (by decide) ?_
        refine lv_istore (lv' := [(5, .int 1), (0, .ref q), (2, .int x2), (3, .int x3), (4, .int x4)]) hx hb dX4_find_35 hl (by decide) rfl (fun ls hl => ?_)
        refine lv_iconst (v := 0) hx hb dX4_find_37 (by decide) ?_
        refine lv_istore (lv' := [(6, .int 0), (5, .int 1), (0, .ref q), (2, .int x2), (3, .int x3), (4, .int x4)]) hx hb dX4_find_38 hl (by decide) rfl (fun ls hl => ?_)
        exact L_md_find_l40 _ _ _ _ _ _ _ _ _ _ _ _ _ _ _ _ _ _ _ _ C hK _ ih FU _ _ _ _ _ _ _ _ _ _ hP hD hS (lv_sub hl [2, 3, 4, 5, 1, 0] rfl) hf (by omega) (by omega)
set_option maxHeartbeats 4000000 in
set_option maxRecDepth 100000 in
theorem c_md_find (l : Launch) (G : va_G) (cI cL cZ cB : ClassId) (q : Nat) (A : Nat → Nat) (z : Ms) (sz : Nat) (p0 : Int32) (p1 : Int32) (O0 : Int32) (hf : md_find z p0 p1 = some O0) : Met l yX4_find vX4_find { frames := 3, cells := 0, slots := 0, locals := 73 } (gPc G vwCl (mt cI cL cZ cB) [.ref q, .int p0, .int p1] (mw cI cL cZ cB q A z) sz) (qRi G vwCl (mt cI cL cZ cB) (mw cI cL cZ cB q A z) sz O0) 0 0 (va_A (mw cI cL cZ cB q A z) sz) := by
  refine gMet (by decide) rfl (Nat.le_of_ble_eq_true rfl) ?_
  intro p e s m below meth c ls C hK hP hD hsz hl
  subst hsz
  obtain ⟨hx, hb, hr, hml, hown, hts, hlocks⟩ := id C
  have FX : CallFix p m c cX4_find 7 s _ vX4_find RX4 := ⟨hx, hb, hml, hown, hts⟩
  have hA : ∀ q9 : Nat, s.heap.size ≤ q9 → va_A (mw cI cL cZ cB q A z) s.heap.size q9 := fun q9 h => Or.inr h
  have hS : va_S (va_A (mw cI cL cZ cB q A z) s.heap.size) s.heap s.heap [] := va_S.rf
  have hl : lv_has ls 7 [(0, .ref q), (1, .int p0), (2, .int p1)] := hl
  unfold md_find at hf
  refine lv_aload_n hx hb dX4_find_0 rfl (lv_at hl 0 rfl) ?_
  refine va_get (D := G) (ci := 4) (v := .ref (A 1)) (C := RX4) (T := TX4) (N := 32) hx hb hts (fun w h => .tail _ (wl_X4 w h)) hown hK hP 0 rfl rfl 7 (by decide) (hts _ (.tail _ wm_1)) (fun _ h9 => h9) rfl dX4_find_1 ?_
  refine lv_iload_n hx hb dX4_find_4 rfl (lv_at hl 1 rfl) ?_
  obtain ⟨hg1, hf⟩ := of_gd hf
  refine va_iald (f := (Ms.atg z)) (n := (Ms.ntg z)) hx hb hK hP 1 0 rfl rfl (inb_in hg1) dX4_find_5 ?_
  refine lv_istore_n (lv' := [(3, .int ((Ms.atg z) p0.toNatClampNeg)), (0, .ref q), (1, .int p0), (2, .int p1)]) hx hb dX4_find_6 rfl hl (by decide) rfl (fun ls hl => ?_)
  refine lv_iconst (v := 0) hx hb dX4_find_7 (by decide) ?_
  refine lv_istore (lv' := [(4, .int 0), (3, .int ((Ms.atg z) p0.toNatClampNeg)), (0, .ref q), (1, .int p0), (2, .int p1)]) hx hb dX4_find_8 hl (by decide) rfl (fun ls hl => ?_)
  exact L_md_find_l10 _ _ _ _ _ _ _ _ _ _ _ _ _ _ _ _ _ _ _ _ C hK FU _ _ _ _ _ _ _ _ hP hD hS (lv_sub hl [2, 4, 1, 0] rfl) hf (by omega) (by omega)
def At_md_isTextual_j84 (l : Launch) (G : va_G) (cI cL cZ cB : ClassId) (q : Nat) (A : Nat → Nat) (z : Ms) (p : Program) (e : Env) (s : State) (m : MethodId) (args : Array Value) (below : List Frame) (meth : Method) (c : Code) (O0 : Int32) (mcT msT : Nat) (F : Int32 → Int32 → Int32 → Ms → Option (Int32)) : Prop := ∀ (x1 : Int32) (x2 : Int32) (x4 : Int32) (H : Heap) (locs : List Loc) (ls : Array Slot) (cells slots : Nat), va_P G vwCl (mw cI cL cZ cB q A z) H → va_D (va_A (mw cI cL cZ cB q A z) s.heap.size) (mw cI cL cZ cB q A z) → va_S (va_A (mw cI cL cZ cB q A z) s.heap.size) s.heap H locs → lv_has ls 6 [(0, .ref q), (1, .int x1), (2, .int x2), (4, .int x4)] → F x1 x2 x4 z = some O0 → cells + 0 ≤ mcT → slots + 0 ≤ msT → W p l e { frames := 1, cells := mcT, slots := msT, locals := 22 } s m args below meth c H locs cells slots (MQ below (qRi G vwCl (mt cI cL cZ cB) (mw cI cL cZ cB q A z) s.heap.size O0) args s mcT msT (va_A (mw cI cL cZ cB q A z) s.heap.size)) (F0 m 84 ls [])
def At_md_isTextual_j80 (l : Launch) (G : va_G) (cI cL cZ cB : ClassId) (q : Nat) (A : Nat → Nat) (z : Ms) (p : Program) (e : Env) (s : State) (m : MethodId) (args : Array Value) (below : List Frame) (meth : Method) (c : Code) (O0 : Int32) (mcT msT : Nat) (F : Int32 → Int32 → Int32 → Ms → Option (Int32)) : Prop := ∀ (x1 : Int32) (x2 : Int32) (x4 : Int32) (H : Heap) (locs : List Loc) (ls : Array Slot) (cells slots : Nat), va_P G vwCl (mw cI cL cZ cB q A z) H → va_D (va_A (mw cI cL cZ cB q A z) s.heap.size) (mw cI cL cZ cB q A z) → va_S (va_A (mw cI cL cZ cB q A z) s.heap.size) s.heap H locs → lv_has ls 6 [(0, .ref q), (1, .int x1), (2, .int x2), (4, .int x4)] → F x1 x2 x4 z = some O0 → cells + 0 ≤ mcT → slots + 0 ≤ msT → W p l e { frames := 1, cells := mcT, slots := msT, locals := 22 } s m args below meth c H locs cells slots (MQ below (qRi G vwCl (mt cI cL cZ cB) (mw cI cL cZ cB q A z) s.heap.size O0) args s mcT msT (va_A (mw cI cL cZ cB q A z) s.heap.size)) (F0 m 80 ls [])
def At_md_isTextual_l5 (l : Launch) (G : va_G) (cI cL cZ cB : ClassId) (q : Nat) (A : Nat → Nat) (z : Ms) (p : Program) (e : Env) (s : State) (m : MethodId) (args : Array Value) (below : List Frame) (meth : Method) (c : Code) (O0 : Int32) (mcT msT : Nat) (F : Int32 → Int32 → Int32 → Int32 → Ms → Option (Int32)) : Prop := ∀ (x1 : Int32) (x2 : Int32) (x3 : Int32) (x4 : Int32) (H : Heap) (locs : List Loc) (ls : Array Slot) (cells slots : Nat), va_P G vwCl (mw cI cL cZ cB q A z) H → va_D (va_A (mw cI cL cZ cB q A z) s.heap.size) (mw cI cL cZ cB q A z) → va_S (va_A (mw cI cL cZ cB q A z) s.heap.size) s.heap H locs → lv_has ls 6 [(0, .ref q), (1, .int x1), (2, .int x2), (3, .int x3), (4, .int x4)] → F x1 x2 x3 x4 z = some O0 → cells + 0 ≤ mcT → slots + 0 ≤ msT → W p l e { frames := 1, cells := mcT, slots := msT, locals := 22 } s m args below meth c H locs cells slots (MQ below (qRi G vwCl (mt cI cL cZ cB) (mw cI cL cZ cB q A z) s.heap.size O0) args s mcT msT (va_A (mw cI cL cZ cB q A z) s.heap.size)) (F0 m 5 ls [])
set_option maxHeartbeats 4000000 in
set_option maxRecDepth 100000 in
theorem L_md_isTextual_j84 (l : Launch) (G : va_G) (cI cL cZ cB : ClassId) (q : Nat) (A : Nat → Nat) (z : Ms) (p : Program) (e : Env) (s : State) (m : MethodId) (args : Array Value) (below : List Frame) (meth : Method) (c : Code) (O0 : Int32) (mcT msT : Nat) (C : MC p s m args meth c cX4_isTextual 6 (some .boolean) RX4 vX4_isTextual) (hK : va_K G vwCl (mt cI cL cZ cB) s) (K5 : Int32 → Int32 → Int32 → Int32 → Ms → Option (Int32)) (hK5 : At_md_isTextual_l5 l G cI cL cZ cB q A z p e s m args below meth c O0 mcT msT K5) : At_md_isTextual_j84 l G cI cL cZ cB q A z p e s m args below meth c O0 mcT msT (md_isTextual_j84 K5 ) := by
  obtain ⟨hx, hb, hr, hml, hown, hts, hlocks⟩ := id C
  have FX : CallFix p m c cX4_isTextual 6 s args vX4_isTextual RX4 := ⟨hx, hb, hml, hown, hts⟩
  have hA : ∀ q9 : Nat, s.heap.size ≤ q9 → va_A (mw cI cL cZ cB q A z) s.heap.size q9 := fun q9 h => Or.inr h
  intro x1 x2 x4 H locs ls cells slots hP hD hS hl hf hcc hss
  unfold md_isTextual_j84 at hf
  refine lv_iconst (v := 0) hx hb dX4_isTextual_84 (by decide) ?_
  refine lv_istore_n (lv' := [(3, .int 0), (0, .ref q), (1, .int x1), (2, .int x2), (4, .int x4)]) hx hb dX4_isTextual_85 rfl hl (by decide) rfl (fun ls hl => ?_)
  refine lv_iinc (v := (x4 + 1)) (lv' := [(4, .int (x4 + 1)), (3, .int 0), (0, .ref q), (1, .int x1), (2, .int x2)]) hx hb dX4_isTextual_86 hl (k := 4) rfl rfl (by decide) rfl (fun ls hl => ?_)
  refine lv_goto (tgt := 5) hx hb dX4_isTextual_89 (by decide) ?_
  exact hK5 _ _ _ _ _ _ _ _ _ hP hD hS (lv_sub hl [2, 3, 4, 1, 0] rfl) hf (by omega) (by omega)
set_option maxHeartbeats 4000000 in
set_option maxRecDepth 100000 in
theorem L_md_isTextual_j80 (l : Launch) (G : va_G) (cI cL cZ cB : ClassId) (q : Nat) (A : Nat → Nat) (z : Ms) (p : Program) (e : Env) (s : State) (m : MethodId) (args : Array Value) (below : List Frame) (meth : Method) (c : Code) (O0 : Int32) (mcT msT : Nat) (C : MC p s m args meth c cX4_isTextual 6 (some .boolean) RX4 vX4_isTextual) (hK : va_K G vwCl (mt cI cL cZ cB) s) (K5 : Int32 → Int32 → Int32 → Int32 → Ms → Option (Int32)) (hK5 : At_md_isTextual_l5 l G cI cL cZ cB q A z p e s m args below meth c O0 mcT msT K5) : At_md_isTextual_j80 l G cI cL cZ cB q A z p e s m args below meth c O0 mcT msT (md_isTextual_j80 K5 ) := by
  obtain ⟨hx, hb, hr, hml, hown, hts, hlocks⟩ := id C
  have FX : CallFix p m c cX4_isTextual 6 s args vX4_isTextual RX4 := ⟨hx, hb, hml, hown, hts⟩
  have hA : ∀ q9 : Nat, s.heap.size ≤ q9 → va_A (mw cI cL cZ cB q A z) s.heap.size q9 := fun q9 h => Or.inr h
  intro x1 x2 x4 H locs ls cells slots hP hD hS hl hf hcc hss
  unfold md_isTextual_j80 at hf
  refine lv_iconst (v := 1) hx hb dX4_isTextual_80 (by decide) ?_
  refine lv_goto (tgt := 85) hx hb dX4_isTextual_81 (by decide) ?_
  refine lv_istore_n (lv' := [(3, .int 1), (0, .ref q), (1, .int x1), (2, .int x2), (4, .int x4)]) hx hb dX4_isTextual_85 rfl hl (by decide) rfl (fun ls hl => ?_)
  refine lv_iinc (v := (x4 + 1)) (lv' := [(4, .int (x4 + 1)), (3, .int 1), (0, .ref q), (1, .int x1), (2, .int x2)]) hx hb dX4_isTextual_86 hl (k := 4) rfl rfl (by decide) rfl (fun ls hl => ?_)
  refine lv_goto (tgt := 5) hx hb dX4_isTextual_89 (by decide) ?_
  exact hK5 _ _ _ _ _ _ _ _ _ hP hD hS (lv_sub hl [2, 3, 4, 1, 0] rfl) hf (by omega) (by omega)
set_option maxHeartbeats 4000000 in
set_option maxRecDepth 100000 in
theorem L_md_isTextual_l5 (l : Launch) (G : va_G) (cI cL cZ cB : ClassId) (q : Nat) (A : Nat → Nat) (z : Ms) (p : Program) (e : Env) (s : State) (m : MethodId) (args : Array Value) (below : List Frame) (meth : Method) (c : Code) (O0 : Int32) (mcT msT : Nat) (C : MC p s m args meth c cX4_isTextual 6 (some .boolean) RX4 vX4_isTextual) (hK : va_K G vwCl (mt cI cL cZ cB) s) : ∀ n : Nat, At_md_isTextual_l5 l G cI cL cZ cB q A z p e s m args below meth c O0 mcT msT (md_isTextual_l5 n) := by
  obtain ⟨hx, hb, hr, hml, hown, hts, hlocks⟩ := id C
  have FX : CallFix p m c cX4_isTextual 6 s args vX4_isTextual RX4 := ⟨hx, hb, hml, hown, hts⟩
  have hA : ∀ q9 : Nat, s.heap.size ≤ q9 → va_A (mw cI cL cZ cB q A z) s.heap.size q9 := fun q9 h => Or.inr h
  intro n
  induction n with
  | zero =>
    intro x1 x2 x3 x4 H locs ls cells slots hP hD hS hl hf hcc hss
    exact nomatch (show none = some _ from hf)
  | succ n ih =>
    intro x1 x2 x3 x4 H locs ls cells slots hP hD hS hl hf hcc hss
    rw [md_isTextual_l5] at hf
    refine lv_iload hx hb dX4_isTextual_5 (lv_at hl 4 rfl) ?_
    refine lv_aload_n hx hb dX4_isTextual_7 rfl (lv_at hl 0 rfl) ?_
    refine va_get (D := G) (ci := 4) (v := .ref (A 6)) (C := RX4) (T := TX4) (N := 32) hx hb hts (fun w h => .tail _ (wl_X4 w h)) hown hK hP 0 rfl rfl 13 (by decide) (hts _ (.tail _ wm_9)) (fun _ h9 => h9) rfl dX4_isTextual_8 ?_
    refine lv_aload_n hx hb dX4_isTextual_11 rfl (lv_at hl 0 rfl) ?_
    refine va_get (D := G) (ci := 4) (v := .ref (A 1)) (C := RX4) (T := TX4) (N := 32) hx hb hts (fun w h => .tail _ (wl_X4 w h)) hown hK hP 0 rfl rfl 7 (by decide) (hts _ (.tail _ wm_1)) (fun _ h9 => h9) rfl dX4_isTextual_12 ?_
    refine lv_iload_n hx hb dX4_isTextual_15 rfl (lv_at hl 1 rfl) ?_
    obtain ⟨hg1, hf⟩ := of_gd hf
    refine va_iald (f := (Ms.atg z)) (n := (Ms.ntg z)) hx hb hK hP 1 0 rfl rfl (inb_in hg1) dX4_isTextual_16 ?_
    obtain ⟨hg2, hf⟩ := of_gd hf
    refine va_iald (f := (Ms.ake z)) (n := (Ms.nke z)) hx hb hK hP 6 0 rfl rfl (inb_in hg2) dX4_isTextual_17 ?_
    refine lv_icmp_ge (tgt := 92) hx hb dX4_isTextual_18 (by decide) (fun c3 => ?_) (fun c3 => ?_)
    · have hf := (if_pos c3).symm.trans hf
      refine lv_iload_n hx hb dX4_isTextual_92 rfl (lv_at hl 3 rfl) ?_
      obtain ⟨hg4, hf⟩ := of_gd hf
      obtain rfl := Option.some.inj hf
      exact grRz (zbo_n hg4) hx hb hr hlocks hP hK hD hS dX4_isTextual_93 (by omega) (by omega)
    · have hf := (if_neg c3).symm.trans hf
      refine lv_aload_n hx hb dX4_isTextual_21 rfl (lv_at hl 0 rfl) ?_
      refine va_get (D := G) (ci := 4) (v := .ref (A 15)) (C := RX4) (T := TX4) (N := 32) hx hb hts (fun w h => .tail _ (wl_X4 w h)) hown hK hP 0 rfl rfl 22 (by decide) (hts _ (.tail _ wm_26)) (fun _ h9 => h9) rfl dX4_isTextual_22 ?_
      refine lv_aload_n hx hb dX4_isTextual_25 rfl (lv_at hl 0 rfl) ?_
      refine lv_iload_n hx hb dX4_isTextual_26 rfl (lv_at hl 2 rfl) ?_
      refine lv_iload hx hb dX4_isTextual_27 (lv_at hl 4 rfl) ?_
      obtain ⟨r5, ho5, hf⟩ := of_b0 hf
      refine gcRi (gV FX [.int x2, .int x4] (c_md_at l G cI cL cZ cB q A z _ x2 x4 _ ho5) (cwV 2 hts (gi_V wm_126 wm_127 wm_128 wm_6 wm_129) rfl rfl rfl hdV_X4_at ⟨Nat.le_of_ble_eq_true rfl, Nat.le_of_ble_eq_true rfl⟩) hK hP hD 0 rfl rfl rfl hl.1 (Nat.le_of_ble_eq_true rfl) dX4_isTextual_29 ⟨by show _ ≤ mcT; omega, by show _ ≤ msT; omega⟩) hS hD hA (fun H locs hP hS => ?_)
      obtain ⟨hg6, hf⟩ := of_gd hf
      refine va_iald (f := (Ms.awt z)) (n := (Ms.nwt z)) hx hb hK hP 15 0 rfl rfl (inb_in hg6) dX4_isTextual_32 ?_
      refine lv_istore (lv' := [(5, .int ((Ms.awt z) r5.toNatClampNeg)), (0, .ref q), (1, .int x1), (2, .int x2), (3, .int x3), (4, .int x4)]) hx hb dX4_isTextual_33 hl (by decide) rfl (fun ls hl => ?_)
      refine lv_iload_n hx hb dX4_isTextual_35 rfl (lv_at hl 4 rfl) ?_
      refine lv_if_eq (tgt := 84) hx hb dX4_isTextual_36 (by decide) (fun c7 => ?_) (fun c7 => ?_)
      · have hf := (if_pos c7).symm.trans hf
        exact L_md_isTextual_j84 _ _ _ _ _ _ _ _ _ _ _ _ _ _ _ _ _ _ _ _ C hK _ ih _ _ _ _ _ _ _ _ hP hD hS (lv_sub hl [1, 2, 3, 5] rfl) hf (by omega) (by omega)
      · have hf := (if_neg c7).symm.trans hf
        refine lv_aload_n hx hb dX4_isTextual_39 rfl (lv_at hl 1 rfl) ?_
        refine va_get (D := G) (ci := 4) (v := .ref (A 8)) (C := RX4) (T := TX4) (N := 32) hx hb hts (fun w h => .tail _ (wl_X4 w h)) hown hK hP 0 rfl rfl 15 (by decide) (hts _ (.tail _ wm_62)) (fun _ h9 => h9) rfl dX4_isTextual_40 ?_
        refine lv_aload_n hx hb dX4_isTextual_43 rfl (lv_at hl 1 rfl) ?_
        refine va_get (D := G) (ci := 4) (v := .ref (A 1)) (C := RX4) (T := TX4) (N := 32) hx hb hts (fun w h => .tail _ (wl_X4 w h)) hown hK hP 0 rfl rfl 7 (by decide) (hts _ (.tail _ wm_1)) (fun _ h9 => h9) rfl dX4_isTextual_44 ?_
        refine lv_iload_n hx hb dX4_isTextual_47 rfl (lv_at hl 2 rfl) ?_
        obtain ⟨hg8, hf⟩ := of_gd hf
        refine va_iald (f := (Ms.atg z)) (n := (Ms.ntg z)) hx hb hK hP 1 0 rfl rfl (inb_in hg8) dX4_isTextual_48 ?_
        obtain ⟨hg9, hf⟩ := of_gd hf
        refine va_iald (f := (Ms.ate z)) (n := (Ms.nte z)) hx hb hK hP 8 0 rfl rfl (inb_in hg9) dX4_isTextual_49 ?_
        refine lv_iload hx hb dX4_isTextual_50 (lv_at hl 5 rfl) ?_
        refine lv_ishr hx hb dX4_isTextual_52 ?_
        refine lv_iconst (v := 1) hx hb dX4_isTextual_53 (by decide) ?_
        refine lv_iand hx hb dX4_isTextual_54 ?_
        refine lv_if_eq (tgt := 80) hx hb dX4_isTextual_55 (by decide) (fun c10 => ?_) (fun c10 => ?_)
        · have hf := (if_pos c10).symm.trans hf
          exact L_md_isTextual_j80 _ _ _ _ _ _ _ _ _ _ _ _ _ _ _ _ _ _ _ _ C hK _ ih _ _ _ _ _ _ _ _ hP hD hS (lv_sub hl [1, 2, 3, 5] rfl) hf (by omega) (by omega)
        · have hf := (if_neg c10).symm.trans hf
          refine lv_iload hx hb dX4_isTextual_58 (lv_at hl 0 rfl) ?_
          refine lv_iconst (v := (-1)) hx hb dX4_isTextual_60 (by decide) ?_
          refine lv_icmp_eq (tgt := 80) hx hb dX4_isTextual_61 (by decide) (fun c11 => ?_) (fun c11 => ?_)
          · have hf := (if_pos c11).symm.trans hf
            exact L_md_isTextual_j80 _ _ _ _ _ _ _ _ _ _ _ _ _ _ _ _ _ _ _ _ C hK _ ih _ _ _ _ _ _ _ _ hP hD hS (lv_sub hl [1, 2, 3, 5] rfl) hf (by omega) (by omega)
          · have hf := (if_neg c11).symm.trans hf
            refine lv_iload hx hb dX4_isTextual_64 (lv_at hl 0 rfl) ?_
            refine lv_if_le (tgt := 84) hx hb dX4_isTextual_66 (by decide) (fun c12 => ?_) (fun c12 => ?_)
            · have hf := (if_pos c12).symm.trans hf
              exact L_md_isTextual_j84 _ _ _ _ _ _ _ _ _ _ _ _ _ _ _ _ _ _ _ _ C hK _ ih _ _ _ _ _ _ _ _ hP hD hS (lv_sub hl [1, 2, 3, 5] rfl) hf (by omega) (by omega)
            · have hf := (if_neg c12).symm.trans hf
              refine lv_aload_n hx hb dX4_isTextual_69 rfl (lv_at hl 1 rfl) ?_
              refine va_get (D := G) (ci := 4) (v := .ref (A 3)) (C := RX4) (T := TX4) (N := 32) hx hb hts (fun w h => .tail _ (wl_X4 w h)) hown hK hP 0 rfl rfl 10 (by decide) (hts _ (.tail _ wm_2)) (fun _ h9 => h9) rfl dX4_isTextual_70 ?_
              refine lv_iload hx hb dX4_isTextual_73 (lv_at hl 0 rfl) ?_
              obtain ⟨hg13, hf⟩ := of_gd hf
              refine va_iald (f := (Ms.aso z)) (n := (Ms.nso z)) hx hb hK hP 3 0 rfl rfl (inb_in hg13) dX4_isTextual_75 ?_
              refine lv_iconst (v := 3) hx hb dX4_isTextual_76 (by decide) ?_
              refine lv_icmp_ne (tgt := 84) hx hb dX4_isTextual_77 (by decide) (fun c14 => ?_) (fun c14 => ?_)
              · have hf := (if_neg c14).symm.trans hf
                exact L_md_isTextual_j84 _ _ _ _ _ _ _ _ _ _ _ _ _ _ _ _ _ _ _ _ C hK _ ih _ _ _ _ _ _ _ _ hP hD hS (lv_sub hl [1, 2, 3, 5] rfl) hf (by omega) (by omega)
              · have hf := (if_pos c14).symm.trans hf
                exact L_md_isTextual_j80 _ _ _ _ _ _ _ _ _ _ _ _ _ _ _ _ _ _ _ _ C hK _ ih _ _ _ _ _ _ _ _ hP hD hS (lv_sub hl [1, 2, 3, 5] rfl) hf (by omega) (by omega)
set_option maxHeartbeats 4000000 in
set_option maxRecDepth 100000 in
theorem c_md_isTextual (l : Launch) (G : va_G) (cI cL cZ cB : ClassId) (q : Nat) (A : Nat → Nat) (z : Ms) (sz : Nat) (p0 : Int32) (p1 : Int32) (O0 : Int32) (hf : md_isTextual z p0 p1 = some O0) : Met l yX4_isTextual vX4_isTextual { frames := 1, cells := 0, slots := 0, locals := 22 } (gPc G vwCl (mt cI cL cZ cB) [.ref q, .int p0, .int p1] (mw cI cL cZ cB q A z) sz) (qRi G vwCl (mt cI cL cZ cB) (mw cI cL cZ cB q A z) sz O0) 0 0 (va_A (mw cI cL cZ cB q A z) sz) := by
  refine gMet (by decide) rfl (Nat.le_of_ble_eq_true rfl) ?_
  intro p e s m below meth c ls C hK hP hD hsz hl
  subst hsz
  obtain ⟨hx, hb, hr, hml, hown, hts, hlocks⟩ := id C
  have FX : CallFix p m c cX4_isTextual 6 s _ vX4_isTextual RX4 := ⟨hx, hb, hml, hown, hts⟩
  have hA : ∀ q9 : Nat, s.heap.size ≤ q9 → va_A (mw cI cL cZ cB q A z) s.heap.size q9 := fun q9 h => Or.inr h
  have hS : va_S (va_A (mw cI cL cZ cB q A z) s.heap.size) s.heap s.heap [] := va_S.rf
  have hl : lv_has ls 6 [(0, .ref q), (1, .int p0), (2, .int p1)] := hl
  unfold md_isTextual at hf
  refine lv_iconst (v := 1) hx hb dX4_isTextual_0 (by decide) ?_
  refine lv_istore_n (lv' := [(3, .int 1), (0, .ref q), (1, .int p0), (2, .int p1)]) hx hb dX4_isTextual_1 rfl hl (by decide) rfl (fun ls hl => ?_)
  refine lv_iconst (v := 0) hx hb dX4_isTextual_2 (by decide) ?_
  refine lv_istore (lv' := [(4, .int 0), (3, .int 1), (0, .ref q), (1, .int p0), (2, .int p1)]) hx hb dX4_isTextual_3 hl (by decide) rfl (fun ls hl => ?_)
  exact L_md_isTextual_l5 _ _ _ _ _ _ _ _ _ _ _ _ _ _ _ _ _ _ _ _ C hK FU _ _ _ _ _ _ _ _ _ hP hD hS (lv_sub hl [2, 3, 4, 1, 0] rfl) hf (by omega) (by omega)
