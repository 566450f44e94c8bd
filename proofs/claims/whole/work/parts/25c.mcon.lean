def At_md_beginText_l47 (l : Launch) (G : va_G) (cI cL cZ cB : ClassId) (q : Nat) (w : va_W) (p : Program) (e : Env) (s : State) (m : MethodId) (args : Array Value) (below : List Frame) (meth : Method) (c : Code) (O0 : Ms × Int32) (mcT msT : Nat) (F : Int32 → Int32 → Int32 → Ms → Option (Nat × Ms × Int32)) : Prop := ∀ (A : Nat → Nat) (z : Ms) (x1 : Int32) (x2 : Int32) (x3 : Int32) (d0 : Nat) (H : Heap) (locs : List Loc) (ls : Array Slot) (cells slots : Nat), va_P G vwCl (mw cI cL cZ cB q A z) H → va_D (va_A w s.heap.size) (mw cI cL cZ cB q A z) → va_S (va_A w s.heap.size) s.heap H locs → lv_has ls 4 [(0, .ref q), (1, .int x1), (2, .int x2), (3, .int x3)] → F x1 x2 x3 z = some (d0, O0) → cells + (0 + d0 / 64) ≤ mcT → slots + (0 + d0) ≤ msT → W p l e { frames := 2, cells := mcT, slots := msT, locals := 44 } s m args below meth c H locs cells slots (MQ below (qWi G vwCl (mt cI cL cZ cB) w s.heap.size (mw cI cL cZ cB q) O0) args s mcT msT (va_A w s.heap.size)) (F0 m 47 ls [])
def At_md_beginText_l17 (l : Launch) (G : va_G) (cI cL cZ cB : ClassId) (q : Nat) (w : va_W) (p : Program) (e : Env) (s : State) (m : MethodId) (args : Array Value) (below : List Frame) (meth : Method) (c : Code) (O0 : Ms × Int32) (mcT msT : Nat) (F : Int32 → Int32 → Ms → Option (Nat × Ms × Int32)) : Prop := ∀ (A : Nat → Nat) (z : Ms) (x1 : Int32) (x2 : Int32) (d0 : Nat) (H : Heap) (locs : List Loc) (ls : Array Slot) (cells slots : Nat), va_P G vwCl (mw cI cL cZ cB q A z) H → va_D (va_A w s.heap.size) (mw cI cL cZ cB q A z) → va_S (va_A w s.heap.size) s.heap H locs → lv_has ls 4 [(0, .ref q), (1, .int x1), (2, .int x2)] → F x1 x2 z = some (d0, O0) → cells + (0 + d0 / 64) ≤ mcT → slots + (0 + d0) ≤ msT → W p l e { frames := 2, cells := mcT, slots := msT, locals := 44 } s m args below meth c H locs cells slots (MQ below (qWi G vwCl (mt cI cL cZ cB) w s.heap.size (mw cI cL cZ cB q) O0) args s mcT msT (va_A w s.heap.size)) (F0 m 17 ls [])
set_option maxHeartbeats 4000000 in
set_option maxRecDepth 100000 in
theorem L_md_beginText_l47 (l : Launch) (G : va_G) (cI cL cZ cB : ClassId) (q : Nat) (w : va_W) (p : Program) (e : Env) (s : State) (m : MethodId) (args : Array Value) (below : List Frame) (meth : Method) (c : Code) (O0 : Ms × Int32) (mcT msT : Nat) (C : MC p s m args meth c cX4_beginText 4 (some .int) RX4 vX4_beginText) (hK : va_K G vwCl (mt cI cL cZ cB) s) : ∀ n : Nat, At_md_beginText_l47 l G cI cL cZ cB q w p e s m args below meth c O0 mcT msT (md_beginText_l47 n) := by
  obtain ⟨hx, hb, hr, hml, hown, hts, hlocks⟩ := id C
  have FX : CallFix p m c cX4_beginText 4 s args vX4_beginText RX4 := ⟨hx, hb, hml, hown, hts⟩
  have hA : ∀ q9 : Nat, s.heap.size ≤ q9 → va_A w s.heap.size q9 := fun q9 h => Or.inr h
  intro n
  induction n with
  | zero =>
    intro A z x1 x2 x3 d0 H locs ls cells slots hP hD hS hl hf hcc hss
    exact nomatch (show none = some _ from hf)
  | succ n ih =>
    intro A z x1 x2 x3 d0 H locs ls cells slots hP hD hS hl hf hcc hss
    rw [md_beginText_l47] at hf
    refine lv_iload_n hx hb dX4_beginText_47 rfl (lv_at hl 3 rfl) ?_
    refine lv_iload_n hx hb dX4_beginText_48 rfl (lv_at hl 1 rfl) ?_
    refine lv_icmp_ge (tgt := 70) hx hb dX4_beginText_49 (by decide) (fun c8 => ?_) (fun c8 => ?_)
    · have hf := (if_pos c8).symm.trans hf
      refine lv_aload_n hx hb dX4_beginText_70 rfl (lv_at hl 0 rfl) ?_
      refine lv_dup hx hb dX4_beginText_71 rfl ?_
      refine va_get (D := G) (ci := 4) (v := .int (Ms.byc z)) (C := RX4) (T := TX4) (N := 32) hx hb hts (fun w h => .tail _ (wl_X4 w h)) hown hK hP 0 rfl rfl 26 (by decide) (hts _ (.tail _ wm_31)) (fun _ h9 => h9) rfl dX4_beginText_72 ?_
      refine lv_iload_n hx hb dX4_beginText_75 rfl (lv_at hl 1 rfl) ?_
      refine lv_iadd hx hb dX4_beginText_76 ?_
      refine va_put (D := G) (ci := 4) (v := .int ((Ms.byc z) + x1)) (ty := .int) (C := RX4) (T := TX4) (N := 32) hx hb hts (fun w h => .tail _ (wl_X4 w h)) tyX4 tyX4_ok nmX4 hown hK hP hD hS 0 rfl rfl 26 (by decide) (hts _ (.tail _ wm_31)) (fun _ h9 => h9) rfl (by decide +kernel) rfl rfl (Nat.le_of_ble_eq_true rfl) dX4_beginText_77 (fun H locs hP hD hS => ?_)
      have hP : va_P G vwCl (mw cI cL cZ cB q A (Ms.sbyc z ((Ms.byc z) + x1))) H := hP
      have hD : va_D _ (mw cI cL cZ cB q A (Ms.sbyc z ((Ms.byc z) + x1))) := hD
      refine lv_iload_n hx hb dX4_beginText_80 rfl (lv_at hl 2 rfl) ?_
      obtain ⟨hc0, hj0⟩ := of_some2 hf
      subst hj0
      exact grWi hx hb hr hlocks hP hK hD hS dX4_beginText_81 (by omega) (by omega)
    · have hf := (if_neg c8).symm.trans hf
      refine lv_aload_n hx hb dX4_beginText_52 rfl (lv_at hl 0 rfl) ?_
      refine va_get (D := G) (ci := 4) (v := .ref (A 17)) (C := RX4) (T := TX4) (N := 32) hx hb hts (fun w h => .tail _ (wl_X4 w h)) hown hK hP 0 rfl rfl 25 (by decide) (hts _ (.tail _ wm_38)) (fun _ h9 => h9) rfl dX4_beginText_53 ?_
      refine lv_aload_n hx hb dX4_beginText_56 rfl (lv_at hl 0 rfl) ?_
      refine va_get (D := G) (ci := 4) (v := .int (Ms.byc z)) (C := RX4) (T := TX4) (N := 32) hx hb hts (fun w h => .tail _ (wl_X4 w h)) hown hK hP 0 rfl rfl 26 (by decide) (hts _ (.tail _ wm_31)) (fun _ h9 => h9) rfl dX4_beginText_57 ?_
      refine lv_iload_n hx hb dX4_beginText_60 rfl (lv_at hl 3 rfl) ?_
      refine lv_iadd hx hb dX4_beginText_61 ?_
      refine lv_iconst (v := 0) hx hb dX4_beginText_62 (by decide) ?_
      obtain ⟨hg9, hf⟩ := of_gd hf
      refine va_bast (f := (Ms.aby z)) (n := (Ms.nby z)) hx hb hK hP hD hS 17 3 rfl rfl (inb_in hg9) dX4_beginText_63 (fun H locs hP hD hS => ?_)
      have hP : va_P G vwCl (mw cI cL cZ cB q A (Ms.wby z (upd (Ms.aby z) (((Ms.byc z) + x3).toNatClampNeg) (vp_nar .byte 0)))) H := hP
      have hD : va_D _ (mw cI cL cZ cB q A (Ms.wby z (upd (Ms.aby z) (((Ms.byc z) + x3).toNatClampNeg) (vp_nar .byte 0)))) := hD
      refine lv_iinc (v := (x3 + 1)) (lv' := [(3, .int (x3 + 1)), (0, .ref q), (1, .int x1), (2, .int x2)]) hx hb dX4_beginText_64 hl (k := 3) rfl rfl (by decide) rfl (fun ls hl => ?_)
      refine lv_goto (tgt := 47) hx hb dX4_beginText_67 (by decide) ?_
      exact ih _ _ _ _ _ _ _ _ _ _ _ hP hD hS (lv_sub hl [1, 2, 3, 0] rfl) hf (by omega) (by omega)
set_option maxHeartbeats 4000000 in
set_option maxRecDepth 100000 in
theorem L_md_beginText_l17 (l : Launch) (G : va_G) (cI cL cZ cB : ClassId) (q : Nat) (w : va_W) (p : Program) (e : Env) (s : State) (m : MethodId) (args : Array Value) (below : List Frame) (meth : Method) (c : Code) (O0 : Ms × Int32) (mcT msT : Nat) (C : MC p s m args meth c cX4_beginText 4 (some .int) RX4 vX4_beginText) (hK : va_K G vwCl (mt cI cL cZ cB) s) : ∀ n : Nat, At_md_beginText_l17 l G cI cL cZ cB q w p e s m args below meth c O0 mcT msT (md_beginText_l17 n) := by
  obtain ⟨hx, hb, hr, hml, hown, hts, hlocks⟩ := id C
  have FX : CallFix p m c cX4_beginText 4 s args vX4_beginText RX4 := ⟨hx, hb, hml, hown, hts⟩
  have hA : ∀ q9 : Nat, s.heap.size ≤ q9 → va_A w s.heap.size q9 := fun q9 h => Or.inr h
  intro n
  induction n with
  | zero =>
    intro A z x1 x2 d0 H locs ls cells slots hP hD hS hl hf hcc hss
    exact nomatch (show none = some _ from hf)
  | succ n ih =>
    intro A z x1 x2 d0 H locs ls cells slots hP hD hS hl hf hcc hss
    rw [md_beginText_l17] at hf
    refine lv_aload_n hx hb dX4_beginText_17 rfl (lv_at hl 0 rfl) ?_
    refine va_get (D := G) (ci := 4) (v := .int (Ms.byc z)) (C := RX4) (T := TX4) (N := 32) hx hb hts (fun w h => .tail _ (wl_X4 w h)) hown hK hP 0 rfl rfl 26 (by decide) (hts _ (.tail _ wm_31)) (fun _ h9 => h9) rfl dX4_beginText_18 ?_
    refine lv_iload_n hx hb dX4_beginText_21 rfl (lv_at hl 1 rfl) ?_
    refine lv_iadd hx hb dX4_beginText_22 ?_
    refine lv_aload_n hx hb dX4_beginText_23 rfl (lv_at hl 0 rfl) ?_
    refine va_get (D := G) (ci := 4) (v := .ref (A 17)) (C := RX4) (T := TX4) (N := 32) hx hb hts (fun w h => .tail _ (wl_X4 w h)) hown hK hP 0 rfl rfl 25 (by decide) (hts _ (.tail _ wm_38)) (fun _ h9 => h9) rfl dX4_beginText_24 ?_
    refine va_alen hx hb hK hP 17 3 rfl rfl (v := (Int32.ofNat (Ms.nby z))) rfl dX4_beginText_27 ?_
    refine lv_icmp_le (tgt := 45) hx hb dX4_beginText_28 (by decide) (fun c3 => ?_) (fun c3 => ?_)
    · have hf := (if_pos c3).symm.trans hf
      refine lv_iconst (v := 0) hx hb dX4_beginText_45 (by decide) ?_
      refine lv_istore_n (lv' := [(3, .int 0), (0, .ref q), (1, .int x1), (2, .int x2)]) hx hb dX4_beginText_46 rfl hl (by decide) rfl (fun ls hl => ?_)
      exact L_md_beginText_l47 _ _ _ _ _ _ _ _ _ _ _ _ _ _ _ _ _ _ _ C hK FU _ _ _ _ _ _ _ _ _ _ _ hP hD hS (lv_sub hl [1, 2, 3, 0] rfl) hf (by omega) (by omega)
    · have hf := (if_neg c3).symm.trans hf
      refine lv_aload_n hx hb dX4_beginText_31 rfl (lv_at hl 0 rfl) ?_
      refine lv_aload_n hx hb dX4_beginText_32 rfl (lv_at hl 0 rfl) ?_
      refine va_get (D := G) (ci := 4) (v := .ref (A 17)) (C := RX4) (T := TX4) (N := 32) hx hb hts (fun w h => .tail _ (wl_X4 w h)) hown hK hP 0 rfl rfl 25 (by decide) (hts _ (.tail _ wm_38)) (fun _ h9 => h9) rfl dX4_beginText_33 ?_
      obtain ⟨hg5, hf⟩ := of_gd hf
      obtain ⟨d6, hf, ek7⟩ := of_addc hf
      have bhg5 := (wdb_in hg5).1
      have hPc := hP.sub (ws' := [(A 17, .inl (cB, (Ms.nby z), .inl (Ms.aby z)))]) [17] rfl
      have hDc := hD.sub (ws' := [(A 17, .inl (cB, (Ms.nby z), .inl (Ms.aby z)))]) [17] (by decide) rfl
      refine gcA (q0 := 17) (gS FX [.ref (A 17)] (c_md_widerBytes l G cI cL cZ cB (A 17) (Ms.nby z) (Ms.aby z) _ (wdb_in hg5)) (cwS 1 hts (gi_S wm_76 wm_77 wm_6 wm_78) rfl rfl rfl hdS_X4_widerBytes ⟨Nat.le_of_ble_eq_true rfl, Nat.le_of_ble_eq_true rfl⟩) hK hPc hDc rfl hl.1 (Nat.le_of_ble_eq_true rfl) dX4_beginText_36 ⟨by show _ ≤ mcT; omega, by show _ ≤ msT; omega⟩) hP rfl hS hD hA (fun x4 H locs hP hD hS => ?_)
      refine va_put (D := G) (ci := 4) (v := .ref x4) (ty := .array .byte) (C := RX4) (T := TX4) (N := 32) hx hb hts (fun w h => .tail _ (wl_X4 w h)) tyX4 tyX4_ok nmX4 hown hK hP hD hS 0 rfl rfl 25 (by decide) (hts _ (.tail _ wm_38)) (fun _ h9 => h9) rfl (by decide +kernel) rfl rfl (Nat.le_of_ble_eq_true rfl) dX4_beginText_39 (fun H locs hP hD hS => ?_)
      have hP := hP.sub (ws' := (mw cI cL cZ cB q (va_up A 17 x4) (Ms.wby (Ms.snby z (2 * (Ms.nby z))) (wdB (Ms.aby z) (Ms.nby z))))) [0, 1, 2, 3, 4, 5, 6, 7, 8, 9, 10, 11, 12, 13, 14, 15, 16, 22, 18, 19, 20, 21] rfl
      have hD := hD.sub (ws' := (mw cI cL cZ cB q (va_up A 17 x4) (Ms.wby (Ms.snby z (2 * (Ms.nby z))) (wdB (Ms.aby z) (Ms.nby z))))) [0, 1, 2, 3, 4, 5, 6, 7, 8, 9, 10, 11, 12, 13, 14, 15, 16, 22, 18, 19, 20, 21] (by decide) rfl
      generalize va_up A 17 x4 = A at hP hD
      refine lv_goto (tgt := 17) hx hb dX4_beginText_42 (by decide) ?_
      exact ih _ _ _ _ _ _ _ _ _ _ hP hD hS (lv_sub hl [0, 1, 2] rfl) hf (by omega) (by omega)
set_option maxHeartbeats 4000000 in
set_option maxRecDepth 100000 in
theorem c_md_beginText (l : Launch) (G : va_G) (cI cL cZ cB : ClassId) (q : Nat) (A : Nat → Nat) (z : Ms) (sz : Nat) (p0 : Int32) (c0 : Nat) (O0 : Ms × Int32) (hf : md_beginText z p0 = some (c0, O0)) : Met l yX4_beginText vX4_beginText { frames := 2, cells := 0 + c0 / 64, slots := 0 + c0, locals := 44 } (gPc G vwCl (mt cI cL cZ cB) [.ref q, .int p0] (mw cI cL cZ cB q A z) sz) (qWi G vwCl (mt cI cL cZ cB) (mw cI cL cZ cB q A z) sz (mw cI cL cZ cB q) O0) (0 + c0 / 64) (0 + c0) (va_A (mw cI cL cZ cB q A z) sz) := by
  refine gMet (by decide) rfl (Nat.le_of_ble_eq_true rfl) ?_
  intro p e s m below meth c ls C hK hP hD hsz hl
  subst hsz
  obtain ⟨hx, hb, hr, hml, hown, hts, hlocks⟩ := id C
  have FX : CallFix p m c cX4_beginText 4 s _ vX4_beginText RX4 := ⟨hx, hb, hml, hown, hts⟩
  have hA : ∀ q9 : Nat, s.heap.size ≤ q9 → va_A (mw cI cL cZ cB q A z) s.heap.size q9 := fun q9 h => Or.inr h
  have hS : va_S (va_A (mw cI cL cZ cB q A z) s.heap.size) s.heap s.heap [] := va_S.rf
  have hl : lv_has ls 4 [(0, .ref q), (1, .int p0)] := hl
  unfold md_beginText at hf
  refine lv_aload_n hx hb dX4_beginText_0 rfl (lv_at hl 0 rfl) ?_
  refine lv_iconst (v := 3) hx hb dX4_beginText_1 (by decide) ?_
  refine lv_iload_n hx hb dX4_beginText_2 rfl (lv_at hl 1 rfl) ?_
  obtain ⟨k1, z1, r1, d1, ho1, hf, ek1⟩ := of_bcw hf
  refine gcWi (gV FX [.int 3, .int p0] (c_md_begin l G cI cL cZ cB q A z _ 3 p0 k1 _ ho1) (cwV 2 hts (gi_V wm_72 wm_73 wm_74 wm_6 wm_75) rfl rfl rfl hdV_X4_begin ⟨Nat.le_of_ble_eq_true rfl, Nat.le_of_ble_eq_true rfl⟩) hK hP hD 0 rfl rfl rfl hl.1 (Nat.le_of_ble_eq_true rfl) dX4_beginText_3 ⟨by show _ ≤ 0 + c0 / 64; omega, by show _ ≤ 0 + c0; omega⟩) hS hD hA (fun A H locs hP hD hS => ?_)
  refine lv_istore_n (lv' := [(2, .int r1), (0, .ref q), (1, .int p0)]) hx hb dX4_beginText_6 rfl hl (by decide) rfl (fun ls hl => ?_)
  refine lv_aload_n hx hb dX4_beginText_7 rfl (lv_at hl 1 rfl) ?_
  refine va_get (D := G) (ci := 4) (v := .ref (A 5)) (C := RX4) (T := TX4) (N := 32) hx hb hts (fun w h => .tail _ (wl_X4 w h)) hown hK hP 0 rfl rfl 12 (by decide) (hts _ (.tail _ wm_27)) (fun _ h9 => h9) rfl dX4_beginText_8 ?_
  refine lv_iload_n hx hb dX4_beginText_11 rfl (lv_at hl 0 rfl) ?_
  refine lv_aload_n hx hb dX4_beginText_12 rfl (lv_at hl 1 rfl) ?_
  refine va_get (D := G) (ci := 4) (v := .int (Ms.byc z1)) (C := RX4) (T := TX4) (N := 32) hx hb hts (fun w h => .tail _ (wl_X4 w h)) hown hK hP 0 rfl rfl 26 (by decide) (hts _ (.tail _ wm_31)) (fun _ h9 => h9) rfl dX4_beginText_13 ?_
  obtain ⟨hg2, hf⟩ := of_gd hf
  refine va_iast (f := (Ms.asr z1)) (n := (Ms.nsr z1)) hx hb hK hP hD hS 5 0 rfl rfl (inb_in hg2) dX4_beginText_16 (fun H locs hP hD hS => ?_)
  have hP : va_P G vwCl (mw cI cL cZ cB q A (Ms.wsr z1 (upd (Ms.asr z1) (r1.toNatClampNeg) (Ms.byc z1)))) H := hP
  have hD : va_D _ (mw cI cL cZ cB q A (Ms.wsr z1 (upd (Ms.asr z1) (r1.toNatClampNeg) (Ms.byc z1)))) := hD
  exact L_md_beginText_l17 _ _ _ _ _ _ _ _ _ _ _ _ _ _ _ _ _ _ _ C hK FU _ _ _ _ _ _ _ _ _ _ hP hD hS (lv_sub hl [1, 2, 0] rfl) hf (by omega) (by omega)
def At_md_number_j13 (l : Launch) (G : va_G) (cI cL cZ cB : ClassId) (q : Nat) (w : va_W) (p : Program) (e : Env) (s : State) (m : MethodId) (args : Array Value) (below : List Frame) (meth : Method) (c : Code) (O0 : Ms × Unit) (mcT msT : Nat) (F : Int32 → Int64 → Int32 → Ms → Option (Ms × Unit)) : Prop := ∀ (A : Nat → Nat) (z : Ms) (x1 : Int32) (x2 : Int64) (t0 : Int32) (H : Heap) (locs : List Loc) (ls : Array Slot) (cells slots : Nat), va_P G vwCl (mw cI cL cZ cB q A z) H → va_D (va_A w s.heap.size) (mw cI cL cZ cB q A z) → va_S (va_A w s.heap.size) s.heap H locs → lv_has ls 4 [(0, .ref q), (1, .int x1), (2, .long x2)] → F x1 x2 t0 z = some O0 → cells + 0 ≤ mcT → slots + 0 ≤ msT → W p l e { frames := 1, cells := mcT, slots := msT, locals := 24 } s m args below meth c H locs cells slots (MQ below (qWv G vwCl (mt cI cL cZ cB) w s.heap.size (mw cI cL cZ cB q) O0) args s mcT msT (va_A w s.heap.size)) (F0 m 13 ls [.int t0, .ref q])
set_option maxHeartbeats 4000000 in
set_option maxRecDepth 100000 in
theorem L_md_number_j13 (l : Launch) (G : va_G) (cI cL cZ cB : ClassId) (q : Nat) (w : va_W) (p : Program) (e : Env) (s : State) (m : MethodId) (args : Array Value) (below : List Frame) (meth : Method) (c : Code) (O0 : Ms × Unit) (mcT msT : Nat) (C : MC p s m args meth c cX4_number 4 (none) RX4 vX4_number) (hK : va_K G vwCl (mt cI cL cZ cB) s) : At_md_number_j13 l G cI cL cZ cB q w p e s m args below meth c O0 mcT msT md_number_j13 := by
  obtain ⟨hx, hb, hr, hml, hown, hts, hlocks⟩ := id C
  have FX : CallFix p m c cX4_number 4 s args vX4_number RX4 := ⟨hx, hb, hml, hown, hts⟩
  have hA : ∀ q9 : Nat, s.heap.size ≤ q9 → va_A w s.heap.size q9 := fun q9 h => Or.inr h
  intro A z x1 x2 t0 H locs ls cells slots hP hD hS hl hf hcc hss
  unfold md_number_j13 at hf
  refine va_put (D := G) (ci := 4) (v := .int t0) (ty := .int) (C := RX4) (T := TX4) (N := 32) hx hb hts (fun w h => .tail _ (wl_X4 w h)) tyX4 tyX4_ok nmX4 hown hK hP hD hS 0 rfl rfl 0 (by decide) (hts _ (.tail _ wm_0)) (fun _ h9 => h9) rfl (by decide +kernel) rfl rfl (Nat.le_of_ble_eq_true rfl) dX4_number_13 (fun H locs hP hD hS => ?_)
  have hP : va_P G vwCl (mw cI cL cZ cB q A (Ms.sthr z t0)) H := hP
  have hD : va_D _ (mw cI cL cZ cB q A (Ms.sthr z t0)) := hD
  refine lv_aload_n hx hb dX4_number_16 rfl (lv_at hl 0 rfl) ?_
  refine va_get (D := G) (ci := 4) (v := .int t0) (C := RX4) (T := TX4) (N := 32) hx hb hts (fun w h => .tail _ (wl_X4 w h)) hown hK hP 0 rfl rfl 0 (by decide) (hts _ (.tail _ wm_0)) (fun _ h9 => h9) rfl dX4_number_17 ?_
  refine lv_if_ne (tgt := 30) hx hb dX4_number_20 (by decide) (fun c3 => ?_) (fun c3 => ?_)
  · have hf := (if_neg c3).symm.trans hf
    obtain rfl := Option.some.inj hf
    exact grWv hx hb hr hlocks hP hK hD hS dX4_number_30 (by omega) (by omega)
  · have hf := (if_pos c3).symm.trans hf
    refine lv_aload_n hx hb dX4_number_23 rfl (lv_at hl 0 rfl) ?_
    refine lv_iload_n hx hb dX4_number_24 rfl (lv_at hl 1 rfl) ?_
    refine lv_iconst (v := 0) hx hb dX4_number_25 (by decide) ?_
    refine lv_lload_n hx hb dX4_number_26 rfl (lv_at hl 2 rfl) ?_
    obtain ⟨z4, o9, ho4, hf⟩ := of_bw hf
    refine gcWv (gV FX [.int x1, .int 0, .long x2] (c_md_set l G cI cL cZ cB q A (Ms.sthr z t0) _ x1 0 x2 _ ho4) (cwV 3 hts (gi_V wm_82 wm_83 wm_84 wm_6 wm_85) rfl rfl rfl hdV_X4_set ⟨Nat.le_of_ble_eq_true rfl, Nat.le_of_ble_eq_true rfl⟩) hK hP hD 0 rfl rfl rfl hl.1 (Nat.le_of_ble_eq_true rfl) dX4_number_27 ⟨by show _ ≤ mcT; omega, by show _ ≤ msT; omega⟩) hS hD hA (fun A H locs hP hD hS => ?_)
    obtain rfl := Option.some.inj hf
    exact grWv hx hb hr hlocks hP hK hD hS dX4_number_30 (by omega) (by omega)
set_option maxHeartbeats 4000000 in
set_option maxRecDepth 100000 in
theorem c_md_number (l : Launch) (G : va_G) (cI cL cZ cB : ClassId) (q : Nat) (A : Nat → Nat) (z : Ms) (sz : Nat) (p0 : Int32) (p1 : Int64) (O0 : Ms × Unit) (hf : md_number z p0 p1 = some O0) : Met l yX4_number vX4_number { frames := 1, cells := 0, slots := 0, locals := 24 } (gPc G vwCl (mt cI cL cZ cB) [.ref q, .int p0, .long p1] (mw cI cL cZ cB q A z) sz) (qWv G vwCl (mt cI cL cZ cB) (mw cI cL cZ cB q A z) sz (mw cI cL cZ cB q) O0) 0 0 (va_A (mw cI cL cZ cB q A z) sz) := by
  refine gMet (by decide) rfl (Nat.le_of_ble_eq_true rfl) ?_
  intro p e s m below meth c ls C hK hP hD hsz hl
  subst hsz
  obtain ⟨hx, hb, hr, hml, hown, hts, hlocks⟩ := id C
  have FX : CallFix p m c cX4_number 4 s _ vX4_number RX4 := ⟨hx, hb, hml, hown, hts⟩
  have hA : ∀ q9 : Nat, s.heap.size ≤ q9 → va_A (mw cI cL cZ cB q A z) s.heap.size q9 := fun q9 h => Or.inr h
  have hS : va_S (va_A (mw cI cL cZ cB q A z) s.heap.size) s.heap s.heap [] := va_S.rf
  have hl : lv_has ls 4 [(0, .ref q), (1, .int p0), (2, .long p1)] := hl
  unfold md_number at hf
  refine lv_aload_n hx hb dX4_number_0 rfl (lv_at hl 0 rfl) ?_
  refine lv_iload_n hx hb dX4_number_1 rfl (lv_at hl 1 rfl) ?_
  obtain ⟨r1, ho1, hf⟩ := of_b0 hf
  refine gcRi (gS FX [.int p0] (c_md_isRegister l G cI cL cZ cB q A z _ p0 _ ho1) (cwS 1 hts (gi_S wm_79 wm_80 wm_6 wm_81) rfl rfl rfl hdS_X4_isRegister ⟨Nat.le_of_ble_eq_true rfl, Nat.le_of_ble_eq_true rfl⟩) hK hP hD rfl hl.1 (Nat.le_of_ble_eq_true rfl) dX4_number_2 ⟨by show _ ≤ 0; omega, by show _ ≤ 0; omega⟩) hS hD hA (fun H locs hP hS => ?_)
  refine lv_if_eq (tgt := 12) hx hb dX4_number_5 (by decide) (fun c2 => ?_) (fun c2 => ?_)
  · have hf := (if_pos c2).symm.trans hf
    refine lv_iconst (v := 1) hx hb dX4_number_12 (by decide) ?_
    exact L_md_number_j13 _ _ _ _ _ _ _ _ _ _ _ _ _ _ _ _ _ _ _ C hK _ _ _ _ _ _ _ _ _ _ hP hD hS (lv_sub hl [0, 1, 2] rfl) hf (by omega) (by omega)
  · have hf := (if_neg c2).symm.trans hf
    refine lv_iconst (v := 0) hx hb dX4_number_8 (by decide) ?_
    refine lv_goto (tgt := 13) hx hb dX4_number_9 (by decide) ?_
    exact L_md_number_j13 _ _ _ _ _ _ _ _ _ _ _ _ _ _ _ _ _ _ _ C hK _ _ _ _ _ _ _ _ _ _ hP hD hS (lv_sub hl [0, 1, 2] rfl) hf (by omega) (by omega)
def At_md_nil_j13 (l : Launch) (G : va_G) (cI cL cZ cB : ClassId) (q : Nat) (w : va_W) (p : Program) (e : Env) (s : State) (m : MethodId) (args : Array Value) (below : List Frame) (meth : Method) (c : Code) (O0 : Ms × Unit) (mcT msT : Nat) (F : Int32 → Int32 → Ms → Option (Ms × Unit)) : Prop := ∀ (A : Nat → Nat) (z : Ms) (x1 : Int32) (t0 : Int32) (H : Heap) (locs : List Loc) (ls : Array Slot) (cells slots : Nat), va_P G vwCl (mw cI cL cZ cB q A z) H → va_D (va_A w s.heap.size) (mw cI cL cZ cB q A z) → va_S (va_A w s.heap.size) s.heap H locs → lv_has ls 2 [(0, .ref q), (1, .int x1)] → F x1 t0 z = some O0 → cells + 0 ≤ mcT → slots + 0 ≤ msT → W p l e { frames := 1, cells := mcT, slots := msT, locals := 24 } s m args below meth c H locs cells slots (MQ below (qWv G vwCl (mt cI cL cZ cB) w s.heap.size (mw cI cL cZ cB q) O0) args s mcT msT (va_A w s.heap.size)) (F0 m 13 ls [.int t0, .ref q])
set_option maxHeartbeats 4000000 in
set_option maxRecDepth 100000 in
theorem L_md_nil_j13 (l : Launch) (G : va_G) (cI cL cZ cB : ClassId) (q : Nat) (w : va_W) (p : Program) (e : Env) (s : State) (m : MethodId) (args : Array Value) (below : List Frame) (meth : Method) (c : Code) (O0 : Ms × Unit) (mcT msT : Nat) (C : MC p s m args meth c cX4_nil 2 (none) RX4 vX4_nil) (hK : va_K G vwCl (mt cI cL cZ cB) s) : At_md_nil_j13 l G cI cL cZ cB q w p e s m args below meth c O0 mcT msT md_nil_j13 := by
  obtain ⟨hx, hb, hr, hml, hown, hts, hlocks⟩ := id C
  have FX : CallFix p m c cX4_nil 2 s args vX4_nil RX4 := ⟨hx, hb, hml, hown, hts⟩
  have hA : ∀ q9 : Nat, s.heap.size ≤ q9 → va_A w s.heap.size q9 := fun q9 h => Or.inr h
  intro A z x1 t0 H locs ls cells slots hP hD hS hl hf hcc hss
  unfold md_nil_j13 at hf
  refine va_put (D := G) (ci := 4) (v := .int t0) (ty := .int) (C := RX4) (T := TX4) (N := 32) hx hb hts (fun w h => .tail _ (wl_X4 w h)) tyX4 tyX4_ok nmX4 hown hK hP hD hS 0 rfl rfl 0 (by decide) (hts _ (.tail _ wm_0)) (fun _ h9 => h9) rfl (by decide +kernel) rfl rfl (Nat.le_of_ble_eq_true rfl) dX4_nil_13 (fun H locs hP hD hS => ?_)
  have hP : va_P G vwCl (mw cI cL cZ cB q A (Ms.sthr z t0)) H := hP
  have hD : va_D _ (mw cI cL cZ cB q A (Ms.sthr z t0)) := hD
  refine lv_aload_n hx hb dX4_nil_16 rfl (lv_at hl 0 rfl) ?_
  refine va_get (D := G) (ci := 4) (v := .int t0) (C := RX4) (T := TX4) (N := 32) hx hb hts (fun w h => .tail _ (wl_X4 w h)) hown hK hP 0 rfl rfl 0 (by decide) (hts _ (.tail _ wm_0)) (fun _ h9 => h9) rfl dX4_nil_17 ?_
  refine lv_if_ne (tgt := 30) hx hb dX4_nil_20 (by decide) (fun c3 => ?_) (fun c3 => ?_)
  · have hf := (if_neg c3).symm.trans hf
    obtain rfl := Option.some.inj hf
    exact grWv hx hb hr hlocks hP hK hD hS dX4_nil_30 (by omega) (by omega)
  · have hf := (if_pos c3).symm.trans hf
    refine lv_aload_n hx hb dX4_nil_23 rfl (lv_at hl 0 rfl) ?_
    refine lv_iload_n hx hb dX4_nil_24 rfl (lv_at hl 1 rfl) ?_
    refine lv_iconst (v := (-1)) hx hb dX4_nil_25 (by decide) ?_
    refine lv_lconst (v := 0) hx hb dX4_nil_26 (by decide) ?_
    obtain ⟨z4, o9, ho4, hf⟩ := of_bw hf
    refine gcWv (gV FX [.int x1, .int (-1), .long 0] (c_md_set l G cI cL cZ cB q A (Ms.sthr z t0) _ x1 (-1) 0 _ ho4) (cwV 3 hts (gi_V wm_82 wm_83 wm_84 wm_6 wm_85) rfl rfl rfl hdV_X4_set ⟨Nat.le_of_ble_eq_true rfl, Nat.le_of_ble_eq_true rfl⟩) hK hP hD 0 rfl rfl rfl hl.1 (Nat.le_of_ble_eq_true rfl) dX4_nil_27 ⟨by show _ ≤ mcT; omega, by show _ ≤ msT; omega⟩) hS hD hA (fun A H locs hP hD hS => ?_)
    obtain rfl := Option.some.inj hf
    exact grWv hx hb hr hlocks hP hK hD hS dX4_nil_30 (by omega) (by omega)
set_option maxHeartbeats 4000000 in
set_option maxRecDepth 100000 in
theorem c_md_nil (l : Launch) (G : va_G) (cI cL cZ cB : ClassId) (q : Nat) (A : Nat → Nat) (z : Ms) (sz : Nat) (p0 : Int32) (O0 : Ms × Unit) (hf : md_nil z p0 = some O0) : Met l yX4_nil vX4_nil { frames := 1, cells := 0, slots := 0, locals := 24 } (gPc G vwCl (mt cI cL cZ cB) [.ref q, .int p0] (mw cI cL cZ cB q A z) sz) (qWv G vwCl (mt cI cL cZ cB) (mw cI cL cZ cB q A z) sz (mw cI cL cZ cB q) O0) 0 0 (va_A (mw cI cL cZ cB q A z) sz) := by
  refine gMet (by decide) rfl (Nat.le_of_ble_eq_true rfl) ?_
  intro p e s m below meth c ls C hK hP hD hsz hl
  subst hsz
  obtain ⟨hx, hb, hr, hml, hown, hts, hlocks⟩ := id C
  have FX : CallFix p m c cX4_nil 2 s _ vX4_nil RX4 := ⟨hx, hb, hml, hown, hts⟩
  have hA : ∀ q9 : Nat, s.heap.size ≤ q9 → va_A (mw cI cL cZ cB q A z) s.heap.size q9 := fun q9 h => Or.inr h
  have hS : va_S (va_A (mw cI cL cZ cB q A z) s.heap.size) s.heap s.heap [] := va_S.rf
  have hl : lv_has ls 2 [(0, .ref q), (1, .int p0)] := hl
  unfold md_nil at hf
  refine lv_aload_n hx hb dX4_nil_0 rfl (lv_at hl 0 rfl) ?_
  refine lv_iload_n hx hb dX4_nil_1 rfl (lv_at hl 1 rfl) ?_
  obtain ⟨r1, ho1, hf⟩ := of_b0 hf
  refine gcRi (gS FX [.int p0] (c_md_isRegister l G cI cL cZ cB q A z _ p0 _ ho1) (cwS 1 hts (gi_S wm_79 wm_80 wm_6 wm_81) rfl rfl rfl hdS_X4_isRegister ⟨Nat.le_of_ble_eq_true rfl, Nat.le_of_ble_eq_true rfl⟩) hK hP hD rfl hl.1 (Nat.le_of_ble_eq_true rfl) dX4_nil_2 ⟨by show _ ≤ 0; omega, by show _ ≤ 0; omega⟩) hS hD hA (fun H locs hP hS => ?_)
  refine lv_if_eq (tgt := 12) hx hb dX4_nil_5 (by decide) (fun c2 => ?_) (fun c2 => ?_)
  · have hf := (if_pos c2).symm.trans hf
    refine lv_iconst (v := 1) hx hb dX4_nil_12 (by decide) ?_
    exact L_md_nil_j13 _ _ _ _ _ _ _ _ _ _ _ _ _ _ _ _ _ _ _ C hK _ _ _ _ _ _ _ _ _ hP hD hS (lv_sub hl [0, 1] rfl) hf (by omega) (by omega)
  · have hf := (if_neg c2).symm.trans hf
    refine lv_iconst (v := 0) hx hb dX4_nil_8 (by decide) ?_
    refine lv_goto (tgt := 13) hx hb dX4_nil_9 (by decide) ?_
    exact L_md_nil_j13 _ _ _ _ _ _ _ _ _ _ _ _ _ _ _ _ _ _ _ C hK _ _ _ _ _ _ _ _ _ hP hD hS (lv_sub hl [0, 1] rfl) hf (by omega) (by omega)
def At_md_move_j20 (l : Launch) (G : va_G) (cI cL cZ cB : ClassId) (q : Nat) (w : va_W) (p : Program) (e : Env) (s : State) (m : MethodId) (args : Array Value) (below : List Frame) (meth : Method) (c : Code) (O0 : Ms × Unit) (mcT msT : Nat) (F : Int32 → Int32 → Int32 → Ms → Option (Ms × Unit)) : Prop := ∀ (A : Nat → Nat) (z : Ms) (x1 : Int32) (x2 : Int32) (t0 : Int32) (H : Heap) (locs : List Loc) (ls : Array Slot) (cells slots : Nat), va_P G vwCl (mw cI cL cZ cB q A z) H → va_D (va_A w s.heap.size) (mw cI cL cZ cB q A z) → va_S (va_A w s.heap.size) s.heap H locs → lv_has ls 3 [(0, .ref q), (1, .int x1), (2, .int x2)] → F x1 x2 t0 z = some O0 → cells + 0 ≤ mcT → slots + 0 ≤ msT → W p l e { frames := 1, cells := mcT, slots := msT, locals := 24 } s m args below meth c H locs cells slots (MQ below (qWv G vwCl (mt cI cL cZ cB) w s.heap.size (mw cI cL cZ cB q) O0) args s mcT msT (va_A w s.heap.size)) (F0 m 20 ls [.int t0, .ref q])
def At_md_move_j19 (l : Launch) (G : va_G) (cI cL cZ cB : ClassId) (q : Nat) (w : va_W) (p : Program) (e : Env) (s : State) (m : MethodId) (args : Array Value) (below : List Frame) (meth : Method) (c : Code) (O0 : Ms × Unit) (mcT msT : Nat) (F : Int32 → Int32 → Ms → Option (Ms × Unit)) : Prop := ∀ (A : Nat → Nat) (z : Ms) (x1 : Int32) (x2 : Int32) (H : Heap) (locs : List Loc) (ls : Array Slot) (cells slots : Nat), va_P G vwCl (mw cI cL cZ cB q A z) H → va_D (va_A w s.heap.size) (mw cI cL cZ cB q A z) → va_S (va_A w s.heap.size) s.heap H locs → lv_has ls 3 [(0, .ref q), (1, .int x1), (2, .int x2)] → F x1 x2 z = some O0 → cells + 0 ≤ mcT → slots + 0 ≤ msT → W p l e { frames := 1, cells := mcT, slots := msT, locals := 24 } s m args below meth c H locs cells slots (MQ below (qWv G vwCl (mt cI cL cZ cB) w s.heap.size (mw cI cL cZ cB q) O0) args s mcT msT (va_A w s.heap.size)) (F0 m 19 ls [.ref q])
set_option maxHeartbeats 4000000 in
set_option maxRecDepth 100000 in
theorem L_md_move_j20 (l : Launch) (G : va_G) (cI cL cZ cB : ClassId) (q : Nat) (w : va_W) (p : Program) (e : Env) (s : State) (m : MethodId) (args : Array Value) (below : List Frame) (meth : Method) (c : Code) (O0 : Ms × Unit) (mcT msT : Nat) (C : MC p s m args meth c cX4_move 3 (none) RX4 vX4_move) (hK : va_K G vwCl (mt cI cL cZ cB) s) : At_md_move_j20 l G cI cL cZ cB q w p e s m args below meth c O0 mcT msT md_move_j20 := by
  obtain ⟨hx, hb, hr, hml, hown, hts, hlocks⟩ := id C
  have FX : CallFix p m c cX4_move 3 s args vX4_move RX4 := ⟨hx, hb, hml, hown, hts⟩
  have hA : ∀ q9 : Nat, s.heap.size ≤ q9 → va_A w s.heap.size q9 := fun q9 h => Or.inr h
  intro A z x1 x2 t0 H locs ls cells slots hP hD hS hl hf hcc hss
  unfold md_move_j20 at hf
  refine va_put (D := G) (ci := 4) (v := .int t0) (ty := .int) (C := RX4) (T := TX4) (N := 32) hx hb hts (fun w h => .tail _ (wl_X4 w h)) tyX4 tyX4_ok nmX4 hown hK hP hD hS 0 rfl rfl 0 (by decide) (hts _ (.tail _ wm_0)) (fun _ h9 => h9) rfl (by decide +kernel) rfl rfl (Nat.le_of_ble_eq_true rfl) dX4_move_20 (fun H locs hP hD hS => ?_)
  have hP : va_P G vwCl (mw cI cL cZ cB q A (Ms.sthr z t0)) H := hP
  have hD : va_D _ (mw cI cL cZ cB q A (Ms.sthr z t0)) := hD
  refine lv_aload_n hx hb dX4_move_23 rfl (lv_at hl 0 rfl) ?_
  refine va_get (D := G) (ci := 4) (v := .int t0) (C := RX4) (T := TX4) (N := 32) hx hb hts (fun w h => .tail _ (wl_X4 w h)) hown hK hP 0 rfl rfl 0 (by decide) (hts _ (.tail _ wm_0)) (fun _ h9 => h9) rfl dX4_move_24 ?_
  refine lv_if_ne (tgt := 47) hx hb dX4_move_27 (by decide) (fun c5 => ?_) (fun c5 => ?_)
  · have hf := (if_neg c5).symm.trans hf
    obtain rfl := Option.some.inj hf
    exact grWv hx hb hr hlocks hP hK hD hS dX4_move_47 (by omega) (by omega)
  · have hf := (if_pos c5).symm.trans hf
    refine lv_aload_n hx hb dX4_move_30 rfl (lv_at hl 0 rfl) ?_
    refine lv_iload_n hx hb dX4_move_31 rfl (lv_at hl 1 rfl) ?_
    refine lv_aload_n hx hb dX4_move_32 rfl (lv_at hl 0 rfl) ?_
    refine va_get (D := G) (ci := 4) (v := .ref (A 1)) (C := RX4) (T := TX4) (N := 32) hx hb hts (fun w h => .tail _ (wl_X4 w h)) hown hK hP 0 rfl rfl 7 (by decide) (hts _ (.tail _ wm_1)) (fun _ h9 => h9) rfl dX4_move_33 ?_
    refine lv_iload_n hx hb dX4_move_36 rfl (lv_at hl 2 rfl) ?_
    obtain ⟨hg6, hf⟩ := of_gd hf
    refine va_iald (f := (Ms.atg z)) (n := (Ms.ntg z)) hx hb hK hP 1 0 rfl rfl (inb_in hg6) dX4_move_37 ?_
    refine lv_aload_n hx hb dX4_move_38 rfl (lv_at hl 0 rfl) ?_
    refine va_get (D := G) (ci := 4) (v := .ref (A 2)) (C := RX4) (T := TX4) (N := 32) hx hb hts (fun w h => .tail _ (wl_X4 w h)) hown hK hP 0 rfl rfl 8 (by decide) (hts _ (.tail _ wm_8)) (fun _ h9 => h9) rfl dX4_move_39 ?_
    refine lv_iload_n hx hb dX4_move_42 rfl (lv_at hl 2 rfl) ?_
    obtain ⟨hg7, hf⟩ := of_gd hf
    refine va_lald (f := (Ms.avl z)) (n := (Ms.nvl z)) hx hb hK hP 2 1 rfl rfl (inb_in hg7) dX4_move_43 ?_
    obtain ⟨z8, o9, ho8, hf⟩ := of_bw hf
    refine gcWv (gV FX [.int x1, .int ((Ms.atg z) x2.toNatClampNeg), .long ((Ms.avl z) x2.toNatClampNeg)] (c_md_set l G cI cL cZ cB q A (Ms.sthr z t0) _ x1 ((Ms.atg z) x2.toNatClampNeg) ((Ms.avl z) x2.toNatClampNeg) _ ho8) (cwV 3 hts (gi_V wm_82 wm_83 wm_84 wm_6 wm_85) rfl rfl rfl hdV_X4_set ⟨Nat.le_of_ble_eq_true rfl, Nat.le_of_ble_eq_true rfl⟩) hK hP hD 0 rfl rfl rfl hl.1 (Nat.le_of_ble_eq_true rfl) dX4_move_44 ⟨by show _ ≤ mcT; omega, by show _ ≤ msT; omega⟩) hS hD hA (fun A H locs hP hD hS => ?_)
    obtain rfl := Option.some.inj hf
    exact grWv hx hb hr hlocks hP hK hD hS dX4_move_47 (by omega) (by omega)
set_option maxHeartbeats 4000000 in
set_option maxRecDepth 100000 in
theorem L_md_move_j19 (l : Launch) (G : va_G) (cI cL cZ cB : ClassId) (q : Nat) (w : va_W) (p : Program) (e : Env) (s : State) (m : MethodId) (args : Array Value) (below : List Frame) (meth : Method) (c : Code) (O0 : Ms × Unit) (mcT msT : Nat) (C : MC p s m args meth c cX4_move 3 (none) RX4 vX4_move) (hK : va_K G vwCl (mt cI cL cZ cB) s) : At_md_move_j19 l G cI cL cZ cB q w p e s m args below meth c O0 mcT msT md_move_j19 := by
  obtain ⟨hx, hb, hr, hml, hown, hts, hlocks⟩ := id C
  have FX : CallFix p m c cX4_move 3 s args vX4_move RX4 := ⟨hx, hb, hml, hown, hts⟩
  have hA : ∀ q9 : Nat, s.heap.size ≤ q9 → va_A w s.heap.size q9 := fun q9 h => Or.inr h
  intro A z x1 x2 H locs ls cells slots hP hD hS hl hf hcc hss
  unfold md_move_j19 at hf
  refine lv_iconst (v := 1) hx hb dX4_move_19 (by decide) ?_
  exact L_md_move_j20 _ _ _ _ _ _ _ _ _ _ _ _ _ _ _ _ _ _ _ C hK _ _ _ _ _ _ _ _ _ _ hP hD hS (lv_sub hl [0, 1, 2] rfl) hf (by omega) (by omega)
set_option maxHeartbeats 4000000 in
set_option maxRecDepth 100000 in
theorem c_md_move (l : Launch) (G : va_G) (cI cL cZ cB : ClassId) (q : Nat) (A : Nat → Nat) (z : Ms) (sz : Nat) (p0 : Int32) (p1 : Int32) (O0 : Ms × Unit) (hf : md_move z p0 p1 = some O0) : Met l yX4_move vX4_move { frames := 1, cells := 0, slots := 0, locals := 24 } (gPc G vwCl (mt cI cL cZ cB) [.ref q, .int p0, .int p1] (mw cI cL cZ cB q A z) sz) (qWv G vwCl (mt cI cL cZ cB) (mw cI cL cZ cB q A z) sz (mw cI cL cZ cB q) O0) 0 0 (va_A (mw cI cL cZ cB q A z) sz) := by
  refine gMet (by decide) rfl (Nat.le_of_ble_eq_true rfl) ?_
  intro p e s m below meth c ls C hK hP hD hsz hl
  subst hsz
  obtain ⟨hx, hb, hr, hml, hown, hts, hlocks⟩ := id C
  have FX : CallFix p m c cX4_move 3 s _ vX4_move RX4 := ⟨hx, hb, hml, hown, hts⟩
  have hA : ∀ q9 : Nat, s.heap.size ≤ q9 → va_A (mw cI cL cZ cB q A z) s.heap.size q9 := fun q9 h => Or.inr h
  have hS : va_S (va_A (mw cI cL cZ cB q A z) s.heap.size) s.heap s.heap [] := va_S.rf
  have hl : lv_has ls 3 [(0, .ref q), (1, .int p0), (2, .int p1)] := hl
  unfold md_move at hf
  refine lv_aload_n hx hb dX4_move_0 rfl (lv_at hl 0 rfl) ?_
  refine lv_iload_n hx hb dX4_move_1 rfl (lv_at hl 1 rfl) ?_
  obtain ⟨r1, ho1, hf⟩ := of_b0 hf
  refine gcRi (gS FX [.int p0] (c_md_isRegister l G cI cL cZ cB q A z _ p0 _ ho1) (cwS 1 hts (gi_S wm_79 wm_80 wm_6 wm_81) rfl rfl rfl hdS_X4_isRegister ⟨Nat.le_of_ble_eq_true rfl, Nat.le_of_ble_eq_true rfl⟩) hK hP hD rfl hl.1 (Nat.le_of_ble_eq_true rfl) dX4_move_2 ⟨by show _ ≤ 0; omega, by show _ ≤ 0; omega⟩) hS hD hA (fun H locs hP hS => ?_)
  refine lv_if_eq (tgt := 19) hx hb dX4_move_5 (by decide) (fun c2 => ?_) (fun c2 => ?_)
  · have hf := (if_pos c2).symm.trans hf
    exact L_md_move_j19 _ _ _ _ _ _ _ _ _ _ _ _ _ _ _ _ _ _ _ C hK _ _ _ _ _ _ _ _ _ hP hD hS (lv_sub hl [0, 1, 2] rfl) hf (by omega) (by omega)
  · have hf := (if_neg c2).symm.trans hf
    refine lv_iload_n hx hb dX4_move_8 rfl (lv_at hl 2 rfl) ?_
    obtain ⟨r3, ho3, hf⟩ := of_b0 hf
    refine gcRi (gS FX [.int p1] (c_md_isRegister l G cI cL cZ cB q A z _ p1 _ ho3) (cwS 1 hts (gi_S wm_79 wm_80 wm_6 wm_81) rfl rfl rfl hdS_X4_isRegister ⟨Nat.le_of_ble_eq_true rfl, Nat.le_of_ble_eq_true rfl⟩) hK hP hD rfl hl.1 (Nat.le_of_ble_eq_true rfl) dX4_move_9 ⟨by show _ ≤ 0; omega, by show _ ≤ 0; omega⟩) hS hD hA (fun H locs hP hS => ?_)
    refine lv_if_eq (tgt := 19) hx hb dX4_move_12 (by decide) (fun c4 => ?_) (fun c4 => ?_)
    · have hf := (if_pos c4).symm.trans hf
      exact L_md_move_j19 _ _ _ _ _ _ _ _ _ _ _ _ _ _ _ _ _ _ _ C hK _ _ _ _ _ _ _ _ _ hP hD hS (lv_sub hl [0, 1, 2] rfl) hf (by omega) (by omega)
    · have hf := (if_neg c4).symm.trans hf
      refine lv_iconst (v := 0) hx hb dX4_move_15 (by decide) ?_
      refine lv_goto (tgt := 20) hx hb dX4_move_16 (by decide) ?_
      exact L_md_move_j20 _ _ _ _ _ _ _ _ _ _ _ _ _ _ _ _ _ _ _ C hK _ _ _ _ _ _ _ _ _ _ hP hD hS (lv_sub hl [0, 1, 2] rfl) hf (by omega) (by omega)
def At_md_makeRow_l64 (l : Launch) (G : va_G) (cI cL cZ cB : ClassId) (q : Nat) (w : va_W) (p : Program) (e : Env) (s : State) (m : MethodId) (args : Array Value) (below : List Frame) (meth : Method) (c : Code) (O0 : Ms × Int32) (mcT msT : Nat) (F : Int32 → Int32 → Int32 → Int32 → Ms → Option (Nat × Ms × Int32)) : Prop := ∀ (A : Nat → Nat) (z : Ms) (x1 : Int32) (x2 : Int32) (x3 : Int32) (x4 : Int32) (d0 : Nat) (H : Heap) (locs : List Loc) (ls : Array Slot) (cells slots : Nat), va_P G vwCl (mw cI cL cZ cB q A z) H → va_D (va_A w s.heap.size) (mw cI cL cZ cB q A z) → va_S (va_A w s.heap.size) s.heap H locs → lv_has ls 5 [(0, .ref q), (1, .int x1), (2, .int x2), (3, .int x3), (4, .int x4)] → F x1 x2 x3 x4 z = some (d0, O0) → cells + (0 + d0 / 64) ≤ mcT → slots + (0 + d0) ≤ msT → W p l e { frames := 2, cells := mcT, slots := msT, locals := 44 } s m args below meth c H locs cells slots (MQ below (qWi G vwCl (mt cI cL cZ cB) w s.heap.size (mw cI cL cZ cB q) O0) args s mcT msT (va_A w s.heap.size)) (F0 m 64 ls [])
def At_md_makeRow_l22 (l : Launch) (G : va_G) (cI cL cZ cB : ClassId) (q : Nat) (w : va_W) (p : Program) (e : Env) (s : State) (m : MethodId) (args : Array Value) (below : List Frame) (meth : Method) (c : Code) (O0 : Ms × Int32) (mcT msT : Nat) (F : Int32 → Int32 → Int32 → Ms → Option (Nat × Ms × Int32)) : Prop := ∀ (A : Nat → Nat) (z : Ms) (x1 : Int32) (x2 : Int32) (x3 : Int32) (d0 : Nat) (H : Heap) (locs : List Loc) (ls : Array Slot) (cells slots : Nat), va_P G vwCl (mw cI cL cZ cB q A z) H → va_D (va_A w s.heap.size) (mw cI cL cZ cB q A z) → va_S (va_A w s.heap.size) s.heap H locs → lv_has ls 5 [(0, .ref q), (1, .int x1), (2, .int x2), (3, .int x3)] → F x1 x2 x3 z = some (d0, O0) → cells + (0 + d0 / 64) ≤ mcT → slots + (0 + d0) ≤ msT → W p l e { frames := 2, cells := mcT, slots := msT, locals := 44 } s m args below meth c H locs cells slots (MQ below (qWi G vwCl (mt cI cL cZ cB) w s.heap.size (mw cI cL cZ cB q) O0) args s mcT msT (va_A w s.heap.size)) (F0 m 22 ls [])
set_option maxHeartbeats 4000000 in
set_option maxRecDepth 100000 in
theorem L_md_makeRow_l64 (l : Launch) (G : va_G) (cI cL cZ cB : ClassId) (q : Nat) (w : va_W) (p : Program) (e : Env) (s : State) (m : MethodId) (args : Array Value) (below : List Frame) (meth : Method) (c : Code) (O0 : Ms × Int32) (mcT msT : Nat) (C : MC p s m args meth c cX4_makeRow 5 (some .int) RX4 vX4_makeRow) (hK : va_K G vwCl (mt cI cL cZ cB) s) : ∀ n : Nat, At_md_makeRow_l64 l G cI cL cZ cB q w p e s m args below meth c O0 mcT msT (md_makeRow_l64 n) := by
  obtain ⟨hx, hb, hr, hml, hown, hts, hlocks⟩ := id C
  have FX : CallFix p m c cX4_makeRow 5 s args vX4_makeRow RX4 := ⟨hx, hb, hml, hown, hts⟩
  have hA : ∀ q9 : Nat, s.heap.size ≤ q9 → va_A w s.heap.size q9 := fun q9 h => Or.inr h
  intro n
  induction n with
  | zero =>
    intro A z x1 x2 x3 x4 d0 H locs ls cells slots hP hD hS hl hf hcc hss
    exact nomatch (show none = some _ from hf)
  | succ n ih =>
    intro A z x1 x2 x3 x4 d0 H locs ls cells slots hP hD hS hl hf hcc hss
    rw [md_makeRow_l64] at hf
    refine lv_iload hx hb dX4_makeRow_64 (lv_at hl 4 rfl) ?_
    refine lv_iload_n hx hb dX4_makeRow_66 rfl (lv_at hl 2 rfl) ?_
    refine lv_icmp_ge (tgt := 102) hx hb dX4_makeRow_67 (by decide) (fun c12 => ?_) (fun c12 => ?_)
    · have hf := (if_pos c12).symm.trans hf
      refine lv_aload_n hx hb dX4_makeRow_102 rfl (lv_at hl 0 rfl) ?_
      refine lv_dup hx hb dX4_makeRow_103 rfl ?_
      refine va_get (D := G) (ci := 4) (v := .int (Ms.wrd z)) (C := RX4) (T := TX4) (N := 32) hx hb hts (fun w h => .tail _ (wl_X4 w h)) hown hK hP 0 rfl rfl 24 (by decide) (hts _ (.tail _ wm_32)) (fun _ h9 => h9) rfl dX4_makeRow_104 ?_
      refine lv_iload_n hx hb dX4_makeRow_107 rfl (lv_at hl 2 rfl) ?_
      refine lv_iadd hx hb dX4_makeRow_108 ?_
      refine va_put (D := G) (ci := 4) (v := .int ((Ms.wrd z) + x2)) (ty := .int) (C := RX4) (T := TX4) (N := 32) hx hb hts (fun w h => .tail _ (wl_X4 w h)) tyX4 tyX4_ok nmX4 hown hK hP hD hS 0 rfl rfl 24 (by decide) (hts _ (.tail _ wm_32)) (fun _ h9 => h9) rfl (by decide +kernel) rfl rfl (Nat.le_of_ble_eq_true rfl) dX4_makeRow_109 (fun H locs hP hD hS => ?_)
      have hP : va_P G vwCl (mw cI cL cZ cB q A (Ms.swrd z ((Ms.wrd z) + x2))) H := hP
      have hD : va_D _ (mw cI cL cZ cB q A (Ms.swrd z ((Ms.wrd z) + x2))) := hD
      refine lv_aload_n hx hb dX4_makeRow_112 rfl (lv_at hl 0 rfl) ?_
      refine lv_iload_n hx hb dX4_makeRow_113 rfl (lv_at hl 1 rfl) ?_
      refine lv_iload_n hx hb dX4_makeRow_114 rfl (lv_at hl 3 rfl) ?_
      refine lv_lconst (v := 0) hx hb dX4_makeRow_115 (by decide) ?_
      obtain ⟨z13, o9, ho13, hf⟩ := of_bw hf
      refine gcWv (gV FX [.int x1, .int x3, .long 0] (c_md_set l G cI cL cZ cB q A (Ms.swrd z ((Ms.wrd z) + x2)) _ x1 x3 0 _ ho13) (cwV 3 hts (gi_V wm_82 wm_83 wm_84 wm_6 wm_85) rfl rfl rfl hdV_X4_set ⟨Nat.le_of_ble_eq_true rfl, Nat.le_of_ble_eq_true rfl⟩) hK hP hD 0 rfl rfl rfl hl.1 (Nat.le_of_ble_eq_true rfl) dX4_makeRow_116 ⟨by show _ ≤ mcT; omega, by show _ ≤ msT; omega⟩) hS hD hA (fun A H locs hP hD hS => ?_)
      refine lv_iload_n hx hb dX4_makeRow_119 rfl (lv_at hl 3 rfl) ?_
      obtain ⟨hc0, hj0⟩ := of_some2 hf
      subst hj0
      exact grWi hx hb hr hlocks hP hK hD hS dX4_makeRow_120 (by omega) (by omega)
    · have hf := (if_neg c12).symm.trans hf
      refine lv_aload_n hx hb dX4_makeRow_70 rfl (lv_at hl 0 rfl) ?_
      refine va_get (D := G) (ci := 4) (v := .ref (A 15)) (C := RX4) (T := TX4) (N := 32) hx hb hts (fun w h => .tail _ (wl_X4 w h)) hown hK hP 0 rfl rfl 22 (by decide) (hts _ (.tail _ wm_26)) (fun _ h9 => h9) rfl dX4_makeRow_71 ?_
      refine lv_aload_n hx hb dX4_makeRow_74 rfl (lv_at hl 0 rfl) ?_
      refine va_get (D := G) (ci := 4) (v := .int (Ms.wrd z)) (C := RX4) (T := TX4) (N := 32) hx hb hts (fun w h => .tail _ (wl_X4 w h)) hown hK hP 0 rfl rfl 24 (by decide) (hts _ (.tail _ wm_32)) (fun _ h9 => h9) rfl dX4_makeRow_75 ?_
      refine lv_iload hx hb dX4_makeRow_78 (lv_at hl 4 rfl) ?_
      refine lv_iadd hx hb dX4_makeRow_80 ?_
      refine lv_iconst (v := 0) hx hb dX4_makeRow_81 (by decide) ?_
      obtain ⟨hg14, hf⟩ := of_gd hf
      refine va_iast (f := (Ms.awt z)) (n := (Ms.nwt z)) hx hb hK hP hD hS 15 0 rfl rfl (inb_in hg14) dX4_makeRow_82 (fun H locs hP hD hS => ?_)
      have hP : va_P G vwCl (mw cI cL cZ cB q A (Ms.wwt z (upd (Ms.awt z) (((Ms.wrd z) + x4).toNatClampNeg) 0))) H := hP
      have hD : va_D _ (mw cI cL cZ cB q A (Ms.wwt z (upd (Ms.awt z) (((Ms.wrd z) + x4).toNatClampNeg) 0))) := hD
      refine lv_aload_n hx hb dX4_makeRow_83 rfl (lv_at hl 0 rfl) ?_
      refine va_get (D := G) (ci := 4) (v := .ref (A 16)) (C := RX4) (T := TX4) (N := 32) hx hb hts (fun w h => .tail _ (wl_X4 w h)) hown hK hP 0 rfl rfl 23 (by decide) (hts _ (.tail _ wm_39)) (fun _ h9 => h9) rfl dX4_makeRow_84 ?_
      refine lv_aload_n hx hb dX4_makeRow_87 rfl (lv_at hl 0 rfl) ?_
      refine va_get (D := G) (ci := 4) (v := .int (Ms.wrd z)) (C := RX4) (T := TX4) (N := 32) hx hb hts (fun w h => .tail _ (wl_X4 w h)) hown hK hP 0 rfl rfl 24 (by decide) (hts _ (.tail _ wm_32)) (fun _ h9 => h9) rfl dX4_makeRow_88 ?_
      refine lv_iload hx hb dX4_makeRow_91 (lv_at hl 4 rfl) ?_
      refine lv_iadd hx hb dX4_makeRow_93 ?_
      refine lv_lconst (v := 0) hx hb dX4_makeRow_94 (by decide) ?_
      obtain ⟨hg15, hf⟩ := of_gd hf
      refine va_last (f := (Ms.awv z)) (n := (Ms.nwv z)) hx hb hK hP hD hS 16 1 rfl rfl (inb_in hg15) dX4_makeRow_95 (fun H locs hP hD hS => ?_)
      have hP : va_P G vwCl (mw cI cL cZ cB q A (Ms.wwv (Ms.wwt z (upd (Ms.awt z) (((Ms.wrd z) + x4).toNatClampNeg) 0)) (vp_updL (Ms.awv z) (((Ms.wrd z) + x4).toNatClampNeg) 0))) H := hP
      have hD : va_D _ (mw cI cL cZ cB q A (Ms.wwv (Ms.wwt z (upd (Ms.awt z) (((Ms.wrd z) + x4).toNatClampNeg) 0)) (vp_updL (Ms.awv z) (((Ms.wrd z) + x4).toNatClampNeg) 0))) := hD
      refine lv_iinc (v := (x4 + 1)) (lv' := [(4, .int (x4 + 1)), (0, .ref q), (1, .int x1), (2, .int x2), (3, .int x3)]) hx hb dX4_makeRow_96 hl (k := 4) rfl rfl (by decide) rfl (fun ls hl => ?_)
      refine lv_goto (tgt := 64) hx hb dX4_makeRow_99 (by decide) ?_
      exact ih _ _ _ _ _ _ _ _ _ _ _ _ hP hD hS (lv_sub hl [1, 2, 3, 4, 0] rfl) hf (by omega) (by omega)
set_option maxHeartbeats 4000000 in
set_option maxRecDepth 100000 in
theorem L_md_makeRow_l22 (l : Launch) (G : va_G) (cI cL cZ cB : ClassId) (q : Nat) (w : va_W) (p : Program) (e : Env) (s : State) (m : MethodId) (args : Array Value) (below : List Frame) (meth : Method) (c : Code) (O0 : Ms × Int32) (mcT msT : Nat) (C : MC p s m args meth c cX4_makeRow 5 (some .int) RX4 vX4_makeRow) (hK : va_K G vwCl (mt cI cL cZ cB) s) : ∀ n : Nat, At_md_makeRow_l22 l G cI cL cZ cB q w p e s m args below meth c O0 mcT msT (md_makeRow_l22 n) := by
  obtain ⟨hx, hb, hr, hml, hown, hts, hlocks⟩ := id C
  have FX : CallFix p m c cX4_makeRow 5 s args vX4_makeRow RX4 := ⟨hx, hb, hml, hown, hts⟩
  have hA : ∀ q9 : Nat, s.heap.size ≤ q9 → va_A w s.heap.size q9 := fun q9 h => Or.inr h
  intro n
  induction n with
  | zero =>
    intro A z x1 x2 x3 d0 H locs ls cells slots hP hD hS hl hf hcc hss
    exact nomatch (show none = some _ from hf)
  | succ n ih =>
    intro A z x1 x2 x3 d0 H locs ls cells slots hP hD hS hl hf hcc hss
    rw [md_makeRow_l22] at hf
    refine lv_aload_n hx hb dX4_makeRow_22 rfl (lv_at hl 0 rfl) ?_
    refine va_get (D := G) (ci := 4) (v := .int (Ms.wrd z)) (C := RX4) (T := TX4) (N := 32) hx hb hts (fun w h => .tail _ (wl_X4 w h)) hown hK hP 0 rfl rfl 24 (by decide) (hts _ (.tail _ wm_32)) (fun _ h9 => h9) rfl dX4_makeRow_23 ?_
    refine lv_iload_n hx hb dX4_makeRow_26 rfl (lv_at hl 2 rfl) ?_
    refine lv_iadd hx hb dX4_makeRow_27 ?_
    refine lv_aload_n hx hb dX4_makeRow_28 rfl (lv_at hl 0 rfl) ?_
    refine va_get (D := G) (ci := 4) (v := .ref (A 15)) (C := RX4) (T := TX4) (N := 32) hx hb hts (fun w h => .tail _ (wl_X4 w h)) hown hK hP 0 rfl rfl 22 (by decide) (hts _ (.tail _ wm_26)) (fun _ h9 => h9) rfl dX4_makeRow_29 ?_
    refine va_alen hx hb hK hP 15 0 rfl rfl (v := (Int32.ofNat (Ms.nwt z))) rfl dX4_makeRow_32 ?_
    refine lv_icmp_le (tgt := 61) hx hb dX4_makeRow_33 (by decide) (fun c3 => ?_) (fun c3 => ?_)
    · have hf := (if_pos c3).symm.trans hf
      refine lv_iconst (v := 0) hx hb dX4_makeRow_61 (by decide) ?_
      refine lv_istore (lv' := [(4, .int 0), (0, .ref q), (1, .int x1), (2, .int x2), (3, .int x3)]) hx hb dX4_makeRow_62 hl (by decide) rfl (fun ls hl => ?_)
      exact L_md_makeRow_l64 _ _ _ _ _ _ _ _ _ _ _ _ _ _ _ _ _ _ _ C hK FU _ _ _ _ _ _ _ _ _ _ _ _ hP hD hS (lv_sub hl [1, 2, 3, 4, 0] rfl) hf (by omega) (by omega)
    · have hf := (if_neg c3).symm.trans hf
      refine lv_aload_n hx hb dX4_makeRow_36 rfl (lv_at hl 0 rfl) ?_
      refine lv_aload_n hx hb dX4_makeRow_37 rfl (lv_at hl 0 rfl) ?_
      refine va_get (D := G) (ci := 4) (v := .ref (A 15)) (C := RX4) (T := TX4) (N := 32) hx hb hts (fun w h => .tail _ (wl_X4 w h)) hown hK hP 0 rfl rfl 22 (by decide) (hts _ (.tail _ wm_26)) (fun _ h9 => h9) rfl dX4_makeRow_38 ?_
      obtain ⟨hg5, hf⟩ := of_gd hf
      obtain ⟨d6, hf, ek7⟩ := of_addc hf
      have bhg5 := (wdb_in hg5).1
      have hPc := hP.sub (ws' := [(A 15, .inl (cI, (Ms.nwt z), .inl (Ms.awt z)))]) [15] rfl
      have hDc := hD.sub (ws' := [(A 15, .inl (cI, (Ms.nwt z), .inl (Ms.awt z)))]) [15] (by decide) rfl
      refine gcA (q0 := 15) (gS FX [.ref (A 15)] (c_md_wider l G cI cL cZ cB (A 15) (Ms.nwt z) (Ms.awt z) _ (wdb_in hg5)) (cwS 1 hts (gi_S wm_69 wm_70 wm_6 wm_71) rfl rfl rfl hdS_X4_wider ⟨Nat.le_of_ble_eq_true rfl, Nat.le_of_ble_eq_true rfl⟩) hK hPc hDc rfl hl.1 (Nat.le_of_ble_eq_true rfl) dX4_makeRow_41 ⟨by show _ ≤ mcT; omega, by show _ ≤ msT; omega⟩) hP rfl hS hD hA (fun x4 H locs hP hD hS => ?_)
      refine va_put (D := G) (ci := 4) (v := .ref x4) (ty := .array .int) (C := RX4) (T := TX4) (N := 32) hx hb hts (fun w h => .tail _ (wl_X4 w h)) tyX4 tyX4_ok nmX4 hown hK hP hD hS 0 rfl rfl 22 (by decide) (hts _ (.tail _ wm_26)) (fun _ h9 => h9) rfl (by decide +kernel) rfl rfl (Nat.le_of_ble_eq_true rfl) dX4_makeRow_44 (fun H locs hP hD hS => ?_)
      have hP := hP.sub (ws' := (mw cI cL cZ cB q (va_up A 15 x4) (Ms.wwt (Ms.snwt z (2 * (Ms.nwt z))) (wdI (Ms.awt z) (Ms.nwt z))))) [0, 1, 2, 3, 4, 5, 6, 7, 8, 9, 10, 11, 12, 13, 14, 22, 16, 17, 18, 19, 20, 21] rfl
      have hD := hD.sub (ws' := (mw cI cL cZ cB q (va_up A 15 x4) (Ms.wwt (Ms.snwt z (2 * (Ms.nwt z))) (wdI (Ms.awt z) (Ms.nwt z))))) [0, 1, 2, 3, 4, 5, 6, 7, 8, 9, 10, 11, 12, 13, 14, 22, 16, 17, 18, 19, 20, 21] (by decide) rfl
      generalize va_up A 15 x4 = A at hP hD
      refine lv_aload_n hx hb dX4_makeRow_47 rfl (lv_at hl 0 rfl) ?_
      refine lv_aload_n hx hb dX4_makeRow_48 rfl (lv_at hl 0 rfl) ?_
      refine va_get (D := G) (ci := 4) (v := .ref (A 16)) (C := RX4) (T := TX4) (N := 32) hx hb hts (fun w h => .tail _ (wl_X4 w h)) hown hK hP 0 rfl rfl 23 (by decide) (hts _ (.tail _ wm_39)) (fun _ h9 => h9) rfl dX4_makeRow_49 ?_
      obtain ⟨hg9, hf⟩ := of_gd hf
      obtain ⟨d10, hf, ek11⟩ := of_addc hf
      have bhg9 := (wdb_in hg9).1
      have hPc := hP.sub (ws' := [(A 16, .inl (cL, (Ms.nwv z), .inr (.inl (Ms.awv z))))]) [16] rfl
      have hDc := hD.sub (ws' := [(A 16, .inl (cL, (Ms.nwv z), .inr (.inl (Ms.awv z))))]) [16] (by decide) rfl
      refine gcA (q0 := 16) (gS FX [.ref (A 16)] (c_md_widerLongs l G cI cL cZ cB (A 16) (Ms.nwv z) (Ms.awv z) _ (wdb_in hg9)) (cwS 1 hts (gi_S wm_86 wm_87 wm_6 wm_88) rfl rfl rfl hdS_X4_widerLongs ⟨Nat.le_of_ble_eq_true rfl, Nat.le_of_ble_eq_true rfl⟩) hK hPc hDc rfl hl.1 (Nat.le_of_ble_eq_true rfl) dX4_makeRow_52 ⟨by show _ ≤ mcT; omega, by show _ ≤ msT; omega⟩) hP rfl hS hD hA (fun x8 H locs hP hD hS => ?_)
      refine va_put (D := G) (ci := 4) (v := .ref x8) (ty := .array .long) (C := RX4) (T := TX4) (N := 32) hx hb hts (fun w h => .tail _ (wl_X4 w h)) tyX4 tyX4_ok nmX4 hown hK hP hD hS 0 rfl rfl 23 (by decide) (hts _ (.tail _ wm_39)) (fun _ h9 => h9) rfl (by decide +kernel) rfl rfl (Nat.le_of_ble_eq_true rfl) dX4_makeRow_55 (fun H locs hP hD hS => ?_)
      have hP := hP.sub (ws' := (mw cI cL cZ cB q (va_up A 16 x8) (Ms.wwv (Ms.snwv (Ms.wwt (Ms.snwt z (2 * (Ms.nwt z))) (wdI (Ms.awt z) (Ms.nwt z))) (2 * (Ms.nwv z))) (wdJ (Ms.awv z) (Ms.nwv z))))) [0, 1, 2, 3, 4, 5, 6, 7, 8, 9, 10, 11, 12, 13, 14, 15, 22, 17, 18, 19, 20, 21] rfl
      have hD := hD.sub (ws' := (mw cI cL cZ cB q (va_up A 16 x8) (Ms.wwv (Ms.snwv (Ms.wwt (Ms.snwt z (2 * (Ms.nwt z))) (wdI (Ms.awt z) (Ms.nwt z))) (2 * (Ms.nwv z))) (wdJ (Ms.awv z) (Ms.nwv z))))) [0, 1, 2, 3, 4, 5, 6, 7, 8, 9, 10, 11, 12, 13, 14, 15, 22, 17, 18, 19, 20, 21] (by decide) rfl
      generalize va_up A 16 x8 = A at hP hD
      refine lv_goto (tgt := 22) hx hb dX4_makeRow_58 (by decide) ?_
      exact ih _ _ _ _ _ _ _ _ _ _ _ hP hD hS (lv_sub hl [0, 1, 2, 3] rfl) hf (by omega) (by omega)
set_option maxHeartbeats 4000000 in
set_option maxRecDepth 100000 in
theorem c_md_makeRow (l : Launch) (G : va_G) (cI cL cZ cB : ClassId) (q : Nat) (A : Nat → Nat) (z : Ms) (sz : Nat) (p0 : Int32) (p1 : Int32) (c0 : Nat) (O0 : Ms × Int32) (hf : md_makeRow z p0 p1 = some (c0, O0)) : Met l yX4_makeRow vX4_makeRow { frames := 2, cells := 0 + c0 / 64, slots := 0 + c0, locals := 44 } (gPc G vwCl (mt cI cL cZ cB) [.ref q, .int p0, .int p1] (mw cI cL cZ cB q A z) sz) (qWi G vwCl (mt cI cL cZ cB) (mw cI cL cZ cB q A z) sz (mw cI cL cZ cB q) O0) (0 + c0 / 64) (0 + c0) (va_A (mw cI cL cZ cB q A z) sz) := by
  refine gMet (by decide) rfl (Nat.le_of_ble_eq_true rfl) ?_
  intro p e s m below meth c ls C hK hP hD hsz hl
  subst hsz
  obtain ⟨hx, hb, hr, hml, hown, hts, hlocks⟩ := id C
  have FX : CallFix p m c cX4_makeRow 5 s _ vX4_makeRow RX4 := ⟨hx, hb, hml, hown, hts⟩
  have hA : ∀ q9 : Nat, s.heap.size ≤ q9 → va_A (mw cI cL cZ cB q A z) s.heap.size q9 := fun q9 h => Or.inr h
  have hS : va_S (va_A (mw cI cL cZ cB q A z) s.heap.size) s.heap s.heap [] := va_S.rf
  have hl : lv_has ls 5 [(0, .ref q), (1, .int p0), (2, .int p1)] := hl
  unfold md_makeRow at hf
  refine lv_aload_n hx hb dX4_makeRow_0 rfl (lv_at hl 0 rfl) ?_
  refine lv_iconst (v := 0) hx hb dX4_makeRow_1 (by decide) ?_
  refine va_put (D := G) (ci := 4) (v := .int 0) (ty := .int) (C := RX4) (T := TX4) (N := 32) hx hb hts (fun w h => .tail _ (wl_X4 w h)) tyX4 tyX4_ok nmX4 hown hK hP hD hS 0 rfl rfl 0 (by decide) (hts _ (.tail _ wm_0)) (fun _ h9 => h9) rfl (by decide +kernel) rfl rfl (Nat.le_of_ble_eq_true rfl) dX4_makeRow_2 (fun H locs hP hD hS => ?_)
  have hP : va_P G vwCl (mw cI cL cZ cB q A (Ms.sthr z 0)) H := hP
  have hD : va_D _ (mw cI cL cZ cB q A (Ms.sthr z 0)) := hD
  refine lv_aload_n hx hb dX4_makeRow_5 rfl (lv_at hl 0 rfl) ?_
  refine lv_iconst (v := 2) hx hb dX4_makeRow_6 (by decide) ?_
  refine lv_iload_n hx hb dX4_makeRow_7 rfl (lv_at hl 2 rfl) ?_
  obtain ⟨k1, z1, r1, d1, ho1, hf, ek1⟩ := of_bcw hf
  refine gcWi (gV FX [.int 2, .int p1] (c_md_begin l G cI cL cZ cB q A (Ms.sthr z 0) _ 2 p1 k1 _ ho1) (cwV 2 hts (gi_V wm_72 wm_73 wm_74 wm_6 wm_75) rfl rfl rfl hdV_X4_begin ⟨Nat.le_of_ble_eq_true rfl, Nat.le_of_ble_eq_true rfl⟩) hK hP hD 0 rfl rfl rfl hl.1 (Nat.le_of_ble_eq_true rfl) dX4_makeRow_8 ⟨by show _ ≤ 0 + c0 / 64; omega, by show _ ≤ 0 + c0; omega⟩) hS hD hA (fun A H locs hP hD hS => ?_)
  refine lv_istore_n (lv' := [(3, .int r1), (0, .ref q), (1, .int p0), (2, .int p1)]) hx hb dX4_makeRow_11 rfl hl (by decide) rfl (fun ls hl => ?_)
  refine lv_aload_n hx hb dX4_makeRow_12 rfl (lv_at hl 1 rfl) ?_
  refine va_get (D := G) (ci := 4) (v := .ref (A 5)) (C := RX4) (T := TX4) (N := 32) hx hb hts (fun w h => .tail _ (wl_X4 w h)) hown hK hP 0 rfl rfl 12 (by decide) (hts _ (.tail _ wm_27)) (fun _ h9 => h9) rfl dX4_makeRow_13 ?_
  refine lv_iload_n hx hb dX4_makeRow_16 rfl (lv_at hl 0 rfl) ?_
  refine lv_aload_n hx hb dX4_makeRow_17 rfl (lv_at hl 1 rfl) ?_
  refine va_get (D := G) (ci := 4) (v := .int (Ms.wrd z1)) (C := RX4) (T := TX4) (N := 32) hx hb hts (fun w h => .tail _ (wl_X4 w h)) hown hK hP 0 rfl rfl 24 (by decide) (hts _ (.tail _ wm_32)) (fun _ h9 => h9) rfl dX4_makeRow_18 ?_
  obtain ⟨hg2, hf⟩ := of_gd hf
  refine va_iast (f := (Ms.asr z1)) (n := (Ms.nsr z1)) hx hb hK hP hD hS 5 0 rfl rfl (inb_in hg2) dX4_makeRow_21 (fun H locs hP hD hS => ?_)
  have hP : va_P G vwCl (mw cI cL cZ cB q A (Ms.wsr z1 (upd (Ms.asr z1) (r1.toNatClampNeg) (Ms.wrd z1)))) H := hP
  have hD : va_D _ (mw cI cL cZ cB q A (Ms.wsr z1 (upd (Ms.asr z1) (r1.toNatClampNeg) (Ms.wrd z1)))) := hD
  exact L_md_makeRow_l22 _ _ _ _ _ _ _ _ _ _ _ _ _ _ _ _ _ _ _ C hK FU _ _ _ _ _ _ _ _ _ _ _ hP hD hS (lv_sub hl [1, 2, 3, 0] rfl) hf (by omega) (by omega)
def At_md_make_j53 (l : Launch) (G : va_G) (cI cL cZ cB : ClassId) (q : Nat) (w : va_W) (p : Program) (e : Env) (s : State) (m : MethodId) (args : Array Value) (below : List Frame) (meth : Method) (c : Code) (O0 : Ms × Int32) (mcT msT : Nat) (F : Int32 → Int32 → Ms → Option (Nat × Ms × Int32)) : Prop := ∀ (A : Nat → Nat) (z : Ms) (x1 : Int32) (x2 : Int32) (d0 : Nat) (H : Heap) (locs : List Loc) (ls : Array Slot) (cells slots : Nat), va_P G vwCl (mw cI cL cZ cB q A z) H → va_D (va_A w s.heap.size) (mw cI cL cZ cB q A z) → va_S (va_A w s.heap.size) s.heap H locs → lv_has ls 3 [(0, .ref q), (1, .int x1), (2, .int x2)] → F x1 x2 z = some (d0, O0) → cells + (0 + d0 / 64) ≤ mcT → slots + (0 + d0) ≤ msT → W p l e { frames := 4, cells := mcT, slots := msT, locals := 93 } s m args below meth c H locs cells slots (MQ below (qWi G vwCl (mt cI cL cZ cB) w s.heap.size (mw cI cL cZ cB q) O0) args s mcT msT (va_A w s.heap.size)) (F0 m 53 ls [])
def At_md_make_j24 (l : Launch) (G : va_G) (cI cL cZ cB : ClassId) (q : Nat) (w : va_W) (p : Program) (e : Env) (s : State) (m : MethodId) (args : Array Value) (below : List Frame) (meth : Method) (c : Code) (O0 : Ms × Int32) (mcT msT : Nat) (F : Int32 → Int32 → Int32 → Ms → Option (Nat × Ms × Int32)) : Prop := ∀ (A : Nat → Nat) (z : Ms) (x1 : Int32) (x2 : Int32) (t0 : Int32) (d0 : Nat) (H : Heap) (locs : List Loc) (ls : Array Slot) (cells slots : Nat), va_P G vwCl (mw cI cL cZ cB q A z) H → va_D (va_A w s.heap.size) (mw cI cL cZ cB q A z) → va_S (va_A w s.heap.size) s.heap H locs → lv_has ls 3 [(0, .ref q), (1, .int x1), (2, .int x2)] → F x1 x2 t0 z = some (d0, O0) → cells + (0 + d0 / 64) ≤ mcT → slots + (0 + d0) ≤ msT → W p l e { frames := 4, cells := mcT, slots := msT, locals := 93 } s m args below meth c H locs cells slots (MQ below (qWi G vwCl (mt cI cL cZ cB) w s.heap.size (mw cI cL cZ cB q) O0) args s mcT msT (va_A w s.heap.size)) (F0 m 24 ls [.int t0, .ref q])
def At_md_make_j19 (l : Launch) (G : va_G) (cI cL cZ cB : ClassId) (q : Nat) (w : va_W) (p : Program) (e : Env) (s : State) (m : MethodId) (args : Array Value) (below : List Frame) (meth : Method) (c : Code) (O0 : Ms × Int32) (mcT msT : Nat) (F : Int32 → Int32 → Ms → Option (Nat × Ms × Int32)) : Prop := ∀ (A : Nat → Nat) (z : Ms) (x1 : Int32) (x2 : Int32) (d0 : Nat) (H : Heap) (locs : List Loc) (ls : Array Slot) (cells slots : Nat), va_P G vwCl (mw cI cL cZ cB q A z) H → va_D (va_A w s.heap.size) (mw cI cL cZ cB q A z) → va_S (va_A w s.heap.size) s.heap H locs → lv_has ls 3 [(0, .ref q), (1, .int x1), (2, .int x2)] → F x1 x2 z = some (d0, O0) → cells + (0 + d0 / 64) ≤ mcT → slots + (0 + d0) ≤ msT → W p l e { frames := 4, cells := mcT, slots := msT, locals := 93 } s m args below meth c H locs cells slots (MQ below (qWi G vwCl (mt cI cL cZ cB) w s.heap.size (mw cI cL cZ cB q) O0) args s mcT msT (va_A w s.heap.size)) (F0 m 19 ls [.ref q])
set_option maxHeartbeats 4000000 in
set_option maxRecDepth 100000 in
theorem L_md_make_j53 (l : Launch) (G : va_G) (cI cL cZ cB : ClassId) (q : Nat) (w : va_W) (p : Program) (e : Env) (s : State) (m : MethodId) (args : Array Value) (below : List Frame) (meth : Method) (c : Code) (O0 : Ms × Int32) (mcT msT : Nat) (C : MC p s m args meth c cX4_make 3 (some .int) RX4 vX4_make) (hK : va_K G vwCl (mt cI cL cZ cB) s) : At_md_make_j53 l G cI cL cZ cB q w p e s m args below meth c O0 mcT msT md_make_j53 := by
  obtain ⟨hx, hb, hr, hml, hown, hts, hlocks⟩ := id C
  have FX : CallFix p m c cX4_make 3 s args vX4_make RX4 := ⟨hx, hb, hml, hown, hts⟩
  have hA : ∀ q9 : Nat, s.heap.size ≤ q9 → va_A w s.heap.size q9 := fun q9 h => Or.inr h
  intro A z x1 x2 d0 H locs ls cells slots hP hD hS hl hf hcc hss
  unfold md_make_j53 at hf
  refine lv_aload_n hx hb dX4_make_53 rfl (lv_at hl 0 rfl) ?_
  refine va_get (D := G) (ci := 4) (v := .int (Ms.thr z)) (C := RX4) (T := TX4) (N := 32) hx hb hts (fun w h => .tail _ (wl_X4 w h)) hown hK hP 0 rfl rfl 0 (by decide) (hts _ (.tail _ wm_0)) (fun _ h9 => h9) rfl dX4_make_54 ?_
  refine lv_if_ne (tgt := 67) hx hb dX4_make_57 (by decide) (fun c8 => ?_) (fun c8 => ?_)
  · have hf := (if_neg c8).symm.trans hf
    refine lv_iconst (v := 0) hx hb dX4_make_67 (by decide) ?_
    obtain ⟨hc0, hj0⟩ := of_some2 hf
    subst hj0
    exact grWi hx hb hr hlocks hP hK hD hS dX4_make_68 (by omega) (by omega)
  · have hf := (if_pos c8).symm.trans hf
    refine lv_aload_n hx hb dX4_make_60 rfl (lv_at hl 0 rfl) ?_
    refine lv_iload_n hx hb dX4_make_61 rfl (lv_at hl 1 rfl) ?_
    refine lv_iload_n hx hb dX4_make_62 rfl (lv_at hl 2 rfl) ?_
    obtain ⟨k9, z9, r9, d9, ho9, hf, ek9⟩ := of_bcw hf
    refine gcWi (gV FX [.int x1, .int x2] (c_md_makeRow l G cI cL cZ cB q A z _ x1 x2 k9 _ ho9) (cwV 2 hts (gi_V wm_96 wm_97 wm_98 wm_6 wm_99) rfl rfl rfl hdV_X4_makeRow ⟨Nat.le_of_ble_eq_true rfl, Nat.le_of_ble_eq_true rfl⟩) hK hP hD 0 rfl rfl rfl hl.1 (Nat.le_of_ble_eq_true rfl) dX4_make_63 ⟨by show _ ≤ mcT; omega, by show _ ≤ msT; omega⟩) hS hD hA (fun A H locs hP hD hS => ?_)
    obtain ⟨hc0, hj0⟩ := of_some2 hf
    subst hj0
    exact grWi hx hb hr hlocks hP hK hD hS dX4_make_66 (by omega) (by omega)
set_option maxHeartbeats 4000000 in
set_option maxRecDepth 100000 in
theorem L_md_make_j24 (l : Launch) (G : va_G) (cI cL cZ cB : ClassId) (q : Nat) (w : va_W) (p : Program) (e : Env) (s : State) (m : MethodId) (args : Array Value) (below : List Frame) (meth : Method) (c : Code) (O0 : Ms × Int32) (mcT msT : Nat) (C : MC p s m args meth c cX4_make 3 (some .int) RX4 vX4_make) (hK : va_K G vwCl (mt cI cL cZ cB) s) : At_md_make_j24 l G cI cL cZ cB q w p e s m args below meth c O0 mcT msT md_make_j24 := by
  obtain ⟨hx, hb, hr, hml, hown, hts, hlocks⟩ := id C
  have FX : CallFix p m c cX4_make 3 s args vX4_make RX4 := ⟨hx, hb, hml, hown, hts⟩
  have hA : ∀ q9 : Nat, s.heap.size ≤ q9 → va_A w s.heap.size q9 := fun q9 h => Or.inr h
  intro A z x1 x2 t0 d0 H locs ls cells slots hP hD hS hl hf hcc hss
  unfold md_make_j24 at hf
  refine va_put (D := G) (ci := 4) (v := .int t0) (ty := .int) (C := RX4) (T := TX4) (N := 32) hx hb hts (fun w h => .tail _ (wl_X4 w h)) tyX4 tyX4_ok nmX4 hown hK hP hD hS 0 rfl rfl 0 (by decide) (hts _ (.tail _ wm_0)) (fun _ h9 => h9) rfl (by decide +kernel) rfl rfl (Nat.le_of_ble_eq_true rfl) dX4_make_24 (fun H locs hP hD hS => ?_)
  have hP : va_P G vwCl (mw cI cL cZ cB q A (Ms.sthr z t0)) H := hP
  have hD : va_D _ (mw cI cL cZ cB q A (Ms.sthr z t0)) := hD
  refine lv_aload_n hx hb dX4_make_27 rfl (lv_at hl 0 rfl) ?_
  refine va_get (D := G) (ci := 4) (v := .int t0) (C := RX4) (T := TX4) (N := 32) hx hb hts (fun w h => .tail _ (wl_X4 w h)) hown hK hP 0 rfl rfl 0 (by decide) (hts _ (.tail _ wm_0)) (fun _ h9 => h9) rfl dX4_make_28 ?_
  refine lv_if_ne (tgt := 53) hx hb dX4_make_31 (by decide) (fun c5 => ?_) (fun c5 => ?_)
  · have hf := (if_neg c5).symm.trans hf
    exact L_md_make_j53 _ _ _ _ _ _ _ _ _ _ _ _ _ _ _ _ _ _ _ C hK _ _ _ _ _ _ _ _ _ _ hP hD hS (lv_sub hl [0, 1, 2] rfl) hf (by omega) (by omega)
  · have hf := (if_pos c5).symm.trans hf
    refine lv_aload_n hx hb dX4_make_34 rfl (lv_at hl 0 rfl) ?_
    refine lv_iload_n hx hb dX4_make_35 rfl (lv_at hl 2 rfl) ?_
    refine lv_i2l hx hb dX4_make_36 rfl ?_
    refine lv_lconst (v := 1) hx hb dX4_make_37 (by decide) ?_
    refine lv_ladd hx hb dX4_make_38 ?_
    obtain ⟨z6, r6, ho6, hf⟩ := of_bw hf
    refine gcWi (gV FX [.long ((x2.toInt64) + 1)] (c_md_hasRoom l G cI cL cZ cB q A (Ms.sthr z t0) _ ((x2.toInt64) + 1) _ ho6) (cwV 1 hts (gi_V wm_92 wm_93 wm_94 wm_6 wm_95) rfl rfl rfl hdV_X4_hasRoom ⟨Nat.le_of_ble_eq_true rfl, Nat.le_of_ble_eq_true rfl⟩) hK hP hD 0 rfl rfl rfl hl.1 (Nat.le_of_ble_eq_true rfl) dX4_make_39 ⟨by show _ ≤ mcT; omega, by show _ ≤ msT; omega⟩) hS hD hA (fun A H locs hP hD hS => ?_)
    refine lv_if_ne (tgt := 53) hx hb dX4_make_42 (by decide) (fun c7 => ?_) (fun c7 => ?_)
    · have hf := (if_neg c7).symm.trans hf
      exact L_md_make_j53 _ _ _ _ _ _ _ _ _ _ _ _ _ _ _ _ _ _ _ C hK _ _ _ _ _ _ _ _ _ _ hP hD hS (lv_sub hl [0, 1, 2] rfl) hf (by omega) (by omega)
    · have hf := (if_pos c7).symm.trans hf
      refine lv_aload_n hx hb dX4_make_45 rfl (lv_at hl 0 rfl) ?_
      refine lv_iconst (v := 2) hx hb dX4_make_46 (by decide) ?_
      refine va_put (D := G) (ci := 4) (v := .int 2) (ty := .int) (C := RX4) (T := TX4) (N := 32) hx hb hts (fun w h => .tail _ (wl_X4 w h)) tyX4 tyX4_ok nmX4 hown hK hP hD hS 0 rfl rfl 0 (by decide) (hts _ (.tail _ wm_0)) (fun _ h9 => h9) rfl (by decide +kernel) rfl rfl (Nat.le_of_ble_eq_true rfl) dX4_make_47 (fun H locs hP hD hS => ?_)
      have hP : va_P G vwCl (mw cI cL cZ cB q A (Ms.sthr z6 2)) H := hP
      have hD : va_D _ (mw cI cL cZ cB q A (Ms.sthr z6 2)) := hD
      refine lv_goto (tgt := 67) hx hb dX4_make_50 (by decide) ?_
      refine lv_iconst (v := 0) hx hb dX4_make_67 (by decide) ?_
      obtain ⟨hc0, hj0⟩ := of_some2 hf
      subst hj0
      exact grWi hx hb hr hlocks hP hK hD hS dX4_make_68 (by omega) (by omega)
set_option maxHeartbeats 4000000 in
set_option maxRecDepth 100000 in
theorem L_md_make_j19 (l : Launch) (G : va_G) (cI cL cZ cB : ClassId) (q : Nat) (w : va_W) (p : Program) (e : Env) (s : State) (m : MethodId) (args : Array Value) (below : List Frame) (meth : Method) (c : Code) (O0 : Ms × Int32) (mcT msT : Nat) (C : MC p s m args meth c cX4_make 3 (some .int) RX4 vX4_make) (hK : va_K G vwCl (mt cI cL cZ cB) s) : At_md_make_j19 l G cI cL cZ cB q w p e s m args below meth c O0 mcT msT md_make_j19 := by
  obtain ⟨hx, hb, hr, hml, hown, hts, hlocks⟩ := id C
  have FX : CallFix p m c cX4_make 3 s args vX4_make RX4 := ⟨hx, hb, hml, hown, hts⟩
  have hA : ∀ q9 : Nat, s.heap.size ≤ q9 → va_A w s.heap.size q9 := fun q9 h => Or.inr h
  intro A z x1 x2 d0 H locs ls cells slots hP hD hS hl hf hcc hss
  unfold md_make_j19 at hf
  refine lv_iconst (v := 1) hx hb dX4_make_19 (by decide) ?_
  refine lv_goto (tgt := 24) hx hb dX4_make_20 (by decide) ?_
  exact L_md_make_j24 _ _ _ _ _ _ _ _ _ _ _ _ _ _ _ _ _ _ _ C hK _ _ _ _ _ _ _ _ _ _ _ hP hD hS (lv_sub hl [0, 1, 2] rfl) hf (by omega) (by omega)
set_option maxHeartbeats 4000000 in
set_option maxRecDepth 100000 in
theorem c_md_make (l : Launch) (G : va_G) (cI cL cZ cB : ClassId) (q : Nat) (A : Nat → Nat) (z : Ms) (sz : Nat) (p0 : Int32) (p1 : Int32) (c0 : Nat) (O0 : Ms × Int32) (hf : md_make z p0 p1 = some (c0, O0)) : Met l yX4_make vX4_make { frames := 4, cells := 0 + c0 / 64, slots := 0 + c0, locals := 93 } (gPc G vwCl (mt cI cL cZ cB) [.ref q, .int p0, .int p1] (mw cI cL cZ cB q A z) sz) (qWi G vwCl (mt cI cL cZ cB) (mw cI cL cZ cB q A z) sz (mw cI cL cZ cB q) O0) (0 + c0 / 64) (0 + c0) (va_A (mw cI cL cZ cB q A z) sz) := by
  refine gMet (by decide) rfl (Nat.le_of_ble_eq_true rfl) ?_
  intro p e s m below meth c ls C hK hP hD hsz hl
  subst hsz
  obtain ⟨hx, hb, hr, hml, hown, hts, hlocks⟩ := id C
  have FX : CallFix p m c cX4_make 3 s _ vX4_make RX4 := ⟨hx, hb, hml, hown, hts⟩
  have hA : ∀ q9 : Nat, s.heap.size ≤ q9 → va_A (mw cI cL cZ cB q A z) s.heap.size q9 := fun q9 h => Or.inr h
  have hS : va_S (va_A (mw cI cL cZ cB q A z) s.heap.size) s.heap s.heap [] := va_S.rf
  have hl : lv_has ls 3 [(0, .ref q), (1, .int p0), (2, .int p1)] := hl
  unfold md_make at hf
  refine lv_aload_n hx hb dX4_make_0 rfl (lv_at hl 0 rfl) ?_
  refine lv_iload_n hx hb dX4_make_1 rfl (lv_at hl 1 rfl) ?_
  obtain ⟨r1, ho1, hf⟩ := of_b0 hf
  refine gcRi (gS FX [.int p0] (c_md_isRegister l G cI cL cZ cB q A z _ p0 _ ho1) (cwS 1 hts (gi_S wm_79 wm_80 wm_6 wm_81) rfl rfl rfl hdS_X4_isRegister ⟨Nat.le_of_ble_eq_true rfl, Nat.le_of_ble_eq_true rfl⟩) hK hP hD rfl hl.1 (Nat.le_of_ble_eq_true rfl) dX4_make_2 ⟨by show _ ≤ 0 + c0 / 64; omega, by show _ ≤ 0 + c0; omega⟩) hS hD hA (fun H locs hP hS => ?_)
  refine lv_if_eq (tgt := 19) hx hb dX4_make_5 (by decide) (fun c2 => ?_) (fun c2 => ?_)
  · have hf := (if_pos c2).symm.trans hf
    exact L_md_make_j19 _ _ _ _ _ _ _ _ _ _ _ _ _ _ _ _ _ _ _ C hK _ _ _ _ _ _ _ _ _ _ hP hD hS (lv_sub hl [0, 1, 2] rfl) hf (by omega) (by omega)
  · have hf := (if_neg c2).symm.trans hf
    refine lv_iload_n hx hb dX4_make_8 rfl (lv_at hl 2 rfl) ?_
    refine lv_iconst (v := 0) hx hb dX4_make_9 (by decide) ?_
    refine lv_sipush (v := 4096) hx hb dX4_make_10 (by decide) ?_
    obtain ⟨r3, ho3, hf⟩ := of_b0 hf
    refine gcRi (gS FX [.int p1, .int 0, .int 4096] (c_md_outside l G cI cL cZ cB q A z _ p1 0 4096 _ ho3) (cwS 3 hts (gi_S wm_89 wm_90 wm_6 wm_91) rfl rfl rfl hdS_X4_outside ⟨Nat.le_of_ble_eq_true rfl, Nat.le_of_ble_eq_true rfl⟩) hK hP hD rfl hl.1 (Nat.le_of_ble_eq_true rfl) dX4_make_13 ⟨by show _ ≤ 0 + c0 / 64; omega, by show _ ≤ 0 + c0; omega⟩) hS hD hA (fun H locs hP hS => ?_)
    refine lv_if_eq (tgt := 23) hx hb dX4_make_16 (by decide) (fun c4 => ?_) (fun c4 => ?_)
    · have hf := (if_pos c4).symm.trans hf
      refine lv_iconst (v := 0) hx hb dX4_make_23 (by decide) ?_
      exact L_md_make_j24 _ _ _ _ _ _ _ _ _ _ _ _ _ _ _ _ _ _ _ C hK _ _ _ _ _ _ _ _ _ _ _ hP hD hS (lv_sub hl [0, 1, 2] rfl) hf (by omega) (by omega)
    · have hf := (if_neg c4).symm.trans hf
      exact L_md_make_j19 _ _ _ _ _ _ _ _ _ _ _ _ _ _ _ _ _ _ _ C hK _ _ _ _ _ _ _ _ _ _ hP hD hS (lv_sub hl [0, 1, 2] rfl) hf (by omega) (by omega)
def At_md_text_j60 (l : Launch) (G : va_G) (cI cL cZ cB : ClassId) (q : Nat) (w : va_W) (p : Program) (e : Env) (s : State) (m : MethodId) (args : Array Value) (below : List Frame) (meth : Method) (c : Code) (O0 : Ms × Int32) (mcT msT : Nat) (F : Int32 → Int32 → Int32 → Int32 → Ms → Option (Nat × Ms × Int32)) : Prop := ∀ (A : Nat → Nat) (z : Ms) (x1 : Int32) (x2 : Int32) (x3 : Int32) (t0 : Int32) (d0 : Nat) (H : Heap) (locs : List Loc) (ls : Array Slot) (cells slots : Nat), va_P G vwCl (mw cI cL cZ cB q A z) H → va_D (va_A w s.heap.size) (mw cI cL cZ cB q A z) → va_S (va_A w s.heap.size) s.heap H locs → lv_has ls 5 [(0, .ref q), (1, .int x1), (2, .int x2), (3, .int x3)] → F x1 x2 x3 t0 z = some (d0, O0) → cells + (0 + d0 / 64) ≤ mcT → slots + (0 + d0) ≤ msT → W p l e { frames := 4, cells := mcT, slots := msT, locals := 93 } s m args below meth c H locs cells slots (MQ below (qWi G vwCl (mt cI cL cZ cB) w s.heap.size (mw cI cL cZ cB q) O0) args s mcT msT (va_A w s.heap.size)) (F0 m 60 ls [.int t0, .ref q])
def At_md_text_j23 (l : Launch) (G : va_G) (cI cL cZ cB : ClassId) (q : Nat) (w : va_W) (p : Program) (e : Env) (s : State) (m : MethodId) (args : Array Value) (below : List Frame) (meth : Method) (c : Code) (O0 : Ms × Int32) (mcT msT : Nat) (F : Int32 → Int32 → Int32 → Ms → Option (Nat × Ms × Int32)) : Prop := ∀ (A : Nat → Nat) (z : Ms) (x1 : Int32) (x2 : Int32) (t0 : Int32) (d0 : Nat) (H : Heap) (locs : List Loc) (ls : Array Slot) (cells slots : Nat), va_P G vwCl (mw cI cL cZ cB q A z) H → va_D (va_A w s.heap.size) (mw cI cL cZ cB q A z) → va_S (va_A w s.heap.size) s.heap H locs → lv_has ls 5 [(0, .ref q), (1, .int x1), (2, .int x2)] → F x1 x2 t0 z = some (d0, O0) → cells + (0 + d0 / 64) ≤ mcT → slots + (0 + d0) ≤ msT → W p l e { frames := 4, cells := mcT, slots := msT, locals := 93 } s m args below meth c H locs cells slots (MQ below (qWi G vwCl (mt cI cL cZ cB) w s.heap.size (mw cI cL cZ cB q) O0) args s mcT msT (va_A w s.heap.size)) (F0 m 23 ls [.int t0, .ref q])
def At_md_text_j18 (l : Launch) (G : va_G) (cI cL cZ cB : ClassId) (q : Nat) (w : va_W) (p : Program) (e : Env) (s : State) (m : MethodId) (args : Array Value) (below : List Frame) (meth : Method) (c : Code) (O0 : Ms × Int32) (mcT msT : Nat) (F : Int32 → Int32 → Ms → Option (Nat × Ms × Int32)) : Prop := ∀ (A : Nat → Nat) (z : Ms) (x1 : Int32) (x2 : Int32) (d0 : Nat) (H : Heap) (locs : List Loc) (ls : Array Slot) (cells slots : Nat), va_P G vwCl (mw cI cL cZ cB q A z) H → va_D (va_A w s.heap.size) (mw cI cL cZ cB q A z) → va_S (va_A w s.heap.size) s.heap H locs → lv_has ls 5 [(0, .ref q), (1, .int x1), (2, .int x2)] → F x1 x2 z = some (d0, O0) → cells + (0 + d0 / 64) ≤ mcT → slots + (0 + d0) ≤ msT → W p l e { frames := 4, cells := mcT, slots := msT, locals := 93 } s m args below meth c H locs cells slots (MQ below (qWi G vwCl (mt cI cL cZ cB) w s.heap.size (mw cI cL cZ cB q) O0) args s mcT msT (va_A w s.heap.size)) (F0 m 18 ls [.ref q])
set_option maxHeartbeats 4000000 in
set_option maxRecDepth 100000 in
theorem L_md_text_j60 (l : Launch) (G : va_G) (cI cL cZ cB : ClassId) (q : Nat) (w : va_W) (p : Program) (e : Env) (s : State) (m : MethodId) (args : Array Value) (below : List Frame) (meth : Method) (c : Code) (O0 : Ms × Int32) (mcT msT : Nat) (C : MC p s m args meth c cX4_text 5 (some .int) RX4 vX4_text) (hK : va_K G vwCl (mt cI cL cZ cB) s) : At_md_text_j60 l G cI cL cZ cB q w p e s m args below meth c O0 mcT msT md_text_j60 := by
  obtain ⟨hx, hb, hr, hml, hown, hts, hlocks⟩ := id C
  have FX : CallFix p m c cX4_text 5 s args vX4_text RX4 := ⟨hx, hb, hml, hown, hts⟩
  have hA : ∀ q9 : Nat, s.heap.size ≤ q9 → va_A w s.heap.size q9 := fun q9 h => Or.inr h
  intro A z x1 x2 x3 t0 d0 H locs ls cells slots hP hD hS hl hf hcc hss
  unfold md_text_j60 at hf
  refine va_put (D := G) (ci := 4) (v := .int t0) (ty := .int) (C := RX4) (T := TX4) (N := 32) hx hb hts (fun w h => .tail _ (wl_X4 w h)) tyX4 tyX4_ok nmX4 hown hK hP hD hS 0 rfl rfl 0 (by decide) (hts _ (.tail _ wm_0)) (fun _ h9 => h9) rfl (by decide +kernel) rfl rfl (Nat.le_of_ble_eq_true rfl) dX4_text_60 (fun H locs hP hD hS => ?_)
  have hP : va_P G vwCl (mw cI cL cZ cB q A (Ms.sthr z t0)) H := hP
  have hD : va_D _ (mw cI cL cZ cB q A (Ms.sthr z t0)) := hD
  refine lv_iload_n hx hb dX4_text_63 rfl (lv_at hl 3 rfl) ?_
  refine lv_if_ne (tgt := 69) hx hb dX4_text_64 (by decide) (fun c9 => ?_) (fun c9 => ?_)
  · have hf := (if_neg c9).symm.trans hf
    refine lv_aload_n hx hb dX4_text_69 rfl (lv_at hl 0 rfl) ?_
    refine lv_iload_n hx hb dX4_text_70 rfl (lv_at hl 2 rfl) ?_
    obtain ⟨k10, z10, r10, d10, ho10, hf, ek10⟩ := of_bcw hf
    refine gcWi (gV FX [.int x2] (c_md_beginText l G cI cL cZ cB q A (Ms.sthr z t0) _ x2 k10 _ ho10) (cwV 1 hts (gi_V wm_101 wm_102 wm_103 wm_6 wm_104) rfl rfl rfl hdV_X4_beginText ⟨Nat.le_of_ble_eq_true rfl, Nat.le_of_ble_eq_true rfl⟩) hK hP hD 0 rfl rfl rfl hl.1 (Nat.le_of_ble_eq_true rfl) dX4_text_71 ⟨by show _ ≤ mcT; omega, by show _ ≤ msT; omega⟩) hS hD hA (fun A H locs hP hD hS => ?_)
    refine lv_istore (lv' := [(4, .int r10), (0, .ref q), (1, .int x1), (2, .int x2), (3, .int x3)]) hx hb dX4_text_74 hl (by decide) rfl (fun ls hl => ?_)
    refine lv_aload_n hx hb dX4_text_76 rfl (lv_at hl 1 rfl) ?_
    refine lv_iload_n hx hb dX4_text_77 rfl (lv_at hl 2 rfl) ?_
    refine lv_iload hx hb dX4_text_78 (lv_at hl 0 rfl) ?_
    refine lv_lconst (v := 0) hx hb dX4_text_80 (by decide) ?_
    obtain ⟨z11, o9, ho11, hf⟩ := of_bw hf
    refine gcWv (gV FX [.int x1, .int r10, .long 0] (c_md_set l G cI cL cZ cB q A z10 _ x1 r10 0 _ ho11) (cwV 3 hts (gi_V wm_82 wm_83 wm_84 wm_6 wm_85) rfl rfl rfl hdV_X4_set ⟨Nat.le_of_ble_eq_true rfl, Nat.le_of_ble_eq_true rfl⟩) hK hP hD 0 rfl rfl rfl hl.1 (Nat.le_of_ble_eq_true rfl) dX4_text_81 ⟨by show _ ≤ mcT; omega, by show _ ≤ msT; omega⟩) hS hD hA (fun A H locs hP hD hS => ?_)
    refine lv_iload hx hb dX4_text_84 (lv_at hl 0 rfl) ?_
    obtain ⟨hc0, hj0⟩ := of_some2 hf
    subst hj0
    exact grWi hx hb hr hlocks hP hK hD hS dX4_text_86 (by omega) (by omega)
  · have hf := (if_pos c9).symm.trans hf
    refine lv_iconst (v := 0) hx hb dX4_text_67 (by decide) ?_
    obtain ⟨hc0, hj0⟩ := of_some2 hf
    subst hj0
    exact grWi hx hb hr hlocks hP hK hD hS dX4_text_68 (by omega) (by omega)
set_option maxHeartbeats 4000000 in
set_option maxRecDepth 100000 in
theorem L_md_text_j23 (l : Launch) (G : va_G) (cI cL cZ cB : ClassId) (q : Nat) (w : va_W) (p : Program) (e : Env) (s : State) (m : MethodId) (args : Array Value) (below : List Frame) (meth : Method) (c : Code) (O0 : Ms × Int32) (mcT msT : Nat) (C : MC p s m args meth c cX4_text 5 (some .int) RX4 vX4_text) (hK : va_K G vwCl (mt cI cL cZ cB) s) : At_md_text_j23 l G cI cL cZ cB q w p e s m args below meth c O0 mcT msT md_text_j23 := by
  obtain ⟨hx, hb, hr, hml, hown, hts, hlocks⟩ := id C
  have FX : CallFix p m c cX4_text 5 s args vX4_text RX4 := ⟨hx, hb, hml, hown, hts⟩
  have hA : ∀ q9 : Nat, s.heap.size ≤ q9 → va_A w s.heap.size q9 := fun q9 h => Or.inr h
  intro A z x1 x2 t0 d0 H locs ls cells slots hP hD hS hl hf hcc hss
  unfold md_text_j23 at hf
  refine va_put (D := G) (ci := 4) (v := .int t0) (ty := .int) (C := RX4) (T := TX4) (N := 32) hx hb hts (fun w h => .tail _ (wl_X4 w h)) tyX4 tyX4_ok nmX4 hown hK hP hD hS 0 rfl rfl 0 (by decide) (hts _ (.tail _ wm_0)) (fun _ h9 => h9) rfl (by decide +kernel) rfl rfl (Nat.le_of_ble_eq_true rfl) dX4_text_23 (fun H locs hP hD hS => ?_)
  have hP : va_P G vwCl (mw cI cL cZ cB q A (Ms.sthr z t0)) H := hP
  have hD : va_D _ (mw cI cL cZ cB q A (Ms.sthr z t0)) := hD
  refine lv_aload_n hx hb dX4_text_26 rfl (lv_at hl 0 rfl) ?_
  refine va_get (D := G) (ci := 4) (v := .int t0) (C := RX4) (T := TX4) (N := 32) hx hb hts (fun w h => .tail _ (wl_X4 w h)) hown hK hP 0 rfl rfl 0 (by decide) (hts _ (.tail _ wm_0)) (fun _ h9 => h9) rfl dX4_text_27 ?_
  refine lv_if_le (tgt := 35) hx hb dX4_text_30 (by decide) (fun c5 => ?_) (fun c5 => ?_)
  · have hf := (if_pos c5).symm.trans hf
    refine lv_aload_n hx hb dX4_text_35 rfl (lv_at hl 0 rfl) ?_
    refine lv_iload_n hx hb dX4_text_36 rfl (lv_at hl 2 rfl) ?_
    refine lv_bipush (v := 7) hx hb dX4_text_37 (by decide) ?_
    refine lv_iadd hx hb dX4_text_39 ?_
    refine lv_bipush (v := 8) hx hb dX4_text_40 (by decide) ?_
    obtain ⟨hg6, hf⟩ := of_gd hf
    refine lv_idiv hx hb dX4_text_42 (nzb_ne hg6) ?_
    refine lv_i2l hx hb dX4_text_43 rfl ?_
    refine lv_lconst (v := 1) hx hb dX4_text_44 (by decide) ?_
    refine lv_ladd hx hb dX4_text_45 ?_
    obtain ⟨z7, r7, ho7, hf⟩ := of_bw hf
    refine gcWi (gV FX [.long ((((x2 + 7) / 8).toInt64) + 1)] (c_md_hasRoom l G cI cL cZ cB q A (Ms.sthr z t0) _ ((((x2 + 7) / 8).toInt64) + 1) _ ho7) (cwV 1 hts (gi_V wm_92 wm_93 wm_94 wm_6 wm_95) rfl rfl rfl hdV_X4_hasRoom ⟨Nat.le_of_ble_eq_true rfl, Nat.le_of_ble_eq_true rfl⟩) hK hP hD 0 rfl rfl rfl hl.1 (Nat.le_of_ble_eq_true rfl) dX4_text_46 ⟨by show _ ≤ mcT; omega, by show _ ≤ msT; omega⟩) hS hD hA (fun A H locs hP hD hS => ?_)
    refine lv_istore_n (lv' := [(3, .int r7), (0, .ref q), (1, .int x1), (2, .int x2)]) hx hb dX4_text_49 rfl hl (by decide) rfl (fun ls hl => ?_)
    refine lv_aload_n hx hb dX4_text_50 rfl (lv_at hl 1 rfl) ?_
    refine lv_iload_n hx hb dX4_text_51 rfl (lv_at hl 0 rfl) ?_
    refine lv_if_eq (tgt := 59) hx hb dX4_text_52 (by decide) (fun c8 => ?_) (fun c8 => ?_)
    · have hf := (if_pos c8).symm.trans hf
      refine lv_iconst (v := 2) hx hb dX4_text_59 (by decide) ?_
      exact L_md_text_j60 _ _ _ _ _ _ _ _ _ _ _ _ _ _ _ _ _ _ _ C hK _ _ _ _ _ _ _ _ _ _ _ _ hP hD hS (lv_sub hl [1, 2, 3, 0] rfl) hf (by omega) (by omega)
    · have hf := (if_neg c8).symm.trans hf
      refine lv_iconst (v := 0) hx hb dX4_text_55 (by decide) ?_
      refine lv_goto (tgt := 60) hx hb dX4_text_56 (by decide) ?_
      exact L_md_text_j60 _ _ _ _ _ _ _ _ _ _ _ _ _ _ _ _ _ _ _ C hK _ _ _ _ _ _ _ _ _ _ _ _ hP hD hS (lv_sub hl [1, 2, 3, 0] rfl) hf (by omega) (by omega)
  · have hf := (if_neg c5).symm.trans hf
    refine lv_iconst (v := 0) hx hb dX4_text_33 (by decide) ?_
    obtain ⟨hc0, hj0⟩ := of_some2 hf
    subst hj0
    exact grWi hx hb hr hlocks hP hK hD hS dX4_text_34 (by omega) (by omega)
set_option maxHeartbeats 4000000 in
set_option maxRecDepth 100000 in
theorem L_md_text_j18 (l : Launch) (G : va_G) (cI cL cZ cB : ClassId) (q : Nat) (w : va_W) (p : Program) (e : Env) (s : State) (m : MethodId) (args : Array Value) (below : List Frame) (meth : Method) (c : Code) (O0 : Ms × Int32) (mcT msT : Nat) (C : MC p s m args meth c cX4_text 5 (some .int) RX4 vX4_text) (hK : va_K G vwCl (mt cI cL cZ cB) s) : At_md_text_j18 l G cI cL cZ cB q w p e s m args below meth c O0 mcT msT md_text_j18 := by
  obtain ⟨hx, hb, hr, hml, hown, hts, hlocks⟩ := id C
  have FX : CallFix p m c cX4_text 5 s args vX4_text RX4 := ⟨hx, hb, hml, hown, hts⟩
  have hA : ∀ q9 : Nat, s.heap.size ≤ q9 → va_A w s.heap.size q9 := fun q9 h => Or.inr h
  intro A z x1 x2 d0 H locs ls cells slots hP hD hS hl hf hcc hss
  unfold md_text_j18 at hf
  refine lv_iconst (v := 1) hx hb dX4_text_18 (by decide) ?_
  refine lv_goto (tgt := 23) hx hb dX4_text_19 (by decide) ?_
  exact L_md_text_j23 _ _ _ _ _ _ _ _ _ _ _ _ _ _ _ _ _ _ _ C hK _ _ _ _ _ _ _ _ _ _ _ hP hD hS (lv_sub hl [0, 1, 2] rfl) hf (by omega) (by omega)
set_option maxHeartbeats 4000000 in
set_option maxRecDepth 100000 in
theorem c_md_text (l : Launch) (G : va_G) (cI cL cZ cB : ClassId) (q : Nat) (A : Nat → Nat) (z : Ms) (sz : Nat) (p0 : Int32) (p1 : Int32) (c0 : Nat) (O0 : Ms × Int32) (hf : md_text z p0 p1 = some (c0, O0)) : Met l yX4_text vX4_text { frames := 4, cells := 0 + c0 / 64, slots := 0 + c0, locals := 93 } (gPc G vwCl (mt cI cL cZ cB) [.ref q, .int p0, .int p1] (mw cI cL cZ cB q A z) sz) (qWi G vwCl (mt cI cL cZ cB) (mw cI cL cZ cB q A z) sz (mw cI cL cZ cB q) O0) (0 + c0 / 64) (0 + c0) (va_A (mw cI cL cZ cB q A z) sz) := by
  refine gMet (by decide) rfl (Nat.le_of_ble_eq_true rfl) ?_
  intro p e s m below meth c ls C hK hP hD hsz hl
  subst hsz
  obtain ⟨hx, hb, hr, hml, hown, hts, hlocks⟩ := id C
  have FX : CallFix p m c cX4_text 5 s _ vX4_text RX4 := ⟨hx, hb, hml, hown, hts⟩
  have hA : ∀ q9 : Nat, s.heap.size ≤ q9 → va_A (mw cI cL cZ cB q A z) s.heap.size q9 := fun q9 h => Or.inr h
  have hS : va_S (va_A (mw cI cL cZ cB q A z) s.heap.size) s.heap s.heap [] := va_S.rf
  have hl : lv_has ls 5 [(0, .ref q), (1, .int p0), (2, .int p1)] := hl
  unfold md_text at hf
  refine lv_aload_n hx hb dX4_text_0 rfl (lv_at hl 0 rfl) ?_
  refine lv_iload_n hx hb dX4_text_1 rfl (lv_at hl 1 rfl) ?_
  obtain ⟨r1, ho1, hf⟩ := of_b0 hf
  refine gcRi (gS FX [.int p0] (c_md_isRegister l G cI cL cZ cB q A z _ p0 _ ho1) (cwS 1 hts (gi_S wm_79 wm_80 wm_6 wm_81) rfl rfl rfl hdS_X4_isRegister ⟨Nat.le_of_ble_eq_true rfl, Nat.le_of_ble_eq_true rfl⟩) hK hP hD rfl hl.1 (Nat.le_of_ble_eq_true rfl) dX4_text_2 ⟨by show _ ≤ 0 + c0 / 64; omega, by show _ ≤ 0 + c0; omega⟩) hS hD hA (fun H locs hP hS => ?_)
  refine lv_if_eq (tgt := 18) hx hb dX4_text_5 (by decide) (fun c2 => ?_) (fun c2 => ?_)
  · have hf := (if_pos c2).symm.trans hf
    exact L_md_text_j18 _ _ _ _ _ _ _ _ _ _ _ _ _ _ _ _ _ _ _ C hK _ _ _ _ _ _ _ _ _ _ hP hD hS (lv_sub hl [0, 1, 2] rfl) hf (by omega) (by omega)
  · have hf := (if_neg c2).symm.trans hf
    refine lv_iload_n hx hb dX4_text_8 rfl (lv_at hl 2 rfl) ?_
    refine lv_iconst (v := 0) hx hb dX4_text_9 (by decide) ?_
    refine lv_ldc (v := 32768) hx hb hown (hts _ (.tail _ wm_100)) dX4_text_10 ?_
    obtain ⟨r3, ho3, hf⟩ := of_b0 hf
    refine gcRi (gS FX [.int p1, .int 0, .int 32768] (c_md_outside l G cI cL cZ cB q A z _ p1 0 32768 _ ho3) (cwS 3 hts (gi_S wm_89 wm_90 wm_6 wm_91) rfl rfl rfl hdS_X4_outside ⟨Nat.le_of_ble_eq_true rfl, Nat.le_of_ble_eq_true rfl⟩) hK hP hD rfl hl.1 (Nat.le_of_ble_eq_true rfl) dX4_text_12 ⟨by show _ ≤ 0 + c0 / 64; omega, by show _ ≤ 0 + c0; omega⟩) hS hD hA (fun H locs hP hS => ?_)
    refine lv_if_eq (tgt := 22) hx hb dX4_text_15 (by decide) (fun c4 => ?_) (fun c4 => ?_)
    · have hf := (if_pos c4).symm.trans hf
      refine lv_iconst (v := 0) hx hb dX4_text_22 (by decide) ?_
      exact L_md_text_j23 _ _ _ _ _ _ _ _ _ _ _ _ _ _ _ _ _ _ _ C hK _ _ _ _ _ _ _ _ _ _ _ hP hD hS (lv_sub hl [0, 1, 2] rfl) hf (by omega) (by omega)
    · have hf := (if_neg c4).symm.trans hf
      exact L_md_text_j18 _ _ _ _ _ _ _ _ _ _ _ _ _ _ _ _ _ _ _ C hK _ _ _ _ _ _ _ _ _ _ hP hD hS (lv_sub hl [0, 1, 2] rfl) hf (by omega) (by omega)
def At_md_map_j89 (l : Launch) (G : va_G) (cI cL cZ cB : ClassId) (q : Nat) (w : va_W) (p : Program) (e : Env) (s : State) (m : MethodId) (args : Array Value) (below : List Frame) (meth : Method) (c : Code) (O0 : Ms × Int32) (mcT msT : Nat) (F : Int32 → Int32 → Int32 → Int32 → Int32 → Int32 → Ms → Option (Nat × Ms × Int32)) : Prop := ∀ (A : Nat → Nat) (z : Ms) (x1 : Int32) (x2 : Int32) (x3 : Int32) (x4 : Int32) (x5 : Int32) (t0 : Int32) (d0 : Nat) (H : Heap) (locs : List Loc) (ls : Array Slot) (cells slots : Nat), va_P G vwCl (mw cI cL cZ cB q A z) H → va_D (va_A w s.heap.size) (mw cI cL cZ cB q A z) → va_S (va_A w s.heap.size) s.heap H locs → lv_has ls 7 [(0, .ref q), (1, .int x1), (2, .int x2), (3, .int x3), (4, .int x4), (5, .int x5)] → F x1 x2 x3 x4 x5 t0 z = some (d0, O0) → cells + (0 + d0 / 64) ≤ mcT → slots + (0 + d0) ≤ msT → W p l e { frames := 4, cells := mcT, slots := msT, locals := 93 } s m args below meth c H locs cells slots (MQ below (qWi G vwCl (mt cI cL cZ cB) w s.heap.size (mw cI cL cZ cB q) O0) args s mcT msT (va_A w s.heap.size)) (F0 m 89 ls [.int t0, .ref q])
def At_md_map_j44 (l : Launch) (G : va_G) (cI cL cZ cB : ClassId) (q : Nat) (w : va_W) (p : Program) (e : Env) (s : State) (m : MethodId) (args : Array Value) (below : List Frame) (meth : Method) (c : Code) (O0 : Ms × Int32) (mcT msT : Nat) (F : Int32 → Int32 → Int32 → Int32 → Int32 → Ms → Option (Nat × Ms × Int32)) : Prop := ∀ (A : Nat → Nat) (z : Ms) (x1 : Int32) (x2 : Int32) (x3 : Int32) (x4 : Int32) (t0 : Int32) (d0 : Nat) (H : Heap) (locs : List Loc) (ls : Array Slot) (cells slots : Nat), va_P G vwCl (mw cI cL cZ cB q A z) H → va_D (va_A w s.heap.size) (mw cI cL cZ cB q A z) → va_S (va_A w s.heap.size) s.heap H locs → lv_has ls 7 [(0, .ref q), (1, .int x1), (2, .int x2), (3, .int x3), (4, .int x4)] → F x1 x2 x3 x4 t0 z = some (d0, O0) → cells + (0 + d0 / 64) ≤ mcT → slots + (0 + d0) ≤ msT → W p l e { frames := 4, cells := mcT, slots := msT, locals := 93 } s m args below meth c H locs cells slots (MQ below (qWi G vwCl (mt cI cL cZ cB) w s.heap.size (mw cI cL cZ cB q) O0) args s mcT msT (va_A w s.heap.size)) (F0 m 44 ls [.int t0, .ref q])
def At_md_map_j39 (l : Launch) (G : va_G) (cI cL cZ cB : ClassId) (q : Nat) (w : va_W) (p : Program) (e : Env) (s : State) (m : MethodId) (args : Array Value) (below : List Frame) (meth : Method) (c : Code) (O0 : Ms × Int32) (mcT msT : Nat) (F : Int32 → Int32 → Int32 → Int32 → Ms → Option (Nat × Ms × Int32)) : Prop := ∀ (A : Nat → Nat) (z : Ms) (x1 : Int32) (x2 : Int32) (x3 : Int32) (x4 : Int32) (d0 : Nat) (H : Heap) (locs : List Loc) (ls : Array Slot) (cells slots : Nat), va_P G vwCl (mw cI cL cZ cB q A z) H → va_D (va_A w s.heap.size) (mw cI cL cZ cB q A z) → va_S (va_A w s.heap.size) s.heap H locs → lv_has ls 7 [(0, .ref q), (1, .int x1), (2, .int x2), (3, .int x3), (4, .int x4)] → F x1 x2 x3 x4 z = some (d0, O0) → cells + (0 + d0 / 64) ≤ mcT → slots + (0 + d0) ≤ msT → W p l e { frames := 4, cells := mcT, slots := msT, locals := 93 } s m args below meth c H locs cells slots (MQ below (qWi G vwCl (mt cI cL cZ cB) w s.heap.size (mw cI cL cZ cB q) O0) args s mcT msT (va_A w s.heap.size)) (F0 m 39 ls [.ref q])
set_option maxHeartbeats 4000000 in
set_option maxRecDepth 100000 in
theorem L_md_map_j89 (l : Launch) (G : va_G) (cI cL cZ cB : ClassId) (q : Nat) (w : va_W) (p : Program) (e : Env) (s : State) (m : MethodId) (args : Array Value) (below : List Frame) (meth : Method) (c : Code) (O0 : Ms × Int32) (mcT msT : Nat) (C : MC p s m args meth c cX4_map 7 (some .int) RX4 vX4_map) (hK : va_K G vwCl (mt cI cL cZ cB) s) : At_md_map_j89 l G cI cL cZ cB q w p e s m args below meth c O0 mcT msT md_map_j89 := by
  obtain ⟨hx, hb, hr, hml, hown, hts, hlocks⟩ := id C
  have FX : CallFix p m c cX4_map 7 s args vX4_map RX4 := ⟨hx, hb, hml, hown, hts⟩
  have hA : ∀ q9 : Nat, s.heap.size ≤ q9 → va_A w s.heap.size q9 := fun q9 h => Or.inr h
  intro A z x1 x2 x3 x4 x5 t0 d0 H locs ls cells slots hP hD hS hl hf hcc hss
  unfold md_map_j89 at hf
  refine va_put (D := G) (ci := 4) (v := .int t0) (ty := .int) (C := RX4) (T := TX4) (N := 32) hx hb hts (fun w h => .tail _ (wl_X4 w h)) tyX4 tyX4_ok nmX4 hown hK hP hD hS 0 rfl rfl 0 (by decide) (hts _ (.tail _ wm_0)) (fun _ h9 => h9) rfl (by decide +kernel) rfl rfl (Nat.le_of_ble_eq_true rfl) dX4_map_89 (fun H locs hP hD hS => ?_)
  have hP : va_P G vwCl (mw cI cL cZ cB q A (Ms.sthr z t0)) H := hP
  have hD : va_D _ (mw cI cL cZ cB q A (Ms.sthr z t0)) := hD
  refine lv_iload hx hb dX4_map_92 (lv_at hl 5 rfl) ?_
  refine lv_if_ne (tgt := 99) hx hb dX4_map_94 (by decide) (fun c12 => ?_) (fun c12 => ?_)
  · have hf := (if_neg c12).symm.trans hf
    refine lv_aload_n hx hb dX4_map_99 rfl (lv_at hl 0 rfl) ?_
    refine lv_iconst (v := 4) hx hb dX4_map_100 (by decide) ?_
    refine lv_iconst (v := 0) hx hb dX4_map_101 (by decide) ?_
    obtain ⟨k13, z13, r13, d13, ho13, hf, ek13⟩ := of_bcw hf
    refine gcWi (gV FX [.int 4, .int 0] (c_md_begin l G cI cL cZ cB q A (Ms.sthr z t0) _ 4 0 k13 _ ho13) (cwV 2 hts (gi_V wm_72 wm_73 wm_74 wm_6 wm_75) rfl rfl rfl hdV_X4_begin ⟨Nat.le_of_ble_eq_true rfl, Nat.le_of_ble_eq_true rfl⟩) hK hP hD 0 rfl rfl rfl hl.1 (Nat.le_of_ble_eq_true rfl) dX4_map_102 ⟨by show _ ≤ mcT; omega, by show _ ≤ msT; omega⟩) hS hD hA (fun A H locs hP hD hS => ?_)
    refine lv_istore (lv' := [(6, .int r13), (0, .ref q), (1, .int x1), (2, .int x2), (3, .int x3), (4, .int x4), (5, .int x5)]) hx hb dX4_map_105 hl (by decide) rfl (fun ls hl => ?_)
    refine lv_aload_n hx hb dX4_map_107 rfl (lv_at hl 1 rfl) ?_
    refine va_get (D := G) (ci := 4) (v := .ref (A 6)) (C := RX4) (T := TX4) (N := 32) hx hb hts (fun w h => .tail _ (wl_X4 w h)) hown hK hP 0 rfl rfl 13 (by decide) (hts _ (.tail _ wm_9)) (fun _ h9 => h9) rfl dX4_map_108 ?_
    refine lv_iload hx hb dX4_map_111 (lv_at hl 0 rfl) ?_
    refine lv_iload_n hx hb dX4_map_113 rfl (lv_at hl 3 rfl) ?_
    obtain ⟨hg14, hf⟩ := of_gd hf
    refine va_iast (f := (Ms.ake z13)) (n := (Ms.nke z13)) hx hb hK hP hD hS 6 0 rfl rfl (inb_in hg14) dX4_map_114 (fun H locs hP hD hS => ?_)
    have hP : va_P G vwCl (mw cI cL cZ cB q A (Ms.wke z13 (upd (Ms.ake z13) (r13.toNatClampNeg) x2))) H := hP
    have hD : va_D _ (mw cI cL cZ cB q A (Ms.wke z13 (upd (Ms.ake z13) (r13.toNatClampNeg) x2))) := hD
    refine lv_aload_n hx hb dX4_map_115 rfl (lv_at hl 1 rfl) ?_
    refine va_get (D := G) (ci := 4) (v := .ref (A 7)) (C := RX4) (T := TX4) (N := 32) hx hb hts (fun w h => .tail _ (wl_X4 w h)) hown hK hP 0 rfl rfl 14 (by decide) (hts _ (.tail _ wm_10)) (fun _ h9 => h9) rfl dX4_map_116 ?_
    refine lv_iload hx hb dX4_map_119 (lv_at hl 0 rfl) ?_
    refine lv_iload_n hx hb dX4_map_121 rfl (lv_at hl 4 rfl) ?_
    obtain ⟨hg15, hf⟩ := of_gd hf
    refine va_iast (f := (Ms.ava z13)) (n := (Ms.nva z13)) hx hb hK hP hD hS 7 0 rfl rfl (inb_in hg15) dX4_map_122 (fun H locs hP hD hS => ?_)
    have hP : va_P G vwCl (mw cI cL cZ cB q A (Ms.wva (Ms.wke z13 (upd (Ms.ake z13) (r13.toNatClampNeg) x2)) (upd (Ms.ava z13) (r13.toNatClampNeg) x3))) H := hP
    have hD : va_D _ (mw cI cL cZ cB q A (Ms.wva (Ms.wke z13 (upd (Ms.ake z13) (r13.toNatClampNeg) x2)) (upd (Ms.ava z13) (r13.toNatClampNeg) x3))) := hD
    refine lv_aload_n hx hb dX4_map_123 rfl (lv_at hl 1 rfl) ?_
    refine va_get (D := G) (ci := 4) (v := .ref (A 8)) (C := RX4) (T := TX4) (N := 32) hx hb hts (fun w h => .tail _ (wl_X4 w h)) hown hK hP 0 rfl rfl 15 (by decide) (hts _ (.tail _ wm_62)) (fun _ h9 => h9) rfl dX4_map_124 ?_
    refine lv_iload hx hb dX4_map_127 (lv_at hl 0 rfl) ?_
    refine lv_iload hx hb dX4_map_129 (lv_at hl 5 rfl) ?_
    obtain ⟨hg16, hf⟩ := of_gd hf
    refine va_iast (f := (Ms.ate z13)) (n := (Ms.nte z13)) hx hb hK hP hD hS 8 0 rfl rfl (inb_in hg16) dX4_map_131 (fun H locs hP hD hS => ?_)
    have hP : va_P G vwCl (mw cI cL cZ cB q A (Ms.wte (Ms.wva (Ms.wke z13 (upd (Ms.ake z13) (r13.toNatClampNeg) x2)) (upd (Ms.ava z13) (r13.toNatClampNeg) x3)) (upd (Ms.ate z13) (r13.toNatClampNeg) x4))) H := hP
    have hD : va_D _ (mw cI cL cZ cB q A (Ms.wte (Ms.wva (Ms.wke z13 (upd (Ms.ake z13) (r13.toNatClampNeg) x2)) (upd (Ms.ava z13) (r13.toNatClampNeg) x3)) (upd (Ms.ate z13) (r13.toNatClampNeg) x4))) := hD
    refine lv_aload_n hx hb dX4_map_132 rfl (lv_at hl 1 rfl) ?_
    refine va_get (D := G) (ci := 4) (v := .ref (A 9)) (C := RX4) (T := TX4) (N := 32) hx hb hts (fun w h => .tail _ (wl_X4 w h)) hown hK hP 0 rfl rfl 16 (by decide) (hts _ (.tail _ wm_12)) (fun _ h9 => h9) rfl dX4_map_133 ?_
    refine lv_iload hx hb dX4_map_136 (lv_at hl 0 rfl) ?_
    refine lv_bipush (v := 8) hx hb dX4_map_138 (by decide) ?_
    obtain ⟨hg17, hf⟩ := of_gd hf
    refine va_iast (f := (Ms.aca z13)) (n := (Ms.nca z13)) hx hb hK hP hD hS 9 0 rfl rfl (inb_in hg17) dX4_map_140 (fun H locs hP hD hS => ?_)
    have hP : va_P G vwCl (mw cI cL cZ cB q A (Ms.wca (Ms.wte (Ms.wva (Ms.wke z13 (upd (Ms.ake z13) (r13.toNatClampNeg) x2)) (upd (Ms.ava z13) (r13.toNatClampNeg) x3)) (upd (Ms.ate z13) (r13.toNatClampNeg) x4)) (upd (Ms.aca z13) (r13.toNatClampNeg) 8))) H := hP
    have hD : va_D _ (mw cI cL cZ cB q A (Ms.wca (Ms.wte (Ms.wva (Ms.wke z13 (upd (Ms.ake z13) (r13.toNatClampNeg) x2)) (upd (Ms.ava z13) (r13.toNatClampNeg) x3)) (upd (Ms.ate z13) (r13.toNatClampNeg) x4)) (upd (Ms.aca z13) (r13.toNatClampNeg) 8))) := hD
    refine lv_aload_n hx hb dX4_map_141 rfl (lv_at hl 1 rfl) ?_
    refine va_get (D := G) (ci := 4) (v := .ref (A 10)) (C := RX4) (T := TX4) (N := 32) hx hb hts (fun w h => .tail _ (wl_X4 w h)) hown hK hP 0 rfl rfl 17 (by decide) (hts _ (.tail _ wm_63)) (fun _ h9 => h9) rfl dX4_map_142 ?_
    refine lv_iload hx hb dX4_map_145 (lv_at hl 0 rfl) ?_
    refine lv_iconst (v := 0) hx hb dX4_map_147 (by decide) ?_
    obtain ⟨hg18, hf⟩ := of_gd hf
    refine va_iast (f := (Ms.afi z13)) (n := (Ms.nfi z13)) hx hb hK hP hD hS 10 0 rfl rfl (inb_in hg18) dX4_map_148 (fun H locs hP hD hS => ?_)
    have hP : va_P G vwCl (mw cI cL cZ cB q A (Ms.wfi (Ms.wca (Ms.wte (Ms.wva (Ms.wke z13 (upd (Ms.ake z13) (r13.toNatClampNeg) x2)) (upd (Ms.ava z13) (r13.toNatClampNeg) x3)) (upd (Ms.ate z13) (r13.toNatClampNeg) x4)) (upd (Ms.aca z13) (r13.toNatClampNeg) 8)) (upd (Ms.afi z13) (r13.toNatClampNeg) 0))) H := hP
    have hD : va_D _ (mw cI cL cZ cB q A (Ms.wfi (Ms.wca (Ms.wte (Ms.wva (Ms.wke z13 (upd (Ms.ake z13) (r13.toNatClampNeg) x2)) (upd (Ms.ava z13) (r13.toNatClampNeg) x3)) (upd (Ms.ate z13) (r13.toNatClampNeg) x4)) (upd (Ms.aca z13) (r13.toNatClampNeg) 8)) (upd (Ms.afi z13) (r13.toNatClampNeg) 0))) := hD
    refine lv_aload_n hx hb dX4_map_149 rfl (lv_at hl 1 rfl) ?_
    refine va_get (D := G) (ci := 4) (v := .ref (A 11)) (C := RX4) (T := TX4) (N := 32) hx hb hts (fun w h => .tail _ (wl_X4 w h)) hown hK hP 0 rfl rfl 18 (by decide) (hts _ (.tail _ wm_64)) (fun _ h9 => h9) rfl dX4_map_150 ?_
    refine lv_iload hx hb dX4_map_153 (lv_at hl 0 rfl) ?_
    refine lv_iconst (v := 0) hx hb dX4_map_155 (by decide) ?_
    obtain ⟨hg19, hf⟩ := of_gd hf
    refine va_iast (f := (Ms.aod z13)) (n := (Ms.nod z13)) hx hb hK hP hD hS 11 0 rfl rfl (inb_in hg19) dX4_map_156 (fun H locs hP hD hS => ?_)
    have hP : va_P G vwCl (mw cI cL cZ cB q A (Ms.wod (Ms.wfi (Ms.wca (Ms.wte (Ms.wva (Ms.wke z13 (upd (Ms.ake z13) (r13.toNatClampNeg) x2)) (upd (Ms.ava z13) (r13.toNatClampNeg) x3)) (upd (Ms.ate z13) (r13.toNatClampNeg) x4)) (upd (Ms.aca z13) (r13.toNatClampNeg) 8)) (upd (Ms.afi z13) (r13.toNatClampNeg) 0)) (upd (Ms.aod z13) (r13.toNatClampNeg) 0))) H := hP
    have hD : va_D _ (mw cI cL cZ cB q A (Ms.wod (Ms.wfi (Ms.wca (Ms.wte (Ms.wva (Ms.wke z13 (upd (Ms.ake z13) (r13.toNatClampNeg) x2)) (upd (Ms.ava z13) (r13.toNatClampNeg) x3)) (upd (Ms.ate z13) (r13.toNatClampNeg) x4)) (upd (Ms.aca z13) (r13.toNatClampNeg) 8)) (upd (Ms.afi z13) (r13.toNatClampNeg) 0)) (upd (Ms.aod z13) (r13.toNatClampNeg) 0))) := hD
    refine lv_aload_n hx hb dX4_map_157 rfl (lv_at hl 1 rfl) ?_
    refine lv_iload_n hx hb dX4_map_158 rfl (lv_at hl 2 rfl) ?_
    refine lv_iload hx hb dX4_map_159 (lv_at hl 0 rfl) ?_
    refine lv_lconst (v := 0) hx hb dX4_map_161 (by decide) ?_
    obtain ⟨z20, o9, ho20, hf⟩ := of_bw hf
    refine gcWv (gV FX [.int x1, .int r13, .long 0] (c_md_set l G cI cL cZ cB q A (Ms.wod (Ms.wfi (Ms.wca (Ms.wte (Ms.wva (Ms.wke z13 (upd (Ms.ake z13) (r13.toNatClampNeg) x2)) (upd (Ms.ava z13) (r13.toNatClampNeg) x3)) (upd (Ms.ate z13) (r13.toNatClampNeg) x4)) (upd (Ms.aca z13) (r13.toNatClampNeg) 8)) (upd (Ms.afi z13) (r13.toNatClampNeg) 0)) (upd (Ms.aod z13) (r13.toNatClampNeg) 0)) _ x1 r13 0 _ ho20) (cwV 3 hts (gi_V wm_82 wm_83 wm_84 wm_6 wm_85) rfl rfl rfl hdV_X4_set ⟨Nat.le_of_ble_eq_true rfl, Nat.le_of_ble_eq_true rfl⟩) hK hP hD 0 rfl rfl rfl hl.1 (Nat.le_of_ble_eq_true rfl) dX4_map_162 ⟨by show _ ≤ mcT; omega, by show _ ≤ msT; omega⟩) hS hD hA (fun A H locs hP hD hS => ?_)
    refine lv_iload hx hb dX4_map_165 (lv_at hl 0 rfl) ?_
    obtain ⟨hc0, hj0⟩ := of_some2 hf
    subst hj0
    exact grWi hx hb hr hlocks hP hK hD hS dX4_map_167 (by omega) (by omega)
  · have hf := (if_pos c12).symm.trans hf
    refine lv_iconst (v := 0) hx hb dX4_map_97 (by decide) ?_
    obtain ⟨hc0, hj0⟩ := of_some2 hf
    subst hj0
    exact grWi hx hb hr hlocks hP hK hD hS dX4_map_98 (by omega) (by omega)
set_option maxHeartbeats 4000000 in
set_option maxRecDepth 100000 in
theorem L_md_map_j44 (l : Launch) (G : va_G) (cI cL cZ cB : ClassId) (q : Nat) (w : va_W) (p : Program) (e : Env) (s : State) (m : MethodId) (args : Array Value) (below : List Frame) (meth : Method) (c : Code) (O0 : Ms × Int32) (mcT msT : Nat) (C : MC p s m args meth c cX4_map 7 (some .int) RX4 vX4_map) (hK : va_K G vwCl (mt cI cL cZ cB) s) : At_md_map_j44 l G cI cL cZ cB q w p e s m args below meth c O0 mcT msT md_map_j44 := by
  obtain ⟨hx, hb, hr, hml, hown, hts, hlocks⟩ := id C
  have FX : CallFix p m c cX4_map 7 s args vX4_map RX4 := ⟨hx, hb, hml, hown, hts⟩
  have hA : ∀ q9 : Nat, s.heap.size ≤ q9 → va_A w s.heap.size q9 := fun q9 h => Or.inr h
  intro A z x1 x2 x3 x4 t0 d0 H locs ls cells slots hP hD hS hl hf hcc hss
  unfold md_map_j44 at hf
  refine va_put (D := G) (ci := 4) (v := .int t0) (ty := .int) (C := RX4) (T := TX4) (N := 32) hx hb hts (fun w h => .tail _ (wl_X4 w h)) tyX4 tyX4_ok nmX4 hown hK hP hD hS 0 rfl rfl 0 (by decide) (hts _ (.tail _ wm_0)) (fun _ h9 => h9) rfl (by decide +kernel) rfl rfl (Nat.le_of_ble_eq_true rfl) dX4_map_44 (fun H locs hP hD hS => ?_)
  have hP : va_P G vwCl (mw cI cL cZ cB q A (Ms.sthr z t0)) H := hP
  have hD : va_D _ (mw cI cL cZ cB q A (Ms.sthr z t0)) := hD
  refine lv_aload_n hx hb dX4_map_47 rfl (lv_at hl 0 rfl) ?_
  refine va_get (D := G) (ci := 4) (v := .int t0) (C := RX4) (T := TX4) (N := 32) hx hb hts (fun w h => .tail _ (wl_X4 w h)) hown hK hP 0 rfl rfl 0 (by decide) (hts _ (.tail _ wm_0)) (fun _ h9 => h9) rfl dX4_map_48 ?_
  refine lv_if_le (tgt := 56) hx hb dX4_map_51 (by decide) (fun c9 => ?_) (fun c9 => ?_)
  · have hf := (if_pos c9).symm.trans hf
    refine lv_aload_n hx hb dX4_map_56 rfl (lv_at hl 0 rfl) ?_
    refine lv_ldc2 (v := 6) hx hb hown (hts _ (.tail _ wm_11)) dX4_map_57 ?_
    refine lv_ldc2 (v := 8) hx hb hown (hts _ (.tail _ wm_105)) dX4_map_60 ?_
    refine lv_iconst (v := 3) hx hb dX4_map_63 (by decide) ?_
    refine lv_iload_n hx hb dX4_map_64 rfl (lv_at hl 2 rfl) ?_
    refine lv_iadd hx hb dX4_map_65 ?_
    refine lv_iload_n hx hb dX4_map_66 rfl (lv_at hl 3 rfl) ?_
    refine lv_iadd hx hb dX4_map_67 ?_
    refine lv_i2l hx hb dX4_map_68 rfl ?_
    refine lv_lmul hx hb dX4_map_69 ?_
    refine lv_ladd hx hb dX4_map_70 ?_
    refine lv_lconst (v := 1) hx hb dX4_map_71 (by decide) ?_
    refine lv_ladd hx hb dX4_map_72 ?_
    obtain ⟨z10, r10, ho10, hf⟩ := of_bw hf
    refine gcWi (gV FX [.long ((6 + (8 * (((3 + x2) + x3).toInt64))) + 1)] (c_md_hasRoom l G cI cL cZ cB q A (Ms.sthr z t0) _ ((6 + (8 * (((3 + x2) + x3).toInt64))) + 1) _ ho10) (cwV 1 hts (gi_V wm_92 wm_93 wm_94 wm_6 wm_95) rfl rfl rfl hdV_X4_hasRoom ⟨Nat.le_of_ble_eq_true rfl, Nat.le_of_ble_eq_true rfl⟩) hK hP hD 0 rfl rfl rfl hl.1 (Nat.le_of_ble_eq_true rfl) dX4_map_73 ⟨by show _ ≤ mcT; omega, by show _ ≤ msT; omega⟩) hS hD hA (fun A H locs hP hD hS => ?_)
    refine lv_istore (lv' := [(5, .int r10), (0, .ref q), (1, .int x1), (2, .int x2), (3, .int x3), (4, .int x4)]) hx hb dX4_map_76 hl (by decide) rfl (fun ls hl => ?_)
    refine lv_aload_n hx hb dX4_map_78 rfl (lv_at hl 1 rfl) ?_
    refine lv_iload hx hb dX4_map_79 (lv_at hl 0 rfl) ?_
    refine lv_if_eq (tgt := 88) hx hb dX4_map_81 (by decide) (fun c11 => ?_) (fun c11 => ?_)
    · have hf := (if_pos c11).symm.trans hf
      refine lv_iconst (v := 2) hx hb dX4_map_88 (by decide) ?_
      exact L_md_map_j89 _ _ _ _ _ _ _ _ _ _ _ _ _ _ _ _ _ _ _ C hK _ _ _ _ _ _ _ _ _ _ _ _ _ _ hP hD hS (lv_sub hl [1, 2, 3, 4, 5, 0] rfl) hf (by omega) (by omega)
    · have hf := (if_neg c11).symm.trans hf
      refine lv_iconst (v := 0) hx hb dX4_map_84 (by decide) ?_
      refine lv_goto (tgt := 89) hx hb dX4_map_85 (by decide) ?_
      exact L_md_map_j89 _ _ _ _ _ _ _ _ _ _ _ _ _ _ _ _ _ _ _ C hK _ _ _ _ _ _ _ _ _ _ _ _ _ _ hP hD hS (lv_sub hl [1, 2, 3, 4, 5, 0] rfl) hf (by omega) (by omega)
  · have hf := (if_neg c9).symm.trans hf
    refine lv_iconst (v := 0) hx hb dX4_map_54 (by decide) ?_
    obtain ⟨hc0, hj0⟩ := of_some2 hf
    subst hj0
    exact grWi hx hb hr hlocks hP hK hD hS dX4_map_55 (by omega) (by omega)
set_option maxHeartbeats 4000000 in
set_option maxRecDepth 100000 in
theorem L_md_map_j39 (l : Launch) (G : va_G) (cI cL cZ cB : ClassId) (q : Nat) (w : va_W) (p : Program) (e : Env) (s : State) (m : MethodId) (args : Array Value) (below : List Frame) (meth : Method) (c : Code) (O0 : Ms × Int32) (mcT msT : Nat) (C : MC p s m args meth c cX4_map 7 (some .int) RX4 vX4_map) (hK : va_K G vwCl (mt cI cL cZ cB) s) : At_md_map_j39 l G cI cL cZ cB q w p e s m args below meth c O0 mcT msT md_map_j39 := by
  obtain ⟨hx, hb, hr, hml, hown, hts, hlocks⟩ := id C
  have FX : CallFix p m c cX4_map 7 s args vX4_map RX4 := ⟨hx, hb, hml, hown, hts⟩
  have hA : ∀ q9 : Nat, s.heap.size ≤ q9 → va_A w s.heap.size q9 := fun q9 h => Or.inr h
  intro A z x1 x2 x3 x4 d0 H locs ls cells slots hP hD hS hl hf hcc hss
  unfold md_map_j39 at hf
  refine lv_iconst (v := 1) hx hb dX4_map_39 (by decide) ?_
  refine lv_goto (tgt := 44) hx hb dX4_map_40 (by decide) ?_
  exact L_md_map_j44 _ _ _ _ _ _ _ _ _ _ _ _ _ _ _ _ _ _ _ C hK _ _ _ _ _ _ _ _ _ _ _ _ _ hP hD hS (lv_sub hl [0, 1, 2, 3, 4] rfl) hf (by omega) (by omega)
set_option maxHeartbeats 4000000 in
set_option maxRecDepth 100000 in
theorem c_md_map (l : Launch) (G : va_G) (cI cL cZ cB : ClassId) (q : Nat) (A : Nat → Nat) (z : Ms) (sz : Nat) (p0 : Int32) (p1 : Int32) (p2 : Int32) (p3 : Int32) (c0 : Nat) (O0 : Ms × Int32) (hf : md_map z p0 p1 p2 p3 = some (c0, O0)) : Met l yX4_map vX4_map { frames := 4, cells := 0 + c0 / 64, slots := 0 + c0, locals := 93 } (gPc G vwCl (mt cI cL cZ cB) [.ref q, .int p0, .int p1, .int p2, .int p3] (mw cI cL cZ cB q A z) sz) (qWi G vwCl (mt cI cL cZ cB) (mw cI cL cZ cB q A z) sz (mw cI cL cZ cB q) O0) (0 + c0 / 64) (0 + c0) (va_A (mw cI cL cZ cB q A z) sz) := by
  refine gMet (by decide) rfl (Nat.le_of_ble_eq_true rfl) ?_
  intro p e s m below meth c ls C hK hP hD hsz hl
  subst hsz
  obtain ⟨hx, hb, hr, hml, hown, hts, hlocks⟩ := id C
  have FX : CallFix p m c cX4_map 7 s _ vX4_map RX4 := ⟨hx, hb, hml, hown, hts⟩
  have hA : ∀ q9 : Nat, s.heap.size ≤ q9 → va_A (mw cI cL cZ cB q A z) s.heap.size q9 := fun q9 h => Or.inr h
  have hS : va_S (va_A (mw cI cL cZ cB q A z) s.heap.size) s.heap s.heap [] := va_S.rf
  have hl : lv_has ls 7 [(0, .ref q), (1, .int p0), (2, .int p1), (3, .int p2), (4, .int p3)] := hl
  unfold md_map at hf
  refine lv_aload_n hx hb dX4_map_0 rfl (lv_at hl 0 rfl) ?_
  refine lv_iload_n hx hb dX4_map_1 rfl (lv_at hl 1 rfl) ?_
  obtain ⟨r1, ho1, hf⟩ := of_b0 hf
  refine gcRi (gS FX [.int p0] (c_md_isRegister l G cI cL cZ cB q A z _ p0 _ ho1) (cwS 1 hts (gi_S wm_79 wm_80 wm_6 wm_81) rfl rfl rfl hdS_X4_isRegister ⟨Nat.le_of_ble_eq_true rfl, Nat.le_of_ble_eq_true rfl⟩) hK hP hD rfl hl.1 (Nat.le_of_ble_eq_true rfl) dX4_map_2 ⟨by show _ ≤ 0 + c0 / 64; omega, by show _ ≤ 0 + c0; omega⟩) hS hD hA (fun H locs hP hS => ?_)
  refine lv_if_eq (tgt := 39) hx hb dX4_map_5 (by decide) (fun c2 => ?_) (fun c2 => ?_)
  · have hf := (if_pos c2).symm.trans hf
    exact L_md_map_j39 _ _ _ _ _ _ _ _ _ _ _ _ _ _ _ _ _ _ _ C hK _ _ _ _ _ _ _ _ _ _ _ _ hP hD hS (lv_sub hl [0, 1, 2, 3, 4] rfl) hf (by omega) (by omega)
  · have hf := (if_neg c2).symm.trans hf
    refine lv_iload_n hx hb dX4_map_8 rfl (lv_at hl 2 rfl) ?_
    refine lv_iconst (v := 1) hx hb dX4_map_9 (by decide) ?_
    refine lv_iconst (v := 4) hx hb dX4_map_10 (by decide) ?_
    obtain ⟨r3, ho3, hf⟩ := of_b0 hf
    refine gcRi (gS FX [.int p1, .int 1, .int 4] (c_md_outside l G cI cL cZ cB q A z _ p1 1 4 _ ho3) (cwS 3 hts (gi_S wm_89 wm_90 wm_6 wm_91) rfl rfl rfl hdS_X4_outside ⟨Nat.le_of_ble_eq_true rfl, Nat.le_of_ble_eq_true rfl⟩) hK hP hD rfl hl.1 (Nat.le_of_ble_eq_true rfl) dX4_map_11 ⟨by show _ ≤ 0 + c0 / 64; omega, by show _ ≤ 0 + c0; omega⟩) hS hD hA (fun H locs hP hS => ?_)
    refine lv_if_ne (tgt := 39) hx hb dX4_map_14 (by decide) (fun c4 => ?_) (fun c4 => ?_)
    · have hf := (if_neg c4).symm.trans hf
      exact L_md_map_j39 _ _ _ _ _ _ _ _ _ _ _ _ _ _ _ _ _ _ _ C hK _ _ _ _ _ _ _ _ _ _ _ _ hP hD hS (lv_sub hl [0, 1, 2, 3, 4] rfl) hf (by omega) (by omega)
    · have hf := (if_pos c4).symm.trans hf
      refine lv_iload_n hx hb dX4_map_17 rfl (lv_at hl 3 rfl) ?_
      refine lv_iconst (v := 0) hx hb dX4_map_18 (by decide) ?_
      refine lv_iconst (v := 4) hx hb dX4_map_19 (by decide) ?_
      obtain ⟨r5, ho5, hf⟩ := of_b0 hf
      refine gcRi (gS FX [.int p2, .int 0, .int 4] (c_md_outside l G cI cL cZ cB q A z _ p2 0 4 _ ho5) (cwS 3 hts (gi_S wm_89 wm_90 wm_6 wm_91) rfl rfl rfl hdS_X4_outside ⟨Nat.le_of_ble_eq_true rfl, Nat.le_of_ble_eq_true rfl⟩) hK hP hD rfl hl.1 (Nat.le_of_ble_eq_true rfl) dX4_map_20 ⟨by show _ ≤ 0 + c0 / 64; omega, by show _ ≤ 0 + c0; omega⟩) hS hD hA (fun H locs hP hS => ?_)
      refine lv_if_ne (tgt := 39) hx hb dX4_map_23 (by decide) (fun c6 => ?_) (fun c6 => ?_)
      · have hf := (if_neg c6).symm.trans hf
        exact L_md_map_j39 _ _ _ _ _ _ _ _ _ _ _ _ _ _ _ _ _ _ _ C hK _ _ _ _ _ _ _ _ _ _ _ _ hP hD hS (lv_sub hl [0, 1, 2, 3, 4] rfl) hf (by omega) (by omega)
      · have hf := (if_pos c6).symm.trans hf
        refine lv_iload hx hb dX4_map_26 (lv_at hl 4 rfl) ?_
        refine lv_if_lt (tgt := 39) hx hb dX4_map_28 (by decide) (fun c7 => ?_) (fun c7 => ?_)
        · have hf := (if_pos c7).symm.trans hf
          exact L_md_map_j39 _ _ _ _ _ _ _ _ _ _ _ _ _ _ _ _ _ _ _ C hK _ _ _ _ _ _ _ _ _ _ _ _ hP hD hS (lv_sub hl [0, 1, 2, 3, 4] rfl) hf (by omega) (by omega)
        · have hf := (if_neg c7).symm.trans hf
          refine lv_iload hx hb dX4_map_31 (lv_at hl 4 rfl) ?_
          refine lv_iconst (v := 1) hx hb dX4_map_33 (by decide) ?_
          refine lv_iload_n hx hb dX4_map_34 rfl (lv_at hl 2 rfl) ?_
          refine lv_ishl hx hb dX4_map_35 ?_
          refine lv_icmp_lt (tgt := 43) hx hb dX4_map_36 (by decide) (fun c8 => ?_) (fun c8 => ?_)
          · have hf := (if_pos c8).symm.trans hf
            refine lv_iconst (v := 0) hx hb dX4_map_43 (by decide) ?_
            exact L_md_map_j44 _ _ _ _ _ _ _ _ _ _ _ _ _ _ _ _ _ _ _ C hK _ _ _ _ _ _ _ _ _ _ _ _ _ hP hD hS (lv_sub hl [0, 1, 2, 3, 4] rfl) hf (by omega) (by omega)
          · have hf := (if_neg c8).symm.trans hf
            exact L_md_map_j39 _ _ _ _ _ _ _ _ _ _ _ _ _ _ _ _ _ _ _ C hK _ _ _ _ _ _ _ _ _ _ _ _ hP hD hS (lv_sub hl [0, 1, 2, 3, 4] rfl) hf (by omega) (by omega)
