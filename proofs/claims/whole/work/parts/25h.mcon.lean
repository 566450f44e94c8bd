def At_md_show_l3 (l : Launch) (G : va_G) (cI cL cZ cB : ClassId) (q : Nat) (w : va_W) (p : Program) (e : Env) (s : State) (m : MethodId) (args : Array Value) (below : List Frame) (meth : Method) (c : Code) (O0 : Ms × Unit) (mcT msT : Nat) (F : Int32 → Int32 → Int32 → Int32 → Ms → Option (Ms × Unit)) : Prop := ∀ (A : Nat → Nat) (z : Ms) (x1 : Int32) (x2 : Int32) (x4 : Int32) (x5 : Int32) (H : Heap) (locs : List Loc) (ls : Array Slot) (cells slots : Nat), va_P G vwCl (mw cI cL cZ cB q A z) H → va_D (va_A w s.heap.size) (mw cI cL cZ cB q A z) → va_S (va_A w s.heap.size) s.heap H locs → lv_has ls 6 [(0, .ref q), (1, .int x1), (2, .int x2), (4, .int x4), (5, .int x5)] → F x1 x2 x4 x5 z = some O0 → cells + 0 ≤ mcT → slots + 0 ≤ msT → W p l e { frames := 1, cells := mcT, slots := msT, locals := 22 } s m args below meth c H locs cells slots (MQ below (qWv G vwCl (mt cI cL cZ cB) w s.heap.size (mw cI cL cZ cB q) O0) args s mcT msT (va_A w s.heap.size)) (F0 m 3 ls [])
set_option maxHeartbeats 4000000 in
set_option maxRecDepth 100000 in
theorem L_md_show_l3 (l : Launch) (G : va_G) (cI cL cZ cB : ClassId) (q : Nat) (w : va_W) (p : Program) (e : Env) (s : State) (m : MethodId) (args : Array Value) (below : List Frame) (meth : Method) (c : Code) (O0 : Ms × Unit) (mcT msT : Nat) (C : MC p s m args meth c cX4_show 6 (none) RX4 vX4_show) (hK : va_K G vwCl (mt cI cL cZ cB) s) : ∀ n : Nat, At_md_show_l3 l G cI cL cZ cB q w p e s m args below meth c O0 mcT msT (md_show_l3 n) := by
  obtain ⟨hx, hb, hr, hml, hown, hts, hlocks⟩ := id C
  have FX : CallFix p m c cX4_show 6 s args vX4_show RX4 := ⟨hx, hb, hml, hown, hts⟩
  have hA : ∀ q9 : Nat, s.heap.size ≤ q9 → va_A w s.heap.size q9 := fun q9 h => Or.inr h
  intro n
  induction n with
  | zero =>
    intro A z x1 x2 x4 x5 H locs ls cells slots hP hD hS hl hf hcc hss
    exact nomatch (show none = some _ from hf)
  | succ n ih =>
    intro A z x1 x2 x4 x5 H locs ls cells slots hP hD hS hl hf hcc hss
    rw [md_show_l3] at hf
    refine lv_iload hx hb dX4_show_3 (lv_at hl 4 rfl) ?_
    refine lv_iload hx hb dX4_show_5 (lv_at hl 3 rfl) ?_
    refine lv_icmp_ge (tgt := 64) hx hb dX4_show_7 (by decide) (fun c1 => ?_) (fun c1 => ?_)
    · have hf := (if_pos c1).symm.trans hf
      obtain rfl := Option.some.inj hf
      exact grWv hx hb hr hlocks hP hK hD hS dX4_show_64 (by omega) (by omega)
    · have hf := (if_neg c1).symm.trans hf
      refine lv_aload_n hx hb dX4_show_10 rfl (lv_at hl 0 rfl) ?_
      refine va_get (D := G) (ci := 4) (v := .ref (A 15)) (C := RX4) (T := TX4) (N := 32) hx hb hts (fun w h => .tail _ (wl_X4 w h)) hown hK hP 0 rfl rfl 22 (by decide) (hts _ (.tail _ wm_26)) (fun _ h9 => h9) rfl dX4_show_11 ?_
      refine lv_aload_n hx hb dX4_show_14 rfl (lv_at hl 0 rfl) ?_
      refine lv_iload_n hx hb dX4_show_15 rfl (lv_at hl 2 rfl) ?_
      refine lv_iload hx hb dX4_show_16 (lv_at hl 4 rfl) ?_
      obtain ⟨r2, ho2, hf⟩ := of_b0 hf
      refine gcRi (gV FX [.int x2, .int x5] (c_md_at l G cI cL cZ cB q A z _ x2 x5 _ ho2) (cwV 2 hts (gi_V wm_126 wm_127 wm_128 wm_6 wm_129) rfl rfl rfl hdV_X4_at ⟨Nat.le_of_ble_eq_true rfl, Nat.le_of_ble_eq_true rfl⟩) hK hP hD 0 rfl rfl rfl hl.1 (Nat.le_of_ble_eq_true rfl) dX4_show_18 ⟨by show _ ≤ mcT; omega, by show _ ≤ msT; omega⟩) hS hD hA (fun H locs hP hS => ?_)
      refine lv_aload_n hx hb dX4_show_21 rfl (lv_at hl 0 rfl) ?_
      refine va_get (D := G) (ci := 4) (v := .ref (A 20)) (C := RX4) (T := TX4) (N := 32) hx hb hts (fun w h => .tail _ (wl_X4 w h)) hown hK hP 0 rfl rfl 29 (by decide) (hts _ (.tail _ wm_28)) (fun _ h9 => h9) rfl dX4_show_22 ?_
      refine lv_bipush (v := 8) hx hb dX4_show_25 (by decide) ?_
      refine lv_iload_n hx hb dX4_show_27 rfl (lv_at hl 1 rfl) ?_
      refine lv_imul hx hb dX4_show_28 ?_
      refine lv_iload hx hb dX4_show_29 (lv_at hl 4 rfl) ?_
      refine lv_iadd hx hb dX4_show_31 ?_
      obtain ⟨hg3, hf⟩ := of_gd hf
      refine va_iald (f := (Ms.aet z)) (n := (Ms.net z)) hx hb hK hP 20 0 rfl rfl (inb_in hg3) dX4_show_32 ?_
      obtain ⟨hg4, hf⟩ := of_gd hf
      refine va_iast (f := (Ms.awt z)) (n := (Ms.nwt z)) hx hb hK hP hD hS 15 0 rfl rfl (inb_in hg4) dX4_show_33 (fun H locs hP hD hS => ?_)
      have hP : va_P G vwCl (mw cI cL cZ cB q A (Ms.wwt z (upd (Ms.awt z) (r2.toNatClampNeg) ((Ms.aet z) ((8 * x1) + x5).toNatClampNeg)))) H := hP
      have hD : va_D _ (mw cI cL cZ cB q A (Ms.wwt z (upd (Ms.awt z) (r2.toNatClampNeg) ((Ms.aet z) ((8 * x1) + x5).toNatClampNeg)))) := hD
      refine lv_aload_n hx hb dX4_show_34 rfl (lv_at hl 0 rfl) ?_
      refine va_get (D := G) (ci := 4) (v := .ref (A 16)) (C := RX4) (T := TX4) (N := 32) hx hb hts (fun w h => .tail _ (wl_X4 w h)) hown hK hP 0 rfl rfl 23 (by decide) (hts _ (.tail _ wm_39)) (fun _ h9 => h9) rfl dX4_show_35 ?_
      refine lv_aload_n hx hb dX4_show_38 rfl (lv_at hl 0 rfl) ?_
      refine lv_iload_n hx hb dX4_show_39 rfl (lv_at hl 2 rfl) ?_
      refine lv_iload hx hb dX4_show_40 (lv_at hl 4 rfl) ?_
      obtain ⟨r5, ho5, hf⟩ := of_b0 hf
      refine gcRi (gV FX [.int x2, .int x5] (c_md_at l G cI cL cZ cB q A (Ms.wwt z (upd (Ms.awt z) (r2.toNatClampNeg) ((Ms.aet z) ((8 * x1) + x5).toNatClampNeg))) _ x2 x5 _ ho5) (cwV 2 hts (gi_V wm_126 wm_127 wm_128 wm_6 wm_129) rfl rfl rfl hdV_X4_at ⟨Nat.le_of_ble_eq_true rfl, Nat.le_of_ble_eq_true rfl⟩) hK hP hD 0 rfl rfl rfl hl.1 (Nat.le_of_ble_eq_true rfl) dX4_show_42 ⟨by show _ ≤ mcT; omega, by show _ ≤ msT; omega⟩) hS hD hA (fun H locs hP hS => ?_)
      refine lv_aload_n hx hb dX4_show_45 rfl (lv_at hl 0 rfl) ?_
      refine va_get (D := G) (ci := 4) (v := .ref (A 21)) (C := RX4) (T := TX4) (N := 32) hx hb hts (fun w h => .tail _ (wl_X4 w h)) hown hK hP 0 rfl rfl 30 (by decide) (hts _ (.tail _ wm_30)) (fun _ h9 => h9) rfl dX4_show_46 ?_
      refine lv_bipush (v := 8) hx hb dX4_show_49 (by decide) ?_
      refine lv_iload_n hx hb dX4_show_51 rfl (lv_at hl 1 rfl) ?_
      refine lv_imul hx hb dX4_show_52 ?_
      refine lv_iload hx hb dX4_show_53 (lv_at hl 4 rfl) ?_
      refine lv_iadd hx hb dX4_show_55 ?_
      obtain ⟨hg6, hf⟩ := of_gd hf
      refine va_lald (f := (Ms.aev z)) (n := (Ms.nev z)) hx hb hK hP 21 1 rfl rfl (inb_in hg6) dX4_show_56 ?_
      obtain ⟨hg7, hf⟩ := of_gd hf
      refine va_last (f := (Ms.awv z)) (n := (Ms.nwv z)) hx hb hK hP hD hS 16 1 rfl rfl (inb_in hg7) dX4_show_57 (fun H locs hP hD hS => ?_)
      have hP : va_P G vwCl (mw cI cL cZ cB q A (Ms.wwv (Ms.wwt z (upd (Ms.awt z) (r2.toNatClampNeg) ((Ms.aet z) ((8 * x1) + x5).toNatClampNeg))) (vp_updL (Ms.awv z) (r5.toNatClampNeg) ((Ms.aev z) ((8 * x1) + x5).toNatClampNeg)))) H := hP
      have hD : va_D _ (mw cI cL cZ cB q A (Ms.wwv (Ms.wwt z (upd (Ms.awt z) (r2.toNatClampNeg) ((Ms.aet z) ((8 * x1) + x5).toNatClampNeg))) (vp_updL (Ms.awv z) (r5.toNatClampNeg) ((Ms.aev z) ((8 * x1) + x5).toNatClampNeg)))) := hD
      refine lv_iinc (v := (x5 + 1)) (lv' := [(5, .int (x5 + 1)), (0, .ref q), (1, .int x1), (2, .int x2), (4, .int x4)]) hx hb dX4_show_58 hl (k := 4) rfl rfl (by decide) rfl (fun ls hl => ?_)
      refine lv_goto (tgt := 3) hx hb dX4_show_61 (by decide) ?_
      exact ih _ _ _ _ _ _ _ _ _ _ _ hP hD hS (lv_sub hl [1, 2, 3, 4, 0] rfl) hf (by omega) (by omega)
set_option maxHeartbeats 4000000 in
set_option maxRecDepth 100000 in
theorem c_md_show (l : Launch) (G : va_G) (cI cL cZ cB : ClassId) (q : Nat) (A : Nat → Nat) (z : Ms) (sz : Nat) (p0 : Int32) (p1 : Int32) (p2 : Int32) (p3 : Int32) (O0 : Ms × Unit) (hf : md_show z p0 p1 p2 p3 = some O0) : Met l yX4_show vX4_show { frames := 1, cells := 0, slots := 0, locals := 22 } (gPc G vwCl (mt cI cL cZ cB) [.ref q, .int p0, .int p1, .int p2, .int p3] (mw cI cL cZ cB q A z) sz) (qWv G vwCl (mt cI cL cZ cB) (mw cI cL cZ cB q A z) sz (mw cI cL cZ cB q) O0) 0 0 (va_A (mw cI cL cZ cB q A z) sz) := by
  refine gMet (by decide) rfl (Nat.le_of_ble_eq_true rfl) ?_
  intro p e s m below meth c ls C hK hP hD hsz hl
  subst hsz
  obtain ⟨hx, hb, hr, hml, hown, hts, hlocks⟩ := id C
  have FX : CallFix p m c cX4_show 6 s _ vX4_show RX4 := ⟨hx, hb, hml, hown, hts⟩
  have hA : ∀ q9 : Nat, s.heap.size ≤ q9 → va_A (mw cI cL cZ cB q A z) s.heap.size q9 := fun q9 h => Or.inr h
  have hS : va_S (va_A (mw cI cL cZ cB q A z) s.heap.size) s.heap s.heap [] := va_S.rf
  have hl : lv_has ls 6 [(0, .ref q), (1, .int p0), (2, .int p1), (3, .int p2), (4, .int p3)] := hl
  unfold md_show at hf
  refine lv_iload_n hx hb dX4_show_0 rfl (lv_at hl 3 rfl) ?_
  refine lv_istore (lv' := [(5, .int p2), (0, .ref q), (1, .int p0), (2, .int p1), (3, .int p2), (4, .int p3)]) hx hb dX4_show_1 hl (by decide) rfl (fun ls hl => ?_)
  exact L_md_show_l3 _ _ _ _ _ _ _ _ _ _ _ _ _ _ _ _ _ _ _ C hK FU _ _ _ _ _ _ _ _ _ _ _ hP hD hS (lv_sub hl [1, 2, 3, 5, 0] rfl) hf (by omega) (by omega)
set_option maxHeartbeats 4000000 in
set_option maxRecDepth 100000 in
theorem c_md_get (l : Launch) (G : va_G) (cI cL cZ cB : ClassId) (q : Nat) (A : Nat → Nat) (z : Ms) (sz : Nat) (p0 : Int32) (p1 : Int32) (O0 : Ms × Int32) (hf : md_get z p0 p1 = some O0) : Met l yX4_get vX4_get { frames := 4, cells := 0, slots := 0, locals := 99 } (gPc G vwCl (mt cI cL cZ cB) [.ref q, .int p0, .int p1] (mw cI cL cZ cB q A z) sz) (qWi G vwCl (mt cI cL cZ cB) (mw cI cL cZ cB q A z) sz (mw cI cL cZ cB q) O0) 0 0 (va_A (mw cI cL cZ cB q A z) sz) := by
  refine gMet (by decide) rfl (Nat.le_of_ble_eq_true rfl) ?_
  intro p e s m below meth c ls C hK hP hD hsz hl
  subst hsz
  obtain ⟨hx, hb, hr, hml, hown, hts, hlocks⟩ := id C
  have FX : CallFix p m c cX4_get 5 s _ vX4_get RX4 := ⟨hx, hb, hml, hown, hts⟩
  have hA : ∀ q9 : Nat, s.heap.size ≤ q9 → va_A (mw cI cL cZ cB q A z) s.heap.size q9 := fun q9 h => Or.inr h
  have hS : va_S (va_A (mw cI cL cZ cB q A z) s.heap.size) s.heap s.heap [] := va_S.rf
  have hl : lv_has ls 5 [(0, .ref q), (1, .int p0), (2, .int p1)] := hl
  unfold md_get at hf
  refine lv_aload_n hx hb dX4_get_0 rfl (lv_at hl 0 rfl) ?_
  refine lv_aload_n hx hb dX4_get_1 rfl (lv_at hl 0 rfl) ?_
  refine lv_iload_n hx hb dX4_get_2 rfl (lv_at hl 1 rfl) ?_
  refine lv_iload_n hx hb dX4_get_3 rfl (lv_at hl 2 rfl) ?_
  refine lv_iconst (v := 1) hx hb dX4_get_4 (by decide) ?_
  obtain ⟨r1, ho1, hf⟩ := of_b0 hf
  refine gcRi (gV FX [.int p0, .int p1, .int 1] (c_md_wrong l G cI cL cZ cB q A z _ p0 p1 1 _ ho1) (cwV 3 hts (gi_V wm_158 wm_159 wm_160 wm_6 wm_161) rfl rfl rfl hdV_X4_wrong ⟨Nat.le_of_ble_eq_true rfl, Nat.le_of_ble_eq_true rfl⟩) hK hP hD 0 rfl rfl rfl hl.1 (Nat.le_of_ble_eq_true rfl) dX4_get_5 ⟨by show _ ≤ 0; omega, by show _ ≤ 0; omega⟩) hS hD hA (fun H locs hP hS => ?_)
  refine va_put (D := G) (ci := 4) (v := .int r1) (ty := .int) (C := RX4) (T := TX4) (N := 32) hx hb hts (fun w h => .tail _ (wl_X4 w h)) tyX4 tyX4_ok nmX4 hown hK hP hD hS 0 rfl rfl 0 (by decide) (hts _ (.tail _ wm_0)) (fun _ h9 => h9) rfl (by decide +kernel) rfl rfl (Nat.le_of_ble_eq_true rfl) dX4_get_8 (fun H locs hP hD hS => ?_)
  have hP : va_P G vwCl (mw cI cL cZ cB q A (Ms.sthr z r1)) H := hP
  have hD : va_D _ (mw cI cL cZ cB q A (Ms.sthr z r1)) := hD
  refine lv_aload_n hx hb dX4_get_11 rfl (lv_at hl 0 rfl) ?_
  refine va_get (D := G) (ci := 4) (v := .int r1) (C := RX4) (T := TX4) (N := 32) hx hb hts (fun w h => .tail _ (wl_X4 w h)) hown hK hP 0 rfl rfl 0 (by decide) (hts _ (.tail _ wm_0)) (fun _ h9 => h9) rfl dX4_get_12 ?_
  refine lv_if_le (tgt := 20) hx hb dX4_get_15 (by decide) (fun c2 => ?_) (fun c2 => ?_)
  · have hf := (if_pos c2).symm.trans hf
    refine lv_aload_n hx hb dX4_get_20 rfl (lv_at hl 0 rfl) ?_
    refine va_get (D := G) (ci := 4) (v := .ref (A 1)) (C := RX4) (T := TX4) (N := 32) hx hb hts (fun w h => .tail _ (wl_X4 w h)) hown hK hP 0 rfl rfl 7 (by decide) (hts _ (.tail _ wm_1)) (fun _ h9 => h9) rfl dX4_get_21 ?_
    refine lv_iload_n hx hb dX4_get_24 rfl (lv_at hl 1 rfl) ?_
    obtain ⟨hg3, hf⟩ := of_gd hf
    refine va_iald (f := (Ms.atg z)) (n := (Ms.ntg z)) hx hb hK hP 1 0 rfl rfl (inb_in hg3) dX4_get_25 ?_
    refine lv_istore_n (lv' := [(3, .int ((Ms.atg z) p0.toNatClampNeg)), (0, .ref q), (1, .int p0), (2, .int p1)]) hx hb dX4_get_26 rfl hl (by decide) rfl (fun ls hl => ?_)
    refine lv_aload_n hx hb dX4_get_27 rfl (lv_at hl 1 rfl) ?_
    refine lv_iload_n hx hb dX4_get_28 rfl (lv_at hl 2 rfl) ?_
    refine lv_iload_n hx hb dX4_get_29 rfl (lv_at hl 3 rfl) ?_
    obtain ⟨r4, ho4, hf⟩ := of_b0 hf
    refine gcRi (gV FX [.int p0, .int p1] (c_md_find l G cI cL cZ cB q A (Ms.sthr z r1) _ p0 p1 _ ho4) (cwV 2 hts (gi_V wm_154 wm_155 wm_156 wm_6 wm_157) rfl rfl rfl hdV_X4_find ⟨Nat.le_of_ble_eq_true rfl, Nat.le_of_ble_eq_true rfl⟩) hK hP hD 0 rfl rfl rfl hl.1 (Nat.le_of_ble_eq_true rfl) dX4_get_30 ⟨by show _ ≤ 0; omega, by show _ ≤ 0; omega⟩) hS hD hA (fun H locs hP hS => ?_)
    refine lv_istore (lv' := [(4, .int r4), (3, .int ((Ms.atg z) p0.toNatClampNeg)), (0, .ref q), (1, .int p0), (2, .int p1)]) hx hb dX4_get_33 hl (by decide) rfl (fun ls hl => ?_)
    refine lv_iload hx hb dX4_get_35 (lv_at hl 0 rfl) ?_
    refine lv_if_ge (tgt := 42) hx hb dX4_get_37 (by decide) (fun c5 => ?_) (fun c5 => ?_)
    · have hf := (if_pos c5).symm.trans hf
      refine lv_aload_n hx hb dX4_get_42 rfl (lv_at hl 2 rfl) ?_
      refine lv_iload hx hb dX4_get_43 (lv_at hl 0 rfl) ?_
      refine lv_iload_n hx hb dX4_get_45 rfl (lv_at hl 4 rfl) ?_
      refine lv_aload_n hx hb dX4_get_46 rfl (lv_at hl 2 rfl) ?_
      refine va_get (D := G) (ci := 4) (v := .ref (A 6)) (C := RX4) (T := TX4) (N := 32) hx hb hts (fun w h => .tail _ (wl_X4 w h)) hown hK hP 0 rfl rfl 13 (by decide) (hts _ (.tail _ wm_9)) (fun _ h9 => h9) rfl dX4_get_47 ?_
      refine lv_iload_n hx hb dX4_get_50 rfl (lv_at hl 1 rfl) ?_
      obtain ⟨hg6, hf⟩ := of_gd hf
      refine va_iald (f := (Ms.ake z)) (n := (Ms.nke z)) hx hb hK hP 6 0 rfl rfl (inb_in hg6) dX4_get_51 ?_
      refine lv_aload_n hx hb dX4_get_52 rfl (lv_at hl 2 rfl) ?_
      refine va_get (D := G) (ci := 4) (v := .ref (A 6)) (C := RX4) (T := TX4) (N := 32) hx hb hts (fun w h => .tail _ (wl_X4 w h)) hown hK hP 0 rfl rfl 13 (by decide) (hts _ (.tail _ wm_9)) (fun _ h9 => h9) rfl dX4_get_53 ?_
      refine lv_iload_n hx hb dX4_get_56 rfl (lv_at hl 1 rfl) ?_
      obtain ⟨hg7, hf⟩ := of_gd hf
      refine va_iald (f := (Ms.ake z)) (n := (Ms.nke z)) hx hb hK hP 6 0 rfl rfl (inb_in hg7) dX4_get_57 ?_
      refine lv_aload_n hx hb dX4_get_58 rfl (lv_at hl 2 rfl) ?_
      refine va_get (D := G) (ci := 4) (v := .ref (A 7)) (C := RX4) (T := TX4) (N := 32) hx hb hts (fun w h => .tail _ (wl_X4 w h)) hown hK hP 0 rfl rfl 14 (by decide) (hts _ (.tail _ wm_10)) (fun _ h9 => h9) rfl dX4_get_59 ?_
      refine lv_iload_n hx hb dX4_get_62 rfl (lv_at hl 1 rfl) ?_
      obtain ⟨hg8, hf⟩ := of_gd hf
      refine va_iald (f := (Ms.ava z)) (n := (Ms.nva z)) hx hb hK hP 7 0 rfl rfl (inb_in hg8) dX4_get_63 ?_
      refine lv_iadd hx hb dX4_get_64 ?_
      obtain ⟨z9, o9, ho9, hf⟩ := of_bw hf
      refine gcWv (gV FX [.int r4, .int p1, .int ((Ms.ake z) ((Ms.atg z) p0.toNatClampNeg).toNatClampNeg), .int (((Ms.ake z) ((Ms.atg z) p0.toNatClampNeg).toNatClampNeg) + ((Ms.ava z) ((Ms.atg z) p0.toNatClampNeg).toNatClampNeg))] (c_md_show l G cI cL cZ cB q A (Ms.sthr z r1) _ r4 p1 ((Ms.ake z) ((Ms.atg z) p0.toNatClampNeg).toNatClampNeg) (((Ms.ake z) ((Ms.atg z) p0.toNatClampNeg).toNatClampNeg) + ((Ms.ava z) ((Ms.atg z) p0.toNatClampNeg).toNatClampNeg)) _ ho9) (cwV 4 hts (gi_V wm_162 wm_163 wm_164 wm_6 wm_165) rfl rfl rfl hdV_X4_show ⟨Nat.le_of_ble_eq_true rfl, Nat.le_of_ble_eq_true rfl⟩) hK hP hD 0 rfl rfl rfl hl.1 (Nat.le_of_ble_eq_true rfl) dX4_get_65 ⟨by show _ ≤ 0; omega, by show _ ≤ 0; omega⟩) hS hD hA (fun A H locs hP hD hS => ?_)
      refine lv_aload_n hx hb dX4_get_68 rfl (lv_at hl 2 rfl) ?_
      refine va_get (D := G) (ci := 4) (v := .ref (A 19)) (C := RX4) (T := TX4) (N := 32) hx hb hts (fun w h => .tail _ (wl_X4 w h)) hown hK hP 0 rfl rfl 28 (by decide) (hts _ (.tail _ wm_29)) (fun _ h9 => h9) rfl dX4_get_69 ?_
      refine lv_iload hx hb dX4_get_72 (lv_at hl 0 rfl) ?_
      obtain ⟨hg10, hf⟩ := of_gd hf
      refine va_iald (f := (Ms.aeo z9)) (n := (Ms.neo z9)) hx hb hK hP 19 0 rfl rfl (inb_in hg10) dX4_get_74 ?_
      obtain rfl := Option.some.inj hf
      exact grWi hx hb hr hlocks hP hK hD hS dX4_get_75 (by omega) (by omega)
    · have hf := (if_neg c5).symm.trans hf
      refine lv_iconst (v := (-1)) hx hb dX4_get_40 (by decide) ?_
      obtain rfl := Option.some.inj hf
      exact grWi hx hb hr hlocks hP hK hD hS dX4_get_41 (by omega) (by omega)
  · have hf := (if_neg c2).symm.trans hf
    refine lv_iconst (v := 0) hx hb dX4_get_18 (by decide) ?_
    obtain rfl := Option.some.inj hf
    exact grWi hx hb hr hlocks hP hK hD hS dX4_get_19 (by omega) (by omega)
def At_md_remove_l44 (l : Launch) (G : va_G) (cI cL cZ cB : ClassId) (q : Nat) (w : va_W) (p : Program) (e : Env) (s : State) (m : MethodId) (args : Array Value) (below : List Frame) (meth : Method) (c : Code) (O0 : Ms × Int32) (mcT msT : Nat) (F : Int32 → Int32 → Ms → Option (Ms × Int32)) : Prop := ∀ (A : Nat → Nat) (z : Ms) (x4 : Int32) (x5 : Int32) (H : Heap) (locs : List Loc) (ls : Array Slot) (cells slots : Nat), va_P G vwCl (mw cI cL cZ cB q A z) H → va_D (va_A w s.heap.size) (mw cI cL cZ cB q A z) → va_S (va_A w s.heap.size) s.heap H locs → lv_has ls 6 [(0, .ref q), (4, .int x4), (5, .int x5)] → F x4 x5 z = some O0 → cells + 0 ≤ mcT → slots + 0 ≤ msT → W p l e { frames := 4, cells := mcT, slots := msT, locals := 99 } s m args below meth c H locs cells slots (MQ below (qWi G vwCl (mt cI cL cZ cB) w s.heap.size (mw cI cL cZ cB q) O0) args s mcT msT (va_A w s.heap.size)) (F0 m 44 ls [])
set_option maxHeartbeats 4000000 in
set_option maxRecDepth 100000 in
theorem L_md_remove_l44 (l : Launch) (G : va_G) (cI cL cZ cB : ClassId) (q : Nat) (w : va_W) (p : Program) (e : Env) (s : State) (m : MethodId) (args : Array Value) (below : List Frame) (meth : Method) (c : Code) (O0 : Ms × Int32) (mcT msT : Nat) (C : MC p s m args meth c cX4_remove 6 (some .int) RX4 vX4_remove) (hK : va_K G vwCl (mt cI cL cZ cB) s) : ∀ n : Nat, At_md_remove_l44 l G cI cL cZ cB q w p e s m args below meth c O0 mcT msT (md_remove_l44 n) := by
  obtain ⟨hx, hb, hr, hml, hown, hts, hlocks⟩ := id C
  have FX : CallFix p m c cX4_remove 6 s args vX4_remove RX4 := ⟨hx, hb, hml, hown, hts⟩
  have hA : ∀ q9 : Nat, s.heap.size ≤ q9 → va_A w s.heap.size q9 := fun q9 h => Or.inr h
  intro n
  induction n with
  | zero =>
    intro A z x4 x5 H locs ls cells slots hP hD hS hl hf hcc hss
    exact nomatch (show none = some _ from hf)
  | succ n ih =>
    intro A z x4 x5 H locs ls cells slots hP hD hS hl hf hcc hss
    rw [md_remove_l44] at hf
    refine lv_iload hx hb dX4_remove_44 (lv_at hl 2 rfl) ?_
    refine lv_iconst (v := 1) hx hb dX4_remove_46 (by decide) ?_
    refine lv_iadd hx hb dX4_remove_47 ?_
    refine lv_aload_n hx hb dX4_remove_48 rfl (lv_at hl 0 rfl) ?_
    refine va_get (D := G) (ci := 4) (v := .int (Ms.ent z)) (C := RX4) (T := TX4) (N := 32) hx hb hts (fun w h => .tail _ (wl_X4 w h)) hown hK hP 0 rfl rfl 31 (by decide) (hts _ (.tail _ wm_24)) (fun _ h9 => h9) rfl dX4_remove_49 ?_
    refine lv_icmp_ge (tgt := 71) hx hb dX4_remove_52 (by decide) (fun c6 => ?_) (fun c6 => ?_)
    · have hf := (if_pos c6).symm.trans hf
      refine lv_aload_n hx hb dX4_remove_71 rfl (lv_at hl 0 rfl) ?_
      refine lv_dup hx hb dX4_remove_72 rfl ?_
      refine va_get (D := G) (ci := 4) (v := .int (Ms.ent z)) (C := RX4) (T := TX4) (N := 32) hx hb hts (fun w h => .tail _ (wl_X4 w h)) hown hK hP 0 rfl rfl 31 (by decide) (hts _ (.tail _ wm_24)) (fun _ h9 => h9) rfl dX4_remove_73 ?_
      refine lv_iconst (v := 1) hx hb dX4_remove_76 (by decide) ?_
      refine lv_isub hx hb dX4_remove_77 ?_
      refine va_put (D := G) (ci := 4) (v := .int ((Ms.ent z) - 1)) (ty := .int) (C := RX4) (T := TX4) (N := 32) hx hb hts (fun w h => .tail _ (wl_X4 w h)) tyX4 tyX4_ok nmX4 hown hK hP hD hS 0 rfl rfl 31 (by decide) (hts _ (.tail _ wm_24)) (fun _ h9 => h9) rfl (by decide +kernel) rfl rfl (Nat.le_of_ble_eq_true rfl) dX4_remove_78 (fun H locs hP hD hS => ?_)
      have hP : va_P G vwCl (mw cI cL cZ cB q A (Ms.sent z ((Ms.ent z) - 1))) H := hP
      have hD : va_D _ (mw cI cL cZ cB q A (Ms.sent z ((Ms.ent z) - 1))) := hD
      refine lv_iload hx hb dX4_remove_81 (lv_at hl 1 rfl) ?_
      obtain rfl := Option.some.inj hf
      exact grWi hx hb hr hlocks hP hK hD hS dX4_remove_83 (by omega) (by omega)
    · have hf := (if_neg c6).symm.trans hf
      refine lv_aload_n hx hb dX4_remove_55 rfl (lv_at hl 0 rfl) ?_
      refine lv_iload hx hb dX4_remove_56 (lv_at hl 2 rfl) ?_
      refine lv_iconst (v := 1) hx hb dX4_remove_58 (by decide) ?_
      refine lv_iadd hx hb dX4_remove_59 ?_
      refine lv_iload hx hb dX4_remove_60 (lv_at hl 2 rfl) ?_
      obtain ⟨z7, o9, ho7, hf⟩ := of_bw hf
      refine gcWv (gV FX [.int (x5 + 1), .int x5] (c_md_moveEntry l G cI cL cZ cB q A z _ (x5 + 1) x5 _ ho7) (cwV 2 hts (gi_V wm_34 wm_35 wm_36 wm_6 wm_37) rfl rfl rfl hdV_X4_moveEntry ⟨Nat.le_of_ble_eq_true rfl, Nat.le_of_ble_eq_true rfl⟩) hK hP hD 0 rfl rfl rfl hl.1 (Nat.le_of_ble_eq_true rfl) dX4_remove_62 ⟨by show _ ≤ mcT; omega, by show _ ≤ msT; omega⟩) hS hD hA (fun A H locs hP hD hS => ?_)
      refine lv_iinc (v := (x5 + 1)) (lv' := [(5, .int (x5 + 1)), (0, .ref q), (4, .int x4)]) hx hb dX4_remove_65 hl (k := 2) rfl rfl (by decide) rfl (fun ls hl => ?_)
      refine lv_goto (tgt := 44) hx hb dX4_remove_68 (by decide) ?_
      exact ih _ _ _ _ _ _ _ _ _ hP hD hS (lv_sub hl [1, 2, 0] rfl) hf (by omega) (by omega)
set_option maxHeartbeats 4000000 in
set_option maxRecDepth 100000 in
theorem c_md_remove (l : Launch) (G : va_G) (cI cL cZ cB : ClassId) (q : Nat) (A : Nat → Nat) (z : Ms) (sz : Nat) (p0 : Int32) (p1 : Int32) (O0 : Ms × Int32) (hf : md_remove z p0 p1 = some O0) : Met l yX4_remove vX4_remove { frames := 4, cells := 0, slots := 0, locals := 99 } (gPc G vwCl (mt cI cL cZ cB) [.ref q, .int p0, .int p1] (mw cI cL cZ cB q A z) sz) (qWi G vwCl (mt cI cL cZ cB) (mw cI cL cZ cB q A z) sz (mw cI cL cZ cB q) O0) 0 0 (va_A (mw cI cL cZ cB q A z) sz) := by
  refine gMet (by decide) rfl (Nat.le_of_ble_eq_true rfl) ?_
  intro p e s m below meth c ls C hK hP hD hsz hl
  subst hsz
  obtain ⟨hx, hb, hr, hml, hown, hts, hlocks⟩ := id C
  have FX : CallFix p m c cX4_remove 6 s _ vX4_remove RX4 := ⟨hx, hb, hml, hown, hts⟩
  have hA : ∀ q9 : Nat, s.heap.size ≤ q9 → va_A (mw cI cL cZ cB q A z) s.heap.size q9 := fun q9 h => Or.inr h
  have hS : va_S (va_A (mw cI cL cZ cB q A z) s.heap.size) s.heap s.heap [] := va_S.rf
  have hl : lv_has ls 6 [(0, .ref q), (1, .int p0), (2, .int p1)] := hl
  unfold md_remove at hf
  refine lv_aload_n hx hb dX4_remove_0 rfl (lv_at hl 0 rfl) ?_
  refine lv_aload_n hx hb dX4_remove_1 rfl (lv_at hl 0 rfl) ?_
  refine lv_iload_n hx hb dX4_remove_2 rfl (lv_at hl 1 rfl) ?_
  refine lv_iload_n hx hb dX4_remove_3 rfl (lv_at hl 2 rfl) ?_
  refine lv_iconst (v := 1) hx hb dX4_remove_4 (by decide) ?_
  obtain ⟨r1, ho1, hf⟩ := of_b0 hf
  refine gcRi (gV FX [.int p0, .int p1, .int 1] (c_md_wrong l G cI cL cZ cB q A z _ p0 p1 1 _ ho1) (cwV 3 hts (gi_V wm_158 wm_159 wm_160 wm_6 wm_161) rfl rfl rfl hdV_X4_wrong ⟨Nat.le_of_ble_eq_true rfl, Nat.le_of_ble_eq_true rfl⟩) hK hP hD 0 rfl rfl rfl hl.1 (Nat.le_of_ble_eq_true rfl) dX4_remove_5 ⟨by show _ ≤ 0; omega, by show _ ≤ 0; omega⟩) hS hD hA (fun H locs hP hS => ?_)
  refine va_put (D := G) (ci := 4) (v := .int r1) (ty := .int) (C := RX4) (T := TX4) (N := 32) hx hb hts (fun w h => .tail _ (wl_X4 w h)) tyX4 tyX4_ok nmX4 hown hK hP hD hS 0 rfl rfl 0 (by decide) (hts _ (.tail _ wm_0)) (fun _ h9 => h9) rfl (by decide +kernel) rfl rfl (Nat.le_of_ble_eq_true rfl) dX4_remove_8 (fun H locs hP hD hS => ?_)
  have hP : va_P G vwCl (mw cI cL cZ cB q A (Ms.sthr z r1)) H := hP
  have hD : va_D _ (mw cI cL cZ cB q A (Ms.sthr z r1)) := hD
  refine lv_aload_n hx hb dX4_remove_11 rfl (lv_at hl 0 rfl) ?_
  refine va_get (D := G) (ci := 4) (v := .int r1) (C := RX4) (T := TX4) (N := 32) hx hb hts (fun w h => .tail _ (wl_X4 w h)) hown hK hP 0 rfl rfl 0 (by decide) (hts _ (.tail _ wm_0)) (fun _ h9 => h9) rfl dX4_remove_12 ?_
  refine lv_if_le (tgt := 20) hx hb dX4_remove_15 (by decide) (fun c2 => ?_) (fun c2 => ?_)
  · have hf := (if_pos c2).symm.trans hf
    refine lv_aload_n hx hb dX4_remove_20 rfl (lv_at hl 0 rfl) ?_
    refine lv_iload_n hx hb dX4_remove_21 rfl (lv_at hl 1 rfl) ?_
    refine lv_iload_n hx hb dX4_remove_22 rfl (lv_at hl 2 rfl) ?_
    obtain ⟨r3, ho3, hf⟩ := of_b0 hf
    refine gcRi (gV FX [.int p0, .int p1] (c_md_find l G cI cL cZ cB q A (Ms.sthr z r1) _ p0 p1 _ ho3) (cwV 2 hts (gi_V wm_154 wm_155 wm_156 wm_6 wm_157) rfl rfl rfl hdV_X4_find ⟨Nat.le_of_ble_eq_true rfl, Nat.le_of_ble_eq_true rfl⟩) hK hP hD 0 rfl rfl rfl hl.1 (Nat.le_of_ble_eq_true rfl) dX4_remove_23 ⟨by show _ ≤ 0; omega, by show _ ≤ 0; omega⟩) hS hD hA (fun H locs hP hS => ?_)
    refine lv_istore_n (lv' := [(3, .int r3), (0, .ref q), (1, .int p0), (2, .int p1)]) hx hb dX4_remove_26 rfl hl (by decide) rfl (fun ls hl => ?_)
    refine lv_iload_n hx hb dX4_remove_27 rfl (lv_at hl 0 rfl) ?_
    refine lv_if_ge (tgt := 33) hx hb dX4_remove_28 (by decide) (fun c4 => ?_) (fun c4 => ?_)
    · have hf := (if_pos c4).symm.trans hf
      refine lv_aload_n hx hb dX4_remove_33 rfl (lv_at hl 1 rfl) ?_
      refine va_get (D := G) (ci := 4) (v := .ref (A 19)) (C := RX4) (T := TX4) (N := 32) hx hb hts (fun w h => .tail _ (wl_X4 w h)) hown hK hP 0 rfl rfl 28 (by decide) (hts _ (.tail _ wm_29)) (fun _ h9 => h9) rfl dX4_remove_34 ?_
      refine lv_iload_n hx hb dX4_remove_37 rfl (lv_at hl 0 rfl) ?_
      obtain ⟨hg5, hf⟩ := of_gd hf
      refine va_iald (f := (Ms.aeo z)) (n := (Ms.neo z)) hx hb hK hP 19 0 rfl rfl (inb_in hg5) dX4_remove_38 ?_
      refine lv_istore (lv' := [(4, .int ((Ms.aeo z) r3.toNatClampNeg)), (3, .int r3), (0, .ref q), (1, .int p0), (2, .int p1)]) hx hb dX4_remove_39 hl (by decide) rfl (fun ls hl => ?_)
      refine lv_iload_n hx hb dX4_remove_41 rfl (lv_at hl 1 rfl) ?_
      refine lv_istore (lv' := [(5, .int r3), (4, .int ((Ms.aeo z) r3.toNatClampNeg)), (3, .int r3), (0, .ref q), (1, .int p0), (2, .int p1)]) hx hb dX4_remove_42 hl (by decide) rfl (fun ls hl => ?_)
      exact L_md_remove_l44 _ _ _ _ _ _ _ _ _ _ _ _ _ _ _ _ _ _ _ C hK FU _ _ _ _ _ _ _ _ _ hP hD hS (lv_sub hl [3, 1, 0] rfl) hf (by omega) (by omega)
    · have hf := (if_neg c4).symm.trans hf
      refine lv_iconst (v := (-1)) hx hb dX4_remove_31 (by decide) ?_
      obtain rfl := Option.some.inj hf
      exact grWi hx hb hr hlocks hP hK hD hS dX4_remove_32 (by omega) (by omega)
  · have hf := (if_neg c2).symm.trans hf
    refine lv_iconst (v := 0) hx hb dX4_remove_18 (by decide) ?_
    obtain rfl := Option.some.inj hf
    exact grWi hx hb hr hlocks hP hK hD hS dX4_remove_19 (by omega) (by omega)
def At_md_next_j116 (l : Launch) (G : va_G) (cI cL cZ cB : ClassId) (q : Nat) (w : va_W) (p : Program) (e : Env) (s : State) (m : MethodId) (args : Array Value) (below : List Frame) (meth : Method) (c : Code) (O0 : Ms × Int32) (mcT msT : Nat) (F : Int32 → Int32 → Int32 → Int32 → Ms → Option (Ms × Int32)) : Prop := ∀ (A : Nat → Nat) (z : Ms) (x1 : Int32) (x2 : Int32) (x3 : Int32) (x4 : Int32) (H : Heap) (locs : List Loc) (ls : Array Slot) (cells slots : Nat), va_P G vwCl (mw cI cL cZ cB q A z) H → va_D (va_A w s.heap.size) (mw cI cL cZ cB q A z) → va_S (va_A w s.heap.size) s.heap H locs → lv_has ls 6 [(0, .ref q), (1, .int x1), (2, .int x2), (3, .int x3), (4, .int x4)] → F x1 x2 x3 x4 z = some O0 → cells + 0 ≤ mcT → slots + 0 ≤ msT → W p l e { frames := 1, cells := mcT, slots := msT, locals := 22 } s m args below meth c H locs cells slots (MQ below (qWi G vwCl (mt cI cL cZ cB) w s.heap.size (mw cI cL cZ cB q) O0) args s mcT msT (va_A w s.heap.size)) (F0 m 116 ls [])
def At_md_next_j106 (l : Launch) (G : va_G) (cI cL cZ cB : ClassId) (q : Nat) (w : va_W) (p : Program) (e : Env) (s : State) (m : MethodId) (args : Array Value) (below : List Frame) (meth : Method) (c : Code) (O0 : Ms × Int32) (mcT msT : Nat) (F : Int32 → Int32 → Int32 → Ms → Option (Ms × Int32)) : Prop := ∀ (A : Nat → Nat) (z : Ms) (x1 : Int32) (x2 : Int32) (x4 : Int32) (H : Heap) (locs : List Loc) (ls : Array Slot) (cells slots : Nat), va_P G vwCl (mw cI cL cZ cB q A z) H → va_D (va_A w s.heap.size) (mw cI cL cZ cB q A z) → va_S (va_A w s.heap.size) s.heap H locs → lv_has ls 6 [(0, .ref q), (1, .int x1), (2, .int x2), (4, .int x4)] → F x1 x2 x4 z = some O0 → cells + 0 ≤ mcT → slots + 0 ≤ msT → W p l e { frames := 1, cells := mcT, slots := msT, locals := 22 } s m args below meth c H locs cells slots (MQ below (qWi G vwCl (mt cI cL cZ cB) w s.heap.size (mw cI cL cZ cB q) O0) args s mcT msT (va_A w s.heap.size)) (F0 m 106 ls [])
def At_md_next_j84 (l : Launch) (G : va_G) (cI cL cZ cB : ClassId) (q : Nat) (w : va_W) (p : Program) (e : Env) (s : State) (m : MethodId) (args : Array Value) (below : List Frame) (meth : Method) (c : Code) (O0 : Ms × Int32) (mcT msT : Nat) (F : Int32 → Int32 → Int32 → Int32 → Int32 → Ms → Option (Ms × Int32)) : Prop := ∀ (A : Nat → Nat) (z : Ms) (x1 : Int32) (x2 : Int32) (x3 : Int32) (x4 : Int32) (t0 : Int32) (H : Heap) (locs : List Loc) (ls : Array Slot) (cells slots : Nat), va_P G vwCl (mw cI cL cZ cB q A z) H → va_D (va_A w s.heap.size) (mw cI cL cZ cB q A z) → va_S (va_A w s.heap.size) s.heap H locs → lv_has ls 6 [(0, .ref q), (1, .int x1), (2, .int x2), (3, .int x3), (4, .int x4)] → F x1 x2 x3 x4 t0 z = some O0 → cells + 0 ≤ mcT → slots + 0 ≤ msT → W p l e { frames := 1, cells := mcT, slots := msT, locals := 22 } s m args below meth c H locs cells slots (MQ below (qWi G vwCl (mt cI cL cZ cB) w s.heap.size (mw cI cL cZ cB q) O0) args s mcT msT (va_A w s.heap.size)) (F0 m 84 ls [.int t0])
def At_md_next_j83 (l : Launch) (G : va_G) (cI cL cZ cB : ClassId) (q : Nat) (w : va_W) (p : Program) (e : Env) (s : State) (m : MethodId) (args : Array Value) (below : List Frame) (meth : Method) (c : Code) (O0 : Ms × Int32) (mcT msT : Nat) (F : Int32 → Int32 → Int32 → Int32 → Ms → Option (Ms × Int32)) : Prop := ∀ (A : Nat → Nat) (z : Ms) (x1 : Int32) (x2 : Int32) (x3 : Int32) (x4 : Int32) (H : Heap) (locs : List Loc) (ls : Array Slot) (cells slots : Nat), va_P G vwCl (mw cI cL cZ cB q A z) H → va_D (va_A w s.heap.size) (mw cI cL cZ cB q A z) → va_S (va_A w s.heap.size) s.heap H locs → lv_has ls 6 [(0, .ref q), (1, .int x1), (2, .int x2), (3, .int x3), (4, .int x4)] → F x1 x2 x3 x4 z = some O0 → cells + 0 ≤ mcT → slots + 0 ≤ msT → W p l e { frames := 1, cells := mcT, slots := msT, locals := 22 } s m args below meth c H locs cells slots (MQ below (qWi G vwCl (mt cI cL cZ cB) w s.heap.size (mw cI cL cZ cB q) O0) args s mcT msT (va_A w s.heap.size)) (F0 m 83 ls [])
def At_md_next_l43 (l : Launch) (G : va_G) (cI cL cZ cB : ClassId) (q : Nat) (w : va_W) (p : Program) (e : Env) (s : State) (m : MethodId) (args : Array Value) (below : List Frame) (meth : Method) (c : Code) (O0 : Ms × Int32) (mcT msT : Nat) (F : Int32 → Int32 → Int32 → Int32 → Ms → Option (Ms × Int32)) : Prop := ∀ (A : Nat → Nat) (z : Ms) (x1 : Int32) (x2 : Int32) (x3 : Int32) (x4 : Int32) (H : Heap) (locs : List Loc) (ls : Array Slot) (cells slots : Nat), va_P G vwCl (mw cI cL cZ cB q A z) H → va_D (va_A w s.heap.size) (mw cI cL cZ cB q A z) → va_S (va_A w s.heap.size) s.heap H locs → lv_has ls 6 [(0, .ref q), (1, .int x1), (2, .int x2), (3, .int x3), (4, .int x4)] → F x1 x2 x3 x4 z = some O0 → cells + 0 ≤ mcT → slots + 0 ≤ msT → W p l e { frames := 1, cells := mcT, slots := msT, locals := 22 } s m args below meth c H locs cells slots (MQ below (qWi G vwCl (mt cI cL cZ cB) w s.heap.size (mw cI cL cZ cB q) O0) args s mcT msT (va_A w s.heap.size)) (F0 m 43 ls [])
def At_md_next_j26 (l : Launch) (G : va_G) (cI cL cZ cB : ClassId) (q : Nat) (w : va_W) (p : Program) (e : Env) (s : State) (m : MethodId) (args : Array Value) (below : List Frame) (meth : Method) (c : Code) (O0 : Ms × Int32) (mcT msT : Nat) (F : Int32 → Int32 → Int32 → Ms → Option (Ms × Int32)) : Prop := ∀ (A : Nat → Nat) (z : Ms) (x1 : Int32) (x2 : Int32) (t0 : Int32) (H : Heap) (locs : List Loc) (ls : Array Slot) (cells slots : Nat), va_P G vwCl (mw cI cL cZ cB q A z) H → va_D (va_A w s.heap.size) (mw cI cL cZ cB q A z) → va_S (va_A w s.heap.size) s.heap H locs → lv_has ls 6 [(0, .ref q), (1, .int x1), (2, .int x2)] → F x1 x2 t0 z = some O0 → cells + 0 ≤ mcT → slots + 0 ≤ msT → W p l e { frames := 1, cells := mcT, slots := msT, locals := 22 } s m args below meth c H locs cells slots (MQ below (qWi G vwCl (mt cI cL cZ cB) w s.heap.size (mw cI cL cZ cB q) O0) args s mcT msT (va_A w s.heap.size)) (F0 m 26 ls [.int t0, .ref q])
set_option maxHeartbeats 4000000 in
set_option maxRecDepth 100000 in
theorem L_md_next_j116 (l : Launch) (G : va_G) (cI cL cZ cB : ClassId) (q : Nat) (w : va_W) (p : Program) (e : Env) (s : State) (m : MethodId) (args : Array Value) (below : List Frame) (meth : Method) (c : Code) (O0 : Ms × Int32) (mcT msT : Nat) (C : MC p s m args meth c cX4_next 6 (some .int) RX4 vX4_next) (hK : va_K G vwCl (mt cI cL cZ cB) s) (K43 : Int32 → Int32 → Int32 → Int32 → Ms → Option (Ms × Int32)) (hK43 : At_md_next_l43 l G cI cL cZ cB q w p e s m args below meth c O0 mcT msT K43) : At_md_next_j116 l G cI cL cZ cB q w p e s m args below meth c O0 mcT msT (md_next_j116 K43 ) := by
  obtain ⟨hx, hb, hr, hml, hown, hts, hlocks⟩ := id C
  have FX : CallFix p m c cX4_next 6 s args vX4_next RX4 := ⟨hx, hb, hml, hown, hts⟩
  have hA : ∀ q9 : Nat, s.heap.size ≤ q9 → va_A w s.heap.size q9 := fun q9 h => Or.inr h
  intro A z x1 x2 x3 x4 H locs ls cells slots hP hD hS hl hf hcc hss
  unfold md_next_j116 at hf
  refine lv_iload_n hx hb dX4_next_116 rfl (lv_at hl 3 rfl) ?_
  refine lv_istore_n (lv' := [(3, .int x3), (0, .ref q), (1, .int x1), (2, .int x2), (4, .int x4)]) hx hb dX4_next_117 rfl hl (by decide) rfl (fun ls hl => ?_)
  refine lv_iinc (v := (x4 + 1)) (lv' := [(4, .int (x4 + 1)), (3, .int x3), (0, .ref q), (1, .int x1), (2, .int x2)]) hx hb dX4_next_118 hl (k := 4) rfl rfl (by decide) rfl (fun ls hl => ?_)
  refine lv_goto (tgt := 43) hx hb dX4_next_121 (by decide) ?_
  exact hK43 _ _ _ _ _ _ _ _ _ _ _ hP hD hS (lv_sub hl [2, 3, 4, 1, 0] rfl) hf (by omega) (by omega)
set_option maxHeartbeats 4000000 in
set_option maxRecDepth 100000 in
theorem L_md_next_j106 (l : Launch) (G : va_G) (cI cL cZ cB : ClassId) (q : Nat) (w : va_W) (p : Program) (e : Env) (s : State) (m : MethodId) (args : Array Value) (below : List Frame) (meth : Method) (c : Code) (O0 : Ms × Int32) (mcT msT : Nat) (C : MC p s m args meth c cX4_next 6 (some .int) RX4 vX4_next) (hK : va_K G vwCl (mt cI cL cZ cB) s) (K43 : Int32 → Int32 → Int32 → Int32 → Ms → Option (Ms × Int32)) (hK43 : At_md_next_l43 l G cI cL cZ cB q w p e s m args below meth c O0 mcT msT K43) : At_md_next_j106 l G cI cL cZ cB q w p e s m args below meth c O0 mcT msT (md_next_j106 K43 ) := by
  obtain ⟨hx, hb, hr, hml, hown, hts, hlocks⟩ := id C
  have FX : CallFix p m c cX4_next 6 s args vX4_next RX4 := ⟨hx, hb, hml, hown, hts⟩
  have hA : ∀ q9 : Nat, s.heap.size ≤ q9 → va_A w s.heap.size q9 := fun q9 h => Or.inr h
  intro A z x1 x2 x4 H locs ls cells slots hP hD hS hl hf hcc hss
  unfold md_next_j106 at hf
  refine lv_aload_n hx hb dX4_next_106 rfl (lv_at hl 0 rfl) ?_
  refine va_get (D := G) (ci := 4) (v := .ref (A 19)) (C := RX4) (T := TX4) (N := 32) hx hb hts (fun w h => .tail _ (wl_X4 w h)) hown hK hP 0 rfl rfl 28 (by decide) (hts _ (.tail _ wm_29)) (fun _ h9 => h9) rfl dX4_next_107 ?_
  refine lv_iload hx hb dX4_next_110 (lv_at hl 3 rfl) ?_
  obtain ⟨hg16, hf⟩ := of_gd hf
  refine va_iald (f := (Ms.aeo z)) (n := (Ms.neo z)) hx hb hK hP 19 0 rfl rfl (inb_in hg16) dX4_next_112 ?_
  refine lv_goto (tgt := 117) hx hb dX4_next_113 (by decide) ?_
  refine lv_istore_n (lv' := [(3, .int ((Ms.aeo z) x4.toNatClampNeg)), (0, .ref q), (1, .int x1), (2, .int x2), (4, .int x4)]) hx hb dX4_next_117 rfl hl (by decide) rfl (fun ls hl => ?_)
  refine lv_iinc (v := (x4 + 1)) (lv' := [(4, .int (x4 + 1)), (3, .int ((Ms.aeo z) x4.toNatClampNeg)), (0, .ref q), (1, .int x1), (2, .int x2)]) hx hb dX4_next_118 hl (k := 4) rfl rfl (by decide) rfl (fun ls hl => ?_)
  refine lv_goto (tgt := 43) hx hb dX4_next_121 (by decide) ?_
  exact hK43 _ _ _ _ _ _ _ _ _ _ _ hP hD hS (lv_sub hl [2, 3, 4, 1, 0] rfl) hf (by omega) (by omega)
set_option maxHeartbeats 4000000 in
set_option maxRecDepth 100000 in
theorem L_md_next_j84 (l : Launch) (G : va_G) (cI cL cZ cB : ClassId) (q : Nat) (w : va_W) (p : Program) (e : Env) (s : State) (m : MethodId) (args : Array Value) (below : List Frame) (meth : Method) (c : Code) (O0 : Ms × Int32) (mcT msT : Nat) (C : MC p s m args meth c cX4_next 6 (some .int) RX4 vX4_next) (hK : va_K G vwCl (mt cI cL cZ cB) s) (K43 : Int32 → Int32 → Int32 → Int32 → Ms → Option (Ms × Int32)) (hK43 : At_md_next_l43 l G cI cL cZ cB q w p e s m args below meth c O0 mcT msT K43) : At_md_next_j84 l G cI cL cZ cB q w p e s m args below meth c O0 mcT msT (md_next_j84 K43 ) := by
  obtain ⟨hx, hb, hr, hml, hown, hts, hlocks⟩ := id C
  have FX : CallFix p m c cX4_next 6 s args vX4_next RX4 := ⟨hx, hb, hml, hown, hts⟩
  have hA : ∀ q9 : Nat, s.heap.size ≤ q9 → va_A w s.heap.size q9 := fun q9 h => Or.inr h
  intro A z x1 x2 x3 x4 t0 H locs ls cells slots hP hD hS hl hf hcc hss
  unfold md_next_j84 at hf
  refine lv_istore (lv' := [(5, .int t0), (0, .ref q), (1, .int x1), (2, .int x2), (3, .int x3), (4, .int x4)]) hx hb dX4_next_84 hl (by decide) rfl (fun ls hl => ?_)
  refine lv_iload hx hb dX4_next_86 (lv_at hl 0 rfl) ?_
  refine lv_if_eq (tgt := 116) hx hb dX4_next_88 (by decide) (fun c12 => ?_) (fun c12 => ?_)
  · have hf := (if_pos c12).symm.trans hf
    exact L_md_next_j116 _ _ _ _ _ _ _ _ _ _ _ _ _ _ _ _ _ _ _ C hK _ hK43 _ _ _ _ _ _ _ _ _ _ _ hP hD hS (lv_sub hl [1, 2, 3, 4, 5] rfl) hf (by omega) (by omega)
  · have hf := (if_neg c12).symm.trans hf
    refine lv_iload_n hx hb dX4_next_91 rfl (lv_at hl 4 rfl) ?_
    refine lv_if_lt (tgt := 106) hx hb dX4_next_92 (by decide) (fun c13 => ?_) (fun c13 => ?_)
    · have hf := (if_pos c13).symm.trans hf
      exact L_md_next_j106 _ _ _ _ _ _ _ _ _ _ _ _ _ _ _ _ _ _ _ C hK _ hK43 _ _ _ _ _ _ _ _ _ _ hP hD hS (lv_sub hl [1, 2, 3, 5] rfl) hf (by omega) (by omega)
    · have hf := (if_neg c13).symm.trans hf
      refine lv_aload_n hx hb dX4_next_95 rfl (lv_at hl 1 rfl) ?_
      refine va_get (D := G) (ci := 4) (v := .ref (A 19)) (C := RX4) (T := TX4) (N := 32) hx hb hts (fun w h => .tail _ (wl_X4 w h)) hown hK hP 0 rfl rfl 28 (by decide) (hts _ (.tail _ wm_29)) (fun _ h9 => h9) rfl dX4_next_96 ?_
      refine lv_iload hx hb dX4_next_99 (lv_at hl 5 rfl) ?_
      obtain ⟨hg14, hf⟩ := of_gd hf
      refine va_iald (f := (Ms.aeo z)) (n := (Ms.neo z)) hx hb hK hP 19 0 rfl rfl (inb_in hg14) dX4_next_101 ?_
      refine lv_iload_n hx hb dX4_next_102 rfl (lv_at hl 4 rfl) ?_
      refine lv_icmp_ge (tgt := 116) hx hb dX4_next_103 (by decide) (fun c15 => ?_) (fun c15 => ?_)
      · have hf := (if_pos c15).symm.trans hf
        exact L_md_next_j116 _ _ _ _ _ _ _ _ _ _ _ _ _ _ _ _ _ _ _ C hK _ hK43 _ _ _ _ _ _ _ _ _ _ _ hP hD hS (lv_sub hl [1, 2, 3, 4, 5] rfl) hf (by omega) (by omega)
      · have hf := (if_neg c15).symm.trans hf
        exact L_md_next_j106 _ _ _ _ _ _ _ _ _ _ _ _ _ _ _ _ _ _ _ C hK _ hK43 _ _ _ _ _ _ _ _ _ _ hP hD hS (lv_sub hl [1, 2, 3, 5] rfl) hf (by omega) (by omega)
set_option maxHeartbeats 4000000 in
set_option maxRecDepth 100000 in
theorem L_md_next_j83 (l : Launch) (G : va_G) (cI cL cZ cB : ClassId) (q : Nat) (w : va_W) (p : Program) (e : Env) (s : State) (m : MethodId) (args : Array Value) (below : List Frame) (meth : Method) (c : Code) (O0 : Ms × Int32) (mcT msT : Nat) (C : MC p s m args meth c cX4_next 6 (some .int) RX4 vX4_next) (hK : va_K G vwCl (mt cI cL cZ cB) s) (K43 : Int32 → Int32 → Int32 → Int32 → Ms → Option (Ms × Int32)) (hK43 : At_md_next_l43 l G cI cL cZ cB q w p e s m args below meth c O0 mcT msT K43) : At_md_next_j83 l G cI cL cZ cB q w p e s m args below meth c O0 mcT msT (md_next_j83 K43 ) := by
  obtain ⟨hx, hb, hr, hml, hown, hts, hlocks⟩ := id C
  have FX : CallFix p m c cX4_next 6 s args vX4_next RX4 := ⟨hx, hb, hml, hown, hts⟩
  have hA : ∀ q9 : Nat, s.heap.size ≤ q9 → va_A w s.heap.size q9 := fun q9 h => Or.inr h
  intro A z x1 x2 x3 x4 H locs ls cells slots hP hD hS hl hf hcc hss
  unfold md_next_j83 at hf
  refine lv_iconst (v := 0) hx hb dX4_next_83 (by decide) ?_
  exact L_md_next_j84 _ _ _ _ _ _ _ _ _ _ _ _ _ _ _ _ _ _ _ C hK _ hK43 _ _ _ _ _ _ _ _ _ _ _ _ hP hD hS (lv_sub hl [0, 1, 2, 3, 4] rfl) hf (by omega) (by omega)
set_option maxHeartbeats 4000000 in
set_option maxRecDepth 100000 in
theorem L_md_next_l43 (l : Launch) (G : va_G) (cI cL cZ cB : ClassId) (q : Nat) (w : va_W) (p : Program) (e : Env) (s : State) (m : MethodId) (args : Array Value) (below : List Frame) (meth : Method) (c : Code) (O0 : Ms × Int32) (mcT msT : Nat) (C : MC p s m args meth c cX4_next 6 (some .int) RX4 vX4_next) (hK : va_K G vwCl (mt cI cL cZ cB) s) : ∀ n : Nat, At_md_next_l43 l G cI cL cZ cB q w p e s m args below meth c O0 mcT msT (md_next_l43 n) := by
  obtain ⟨hx, hb, hr, hml, hown, hts, hlocks⟩ := id C
  have FX : CallFix p m c cX4_next 6 s args vX4_next RX4 := ⟨hx, hb, hml, hown, hts⟩
  have hA : ∀ q9 : Nat, s.heap.size ≤ q9 → va_A w s.heap.size q9 := fun q9 h => Or.inr h
  intro n
  induction n with
  | zero =>
    intro A z x1 x2 x3 x4 H locs ls cells slots hP hD hS hl hf hcc hss
    exact nomatch (show none = some _ from hf)
  | succ n ih =>
    intro A z x1 x2 x3 x4 H locs ls cells slots hP hD hS hl hf hcc hss
    rw [md_next_l43] at hf
    refine lv_iload hx hb dX4_next_43 (lv_at hl 4 rfl) ?_
    refine lv_aload_n hx hb dX4_next_45 rfl (lv_at hl 0 rfl) ?_
    refine va_get (D := G) (ci := 4) (v := .int (Ms.ent z)) (C := RX4) (T := TX4) (N := 32) hx hb hts (fun w h => .tail _ (wl_X4 w h)) hown hK hP 0 rfl rfl 31 (by decide) (hts _ (.tail _ wm_24)) (fun _ h9 => h9) rfl dX4_next_46 ?_
    refine lv_icmp_ge (tgt := 124) hx hb dX4_next_49 (by decide) (fun c6 => ?_) (fun c6 => ?_)
    · have hf := (if_pos c6).symm.trans hf
      refine lv_iload_n hx hb dX4_next_124 rfl (lv_at hl 3 rfl) ?_
      obtain rfl := Option.some.inj hf
      exact grWi hx hb hr hlocks hP hK hD hS dX4_next_125 (by omega) (by omega)
    · have hf := (if_neg c6).symm.trans hf
      refine lv_aload_n hx hb dX4_next_52 rfl (lv_at hl 0 rfl) ?_
      refine va_get (D := G) (ci := 4) (v := .ref (A 18)) (C := RX4) (T := TX4) (N := 32) hx hb hts (fun w h => .tail _ (wl_X4 w h)) hown hK hP 0 rfl rfl 27 (by decide) (hts _ (.tail _ wm_25)) (fun _ h9 => h9) rfl dX4_next_53 ?_
      refine lv_iload hx hb dX4_next_56 (lv_at hl 4 rfl) ?_
      obtain ⟨hg7, hf⟩ := of_gd hf
      refine va_iald (f := (Ms.aem z)) (n := (Ms.nem z)) hx hb hK hP 18 0 rfl rfl (inb_in hg7) dX4_next_58 ?_
      refine lv_aload_n hx hb dX4_next_59 rfl (lv_at hl 0 rfl) ?_
      refine va_get (D := G) (ci := 4) (v := .ref (A 1)) (C := RX4) (T := TX4) (N := 32) hx hb hts (fun w h => .tail _ (wl_X4 w h)) hown hK hP 0 rfl rfl 7 (by decide) (hts _ (.tail _ wm_1)) (fun _ h9 => h9) rfl dX4_next_60 ?_
      refine lv_iload_n hx hb dX4_next_63 rfl (lv_at hl 1 rfl) ?_
      obtain ⟨hg8, hf⟩ := of_gd hf
      refine va_iald (f := (Ms.atg z)) (n := (Ms.ntg z)) hx hb hK hP 1 0 rfl rfl (inb_in hg8) dX4_next_64 ?_
      refine lv_icmp_ne (tgt := 83) hx hb dX4_next_65 (by decide) (fun c9 => ?_) (fun c9 => ?_)
      · have hf := (if_neg c9).symm.trans hf
        exact L_md_next_j83 _ _ _ _ _ _ _ _ _ _ _ _ _ _ _ _ _ _ _ C hK _ ih _ _ _ _ _ _ _ _ _ _ _ hP hD hS (lv_sub hl [0, 1, 2, 3, 4] rfl) hf (by omega) (by omega)
      · have hf := (if_pos c9).symm.trans hf
        refine lv_aload_n hx hb dX4_next_68 rfl (lv_at hl 0 rfl) ?_
        refine va_get (D := G) (ci := 4) (v := .ref (A 19)) (C := RX4) (T := TX4) (N := 32) hx hb hts (fun w h => .tail _ (wl_X4 w h)) hown hK hP 0 rfl rfl 28 (by decide) (hts _ (.tail _ wm_29)) (fun _ h9 => h9) rfl dX4_next_69 ?_
        refine lv_iload hx hb dX4_next_72 (lv_at hl 4 rfl) ?_
        obtain ⟨hg10, hf⟩ := of_gd hf
        refine va_iald (f := (Ms.aeo z)) (n := (Ms.neo z)) hx hb hK hP 19 0 rfl rfl (inb_in hg10) dX4_next_74 ?_
        refine lv_iload_n hx hb dX4_next_75 rfl (lv_at hl 2 rfl) ?_
        refine lv_icmp_lt (tgt := 83) hx hb dX4_next_76 (by decide) (fun c11 => ?_) (fun c11 => ?_)
        · have hf := (if_pos c11).symm.trans hf
          exact L_md_next_j83 _ _ _ _ _ _ _ _ _ _ _ _ _ _ _ _ _ _ _ C hK _ ih _ _ _ _ _ _ _ _ _ _ _ hP hD hS (lv_sub hl [0, 1, 2, 3, 4] rfl) hf (by omega) (by omega)
        · have hf := (if_neg c11).symm.trans hf
          refine lv_iconst (v := 1) hx hb dX4_next_79 (by decide) ?_
          refine lv_goto (tgt := 84) hx hb dX4_next_80 (by decide) ?_
          exact L_md_next_j84 _ _ _ _ _ _ _ _ _ _ _ _ _ _ _ _ _ _ _ C hK _ ih _ _ _ _ _ _ _ _ _ _ _ _ hP hD hS (lv_sub hl [0, 1, 2, 3, 4] rfl) hf (by omega) (by omega)
set_option maxHeartbeats 4000000 in
set_option maxRecDepth 100000 in
theorem L_md_next_j26 (l : Launch) (G : va_G) (cI cL cZ cB : ClassId) (q : Nat) (w : va_W) (p : Program) (e : Env) (s : State) (m : MethodId) (args : Array Value) (below : List Frame) (meth : Method) (c : Code) (O0 : Ms × Int32) (mcT msT : Nat) (C : MC p s m args meth c cX4_next 6 (some .int) RX4 vX4_next) (hK : va_K G vwCl (mt cI cL cZ cB) s) : At_md_next_j26 l G cI cL cZ cB q w p e s m args below meth c O0 mcT msT md_next_j26 := by
  obtain ⟨hx, hb, hr, hml, hown, hts, hlocks⟩ := id C
  have FX : CallFix p m c cX4_next 6 s args vX4_next RX4 := ⟨hx, hb, hml, hown, hts⟩
  have hA : ∀ q9 : Nat, s.heap.size ≤ q9 → va_A w s.heap.size q9 := fun q9 h => Or.inr h
  intro A z x1 x2 t0 H locs ls cells slots hP hD hS hl hf hcc hss
  unfold md_next_j26 at hf
  refine va_put (D := G) (ci := 4) (v := .int t0) (ty := .int) (C := RX4) (T := TX4) (N := 32) hx hb hts (fun w h => .tail _ (wl_X4 w h)) tyX4 tyX4_ok nmX4 hown hK hP hD hS 0 rfl rfl 0 (by decide) (hts _ (.tail _ wm_0)) (fun _ h9 => h9) rfl (by decide +kernel) rfl rfl (Nat.le_of_ble_eq_true rfl) dX4_next_26 (fun H locs hP hD hS => ?_)
  have hP : va_P G vwCl (mw cI cL cZ cB q A (Ms.sthr z t0)) H := hP
  have hD : va_D _ (mw cI cL cZ cB q A (Ms.sthr z t0)) := hD
  refine lv_aload_n hx hb dX4_next_29 rfl (lv_at hl 0 rfl) ?_
  refine va_get (D := G) (ci := 4) (v := .int t0) (C := RX4) (T := TX4) (N := 32) hx hb hts (fun w h => .tail _ (wl_X4 w h)) hown hK hP 0 rfl rfl 0 (by decide) (hts _ (.tail _ wm_0)) (fun _ h9 => h9) rfl dX4_next_30 ?_
  refine lv_if_le (tgt := 38) hx hb dX4_next_33 (by decide) (fun c5 => ?_) (fun c5 => ?_)
  · have hf := (if_pos c5).symm.trans hf
    refine lv_iconst (v := (-1)) hx hb dX4_next_38 (by decide) ?_
    refine lv_istore_n (lv' := [(3, .int (-1)), (0, .ref q), (1, .int x1), (2, .int x2)]) hx hb dX4_next_39 rfl hl (by decide) rfl (fun ls hl => ?_)
    refine lv_iconst (v := 0) hx hb dX4_next_40 (by decide) ?_
    refine lv_istore (lv' := [(4, .int 0), (3, .int (-1)), (0, .ref q), (1, .int x1), (2, .int x2)]) hx hb dX4_next_41 hl (by decide) rfl (fun ls hl => ?_)
    exact L_md_next_l43 _ _ _ _ _ _ _ _ _ _ _ _ _ _ _ _ _ _ _ C hK FU _ _ _ _ _ _ _ _ _ _ _ hP hD hS (lv_sub hl [2, 3, 4, 1, 0] rfl) hf (by omega) (by omega)
  · have hf := (if_neg c5).symm.trans hf
    refine lv_iconst (v := 0) hx hb dX4_next_36 (by decide) ?_
    obtain rfl := Option.some.inj hf
    exact grWi hx hb hr hlocks hP hK hD hS dX4_next_37 (by omega) (by omega)
set_option maxHeartbeats 4000000 in
set_option maxRecDepth 100000 in
theorem c_md_next (l : Launch) (G : va_G) (cI cL cZ cB : ClassId) (q : Nat) (A : Nat → Nat) (z : Ms) (sz : Nat) (p0 : Int32) (p1 : Int32) (O0 : Ms × Int32) (hf : md_next z p0 p1 = some O0) : Met l yX4_next vX4_next { frames := 1, cells := 0, slots := 0, locals := 22 } (gPc G vwCl (mt cI cL cZ cB) [.ref q, .int p0, .int p1] (mw cI cL cZ cB q A z) sz) (qWi G vwCl (mt cI cL cZ cB) (mw cI cL cZ cB q A z) sz (mw cI cL cZ cB q) O0) 0 0 (va_A (mw cI cL cZ cB q A z) sz) := by
  refine gMet (by decide) rfl (Nat.le_of_ble_eq_true rfl) ?_
  intro p e s m below meth c ls C hK hP hD hsz hl
  subst hsz
  obtain ⟨hx, hb, hr, hml, hown, hts, hlocks⟩ := id C
  have FX : CallFix p m c cX4_next 6 s _ vX4_next RX4 := ⟨hx, hb, hml, hown, hts⟩
  have hA : ∀ q9 : Nat, s.heap.size ≤ q9 → va_A (mw cI cL cZ cB q A z) s.heap.size q9 := fun q9 h => Or.inr h
  have hS : va_S (va_A (mw cI cL cZ cB q A z) s.heap.size) s.heap s.heap [] := va_S.rf
  have hl : lv_has ls 6 [(0, .ref q), (1, .int p0), (2, .int p1)] := hl
  unfold md_next at hf
  refine lv_aload_n hx hb dX4_next_0 rfl (lv_at hl 0 rfl) ?_
  refine lv_iload_n hx hb dX4_next_1 rfl (lv_at hl 1 rfl) ?_
  obtain ⟨r1, ho1, hf⟩ := of_b0 hf
  refine gcRi (gS FX [.int p0] (c_md_isRegister l G cI cL cZ cB q A z _ p0 _ ho1) (cwS 1 hts (gi_S wm_79 wm_80 wm_6 wm_81) rfl rfl rfl hdS_X4_isRegister ⟨Nat.le_of_ble_eq_true rfl, Nat.le_of_ble_eq_true rfl⟩) hK hP hD rfl hl.1 (Nat.le_of_ble_eq_true rfl) dX4_next_2 ⟨by show _ ≤ 0; omega, by show _ ≤ 0; omega⟩) hS hD hA (fun H locs hP hS => ?_)
  refine lv_if_eq (tgt := 25) hx hb dX4_next_5 (by decide) (fun c2 => ?_) (fun c2 => ?_)
  · have hf := (if_pos c2).symm.trans hf
    refine lv_iconst (v := 1) hx hb dX4_next_25 (by decide) ?_
    exact L_md_next_j26 _ _ _ _ _ _ _ _ _ _ _ _ _ _ _ _ _ _ _ C hK _ _ _ _ _ _ _ _ _ _ hP hD hS (lv_sub hl [0, 1, 2] rfl) hf (by omega) (by omega)
  · have hf := (if_neg c2).symm.trans hf
    refine lv_aload_n hx hb dX4_next_8 rfl (lv_at hl 0 rfl) ?_
    refine lv_iload_n hx hb dX4_next_9 rfl (lv_at hl 1 rfl) ?_
    refine lv_iconst (v := 4) hx hb dX4_next_10 (by decide) ?_
    obtain ⟨r3, ho3, hf⟩ := of_b0 hf
    refine gcRi (gV FX [.int p0, .int 4] (c_md_is l G cI cL cZ cB q A z _ p0 4 _ ho3) (cwV 2 hts (gi_V wm_3 wm_4 wm_5 wm_6 wm_7) rfl rfl rfl hdV_X4_is ⟨Nat.le_of_ble_eq_true rfl, Nat.le_of_ble_eq_true rfl⟩) hK hP hD 0 rfl rfl rfl hl.1 (Nat.le_of_ble_eq_true rfl) dX4_next_11 ⟨by show _ ≤ 0; omega, by show _ ≤ 0; omega⟩) hS hD hA (fun H locs hP hS => ?_)
    refine lv_if_eq (tgt := 21) hx hb dX4_next_14 (by decide) (fun c4 => ?_) (fun c4 => ?_)
    · have hf := (if_pos c4).symm.trans hf
      refine lv_iconst (v := 2) hx hb dX4_next_21 (by decide) ?_
      refine lv_goto (tgt := 26) hx hb dX4_next_22 (by decide) ?_
      exact L_md_next_j26 _ _ _ _ _ _ _ _ _ _ _ _ _ _ _ _ _ _ _ C hK _ _ _ _ _ _ _ _ _ _ hP hD hS (lv_sub hl [0, 1, 2] rfl) hf (by omega) (by omega)
    · have hf := (if_neg c4).symm.trans hf
      refine lv_iconst (v := 0) hx hb dX4_next_17 (by decide) ?_
      refine lv_goto (tgt := 26) hx hb dX4_next_18 (by decide) ?_
      exact L_md_next_j26 _ _ _ _ _ _ _ _ _ _ _ _ _ _ _ _ _ _ _ C hK _ _ _ _ _ _ _ _ _ _ hP hD hS (lv_sub hl [0, 1, 2] rfl) hf (by omega) (by omega)
def At_md_entry_j87 (l : Launch) (G : va_G) (cI cL cZ cB : ClassId) (q : Nat) (w : va_W) (p : Program) (e : Env) (s : State) (m : MethodId) (args : Array Value) (below : List Frame) (meth : Method) (c : Code) (O0 : Ms × Unit) (mcT msT : Nat) (F : Int32 → Int32 → Int32 → Int32 → Ms → Option (Ms × Unit)) : Prop := ∀ (A : Nat → Nat) (z : Ms) (x1 : Int32) (x3 : Int32) (x4 : Int32) (t0 : Int32) (H : Heap) (locs : List Loc) (ls : Array Slot) (cells slots : Nat), va_P G vwCl (mw cI cL cZ cB q A z) H → va_D (va_A w s.heap.size) (mw cI cL cZ cB q A z) → va_S (va_A w s.heap.size) s.heap H locs → lv_has ls 6 [(0, .ref q), (1, .int x1), (3, .int x3), (4, .int x4)] → F x1 x3 x4 t0 z = some O0 → cells + 0 ≤ mcT → slots + 0 ≤ msT → W p l e { frames := 3, cells := mcT, slots := msT, locals := 70 } s m args below meth c H locs cells slots (MQ below (qWv G vwCl (mt cI cL cZ cB) w s.heap.size (mw cI cL cZ cB q) O0) args s mcT msT (va_A w s.heap.size)) (F0 m 87 ls [.int t0, .ref q])
def At_md_entry_j66 (l : Launch) (G : va_G) (cI cL cZ cB : ClassId) (q : Nat) (w : va_W) (p : Program) (e : Env) (s : State) (m : MethodId) (args : Array Value) (below : List Frame) (meth : Method) (c : Code) (O0 : Ms × Unit) (mcT msT : Nat) (F : Int32 → Int32 → Int32 → Int32 → Int32 → Ms → Option (Ms × Unit)) : Prop := ∀ (A : Nat → Nat) (z : Ms) (x1 : Int32) (x2 : Int32) (x3 : Int32) (x4 : Int32) (x5 : Int32) (H : Heap) (locs : List Loc) (ls : Array Slot) (cells slots : Nat), va_P G vwCl (mw cI cL cZ cB q A z) H → va_D (va_A w s.heap.size) (mw cI cL cZ cB q A z) → va_S (va_A w s.heap.size) s.heap H locs → lv_has ls 6 [(0, .ref q), (1, .int x1), (2, .int x2), (3, .int x3), (4, .int x4), (5, .int x5)] → F x1 x2 x3 x4 x5 z = some O0 → cells + 0 ≤ mcT → slots + 0 ≤ msT → W p l e { frames := 3, cells := mcT, slots := msT, locals := 70 } s m args below meth c H locs cells slots (MQ below (qWv G vwCl (mt cI cL cZ cB) w s.heap.size (mw cI cL cZ cB q) O0) args s mcT msT (va_A w s.heap.size)) (F0 m 66 ls [])
def At_md_entry_l25 (l : Launch) (G : va_G) (cI cL cZ cB : ClassId) (q : Nat) (w : va_W) (p : Program) (e : Env) (s : State) (m : MethodId) (args : Array Value) (below : List Frame) (meth : Method) (c : Code) (O0 : Ms × Unit) (mcT msT : Nat) (F : Int32 → Int32 → Int32 → Int32 → Int32 → Ms → Option (Ms × Unit)) : Prop := ∀ (A : Nat → Nat) (z : Ms) (x1 : Int32) (x2 : Int32) (x3 : Int32) (x4 : Int32) (x5 : Int32) (H : Heap) (locs : List Loc) (ls : Array Slot) (cells slots : Nat), va_P G vwCl (mw cI cL cZ cB q A z) H → va_D (va_A w s.heap.size) (mw cI cL cZ cB q A z) → va_S (va_A w s.heap.size) s.heap H locs → lv_has ls 6 [(0, .ref q), (1, .int x1), (2, .int x2), (3, .int x3), (4, .int x4), (5, .int x5)] → F x1 x2 x3 x4 x5 z = some O0 → cells + 0 ≤ mcT → slots + 0 ≤ msT → W p l e { frames := 3, cells := mcT, slots := msT, locals := 70 } s m args below meth c H locs cells slots (MQ below (qWv G vwCl (mt cI cL cZ cB) w s.heap.size (mw cI cL cZ cB q) O0) args s mcT msT (va_A w s.heap.size)) (F0 m 25 ls [])
set_option maxHeartbeats 4000000 in
set_option maxRecDepth 100000 in
theorem L_md_entry_j87 (l : Launch) (G : va_G) (cI cL cZ cB : ClassId) (q : Nat) (w : va_W) (p : Program) (e : Env) (s : State) (m : MethodId) (args : Array Value) (below : List Frame) (meth : Method) (c : Code) (O0 : Ms × Unit) (mcT msT : Nat) (C : MC p s m args meth c cX4_entry 6 (none) RX4 vX4_entry) (hK : va_K G vwCl (mt cI cL cZ cB) s) : At_md_entry_j87 l G cI cL cZ cB q w p e s m args below meth c O0 mcT msT md_entry_j87 := by
  obtain ⟨hx, hb, hr, hml, hown, hts, hlocks⟩ := id C
  have FX : CallFix p m c cX4_entry 6 s args vX4_entry RX4 := ⟨hx, hb, hml, hown, hts⟩
  have hA : ∀ q9 : Nat, s.heap.size ≤ q9 → va_A w s.heap.size q9 := fun q9 h => Or.inr h
  intro A z x1 x3 x4 t0 H locs ls cells slots hP hD hS hl hf hcc hss
  unfold md_entry_j87 at hf
  refine va_put (D := G) (ci := 4) (v := .int t0) (ty := .int) (C := RX4) (T := TX4) (N := 32) hx hb hts (fun w h => .tail _ (wl_X4 w h)) tyX4 tyX4_ok nmX4 hown hK hP hD hS 0 rfl rfl 0 (by decide) (hts _ (.tail _ wm_0)) (fun _ h9 => h9) rfl (by decide +kernel) rfl rfl (Nat.le_of_ble_eq_true rfl) dX4_entry_87 (fun H locs hP hD hS => ?_)
  have hP : va_P G vwCl (mw cI cL cZ cB q A (Ms.sthr z t0)) H := hP
  have hD : va_D _ (mw cI cL cZ cB q A (Ms.sthr z t0)) := hD
  refine lv_iload hx hb dX4_entry_90 (lv_at hl 3 rfl) ?_
  refine lv_if_lt (tgt := 126) hx hb dX4_entry_92 (by decide) (fun c10 => ?_) (fun c10 => ?_)
  · have hf := (if_pos c10).symm.trans hf
    obtain rfl := Option.some.inj hf
    exact grWv hx hb hr hlocks hP hK hD hS dX4_entry_126 (by omega) (by omega)
  · have hf := (if_neg c10).symm.trans hf
    refine lv_aload_n hx hb dX4_entry_95 rfl (lv_at hl 0 rfl) ?_
    refine lv_iload hx hb dX4_entry_96 (lv_at hl 3 rfl) ?_
    refine lv_iload_n hx hb dX4_entry_98 rfl (lv_at hl 2 rfl) ?_
    refine lv_iconst (v := 0) hx hb dX4_entry_99 (by decide) ?_
    refine lv_aload_n hx hb dX4_entry_100 rfl (lv_at hl 0 rfl) ?_
    refine va_get (D := G) (ci := 4) (v := .ref (A 6)) (C := RX4) (T := TX4) (N := 32) hx hb hts (fun w h => .tail _ (wl_X4 w h)) hown hK hP 0 rfl rfl 13 (by decide) (hts _ (.tail _ wm_9)) (fun _ h9 => h9) rfl dX4_entry_101 ?_
    refine lv_aload_n hx hb dX4_entry_104 rfl (lv_at hl 0 rfl) ?_
    refine va_get (D := G) (ci := 4) (v := .ref (A 1)) (C := RX4) (T := TX4) (N := 32) hx hb hts (fun w h => .tail _ (wl_X4 w h)) hown hK hP 0 rfl rfl 7 (by decide) (hts _ (.tail _ wm_1)) (fun _ h9 => h9) rfl dX4_entry_105 ?_
    refine lv_iload_n hx hb dX4_entry_108 rfl (lv_at hl 1 rfl) ?_
    obtain ⟨hg11, hf⟩ := of_gd hf
    refine va_iald (f := (Ms.atg z)) (n := (Ms.ntg z)) hx hb hK hP 1 0 rfl rfl (inb_in hg11) dX4_entry_109 ?_
    obtain ⟨hg12, hf⟩ := of_gd hf
    refine va_iald (f := (Ms.ake z)) (n := (Ms.nke z)) hx hb hK hP 6 0 rfl rfl (inb_in hg12) dX4_entry_110 ?_
    refine lv_aload_n hx hb dX4_entry_111 rfl (lv_at hl 0 rfl) ?_
    refine va_get (D := G) (ci := 4) (v := .ref (A 7)) (C := RX4) (T := TX4) (N := 32) hx hb hts (fun w h => .tail _ (wl_X4 w h)) hown hK hP 0 rfl rfl 14 (by decide) (hts _ (.tail _ wm_10)) (fun _ h9 => h9) rfl dX4_entry_112 ?_
    refine lv_aload_n hx hb dX4_entry_115 rfl (lv_at hl 0 rfl) ?_
    refine va_get (D := G) (ci := 4) (v := .ref (A 1)) (C := RX4) (T := TX4) (N := 32) hx hb hts (fun w h => .tail _ (wl_X4 w h)) hown hK hP 0 rfl rfl 7 (by decide) (hts _ (.tail _ wm_1)) (fun _ h9 => h9) rfl dX4_entry_116 ?_
    refine lv_iload_n hx hb dX4_entry_119 rfl (lv_at hl 1 rfl) ?_
    obtain ⟨hg13, hf⟩ := of_gd hf
    refine va_iald (f := (Ms.atg z)) (n := (Ms.ntg z)) hx hb hK hP 1 0 rfl rfl (inb_in hg13) dX4_entry_120 ?_
    obtain ⟨hg14, hf⟩ := of_gd hf
    refine va_iald (f := (Ms.ava z)) (n := (Ms.nva z)) hx hb hK hP 7 0 rfl rfl (inb_in hg14) dX4_entry_121 ?_
    refine lv_iadd hx hb dX4_entry_122 ?_
    obtain ⟨z15, o9, ho15, hf⟩ := of_bw hf
    refine gcWv (gV FX [.int x4, .int x3, .int 0, .int (((Ms.ake z) ((Ms.atg z) x1.toNatClampNeg).toNatClampNeg) + ((Ms.ava z) ((Ms.atg z) x1.toNatClampNeg).toNatClampNeg))] (c_md_show l G cI cL cZ cB q A (Ms.sthr z t0) _ x4 x3 0 (((Ms.ake z) ((Ms.atg z) x1.toNatClampNeg).toNatClampNeg) + ((Ms.ava z) ((Ms.atg z) x1.toNatClampNeg).toNatClampNeg)) _ ho15) (cwV 4 hts (gi_V wm_162 wm_163 wm_164 wm_6 wm_165) rfl rfl rfl hdV_X4_show ⟨Nat.le_of_ble_eq_true rfl, Nat.le_of_ble_eq_true rfl⟩) hK hP hD 0 rfl rfl rfl hl.1 (Nat.le_of_ble_eq_true rfl) dX4_entry_123 ⟨by show _ ≤ mcT; omega, by show _ ≤ msT; omega⟩) hS hD hA (fun A H locs hP hD hS => ?_)
    obtain rfl := Option.some.inj hf
    exact grWv hx hb hr hlocks hP hK hD hS dX4_entry_126 (by omega) (by omega)
set_option maxHeartbeats 4000000 in
set_option maxRecDepth 100000 in
theorem L_md_entry_j66 (l : Launch) (G : va_G) (cI cL cZ cB : ClassId) (q : Nat) (w : va_W) (p : Program) (e : Env) (s : State) (m : MethodId) (args : Array Value) (below : List Frame) (meth : Method) (c : Code) (O0 : Ms × Unit) (mcT msT : Nat) (C : MC p s m args meth c cX4_entry 6 (none) RX4 vX4_entry) (hK : va_K G vwCl (mt cI cL cZ cB) s) (K25 : Int32 → Int32 → Int32 → Int32 → Int32 → Ms → Option (Ms × Unit)) (hK25 : At_md_entry_l25 l G cI cL cZ cB q w p e s m args below meth c O0 mcT msT K25) : At_md_entry_j66 l G cI cL cZ cB q w p e s m args below meth c O0 mcT msT (md_entry_j66 K25 ) := by
  obtain ⟨hx, hb, hr, hml, hown, hts, hlocks⟩ := id C
  have FX : CallFix p m c cX4_entry 6 s args vX4_entry RX4 := ⟨hx, hb, hml, hown, hts⟩
  have hA : ∀ q9 : Nat, s.heap.size ≤ q9 → va_A w s.heap.size q9 := fun q9 h => Or.inr h
  intro A z x1 x2 x3 x4 x5 H locs ls cells slots hP hD hS hl hf hcc hss
  unfold md_entry_j66 at hf
  refine lv_iload hx hb dX4_entry_66 (lv_at hl 4 rfl) ?_
  refine lv_istore (lv' := [(4, .int x4), (0, .ref q), (1, .int x1), (2, .int x2), (3, .int x3), (5, .int x5)]) hx hb dX4_entry_68 hl (by decide) rfl (fun ls hl => ?_)
  refine lv_iinc (v := (x5 + 1)) (lv' := [(5, .int (x5 + 1)), (4, .int x4), (0, .ref q), (1, .int x1), (2, .int x2), (3, .int x3)]) hx hb dX4_entry_70 hl (k := 5) rfl rfl (by decide) rfl (fun ls hl => ?_)
  refine lv_goto (tgt := 25) hx hb dX4_entry_73 (by decide) ?_
  exact hK25 _ _ _ _ _ _ _ _ _ _ _ _ hP hD hS (lv_sub hl [2, 3, 4, 5, 1, 0] rfl) hf (by omega) (by omega)
set_option maxHeartbeats 4000000 in
set_option maxRecDepth 100000 in
theorem L_md_entry_l25 (l : Launch) (G : va_G) (cI cL cZ cB : ClassId) (q : Nat) (w : va_W) (p : Program) (e : Env) (s : State) (m : MethodId) (args : Array Value) (below : List Frame) (meth : Method) (c : Code) (O0 : Ms × Unit) (mcT msT : Nat) (C : MC p s m args meth c cX4_entry 6 (none) RX4 vX4_entry) (hK : va_K G vwCl (mt cI cL cZ cB) s) : ∀ n : Nat, At_md_entry_l25 l G cI cL cZ cB q w p e s m args below meth c O0 mcT msT (md_entry_l25 n) := by
  obtain ⟨hx, hb, hr, hml, hown, hts, hlocks⟩ := id C
  have FX : CallFix p m c cX4_entry 6 s args vX4_entry RX4 := ⟨hx, hb, hml, hown, hts⟩
  have hA : ∀ q9 : Nat, s.heap.size ≤ q9 → va_A w s.heap.size q9 := fun q9 h => Or.inr h
  intro n
  induction n with
  | zero =>
    intro A z x1 x2 x3 x4 x5 H locs ls cells slots hP hD hS hl hf hcc hss
    exact nomatch (show none = some _ from hf)
  | succ n ih =>
    intro A z x1 x2 x3 x4 x5 H locs ls cells slots hP hD hS hl hf hcc hss
    rw [md_entry_l25] at hf
    refine lv_iload hx hb dX4_entry_25 (lv_at hl 5 rfl) ?_
    refine lv_aload_n hx hb dX4_entry_27 rfl (lv_at hl 0 rfl) ?_
    refine va_get (D := G) (ci := 4) (v := .int (Ms.ent z)) (C := RX4) (T := TX4) (N := 32) hx hb hts (fun w h => .tail _ (wl_X4 w h)) hown hK hP 0 rfl rfl 31 (by decide) (hts _ (.tail _ wm_24)) (fun _ h9 => h9) rfl dX4_entry_28 ?_
    refine lv_icmp_ge (tgt := 76) hx hb dX4_entry_31 (by decide) (fun c3 => ?_) (fun c3 => ?_)
    · have hf := (if_pos c3).symm.trans hf
      refine lv_aload_n hx hb dX4_entry_76 rfl (lv_at hl 0 rfl) ?_
      refine lv_iload hx hb dX4_entry_77 (lv_at hl 4 rfl) ?_
      refine lv_if_ge (tgt := 86) hx hb dX4_entry_79 (by decide) (fun c4 => ?_) (fun c4 => ?_)
      · have hf := (if_pos c4).symm.trans hf
        refine lv_iconst (v := 0) hx hb dX4_entry_86 (by decide) ?_
        exact L_md_entry_j87 _ _ _ _ _ _ _ _ _ _ _ _ _ _ _ _ _ _ _ C hK _ _ _ _ _ _ _ _ _ _ _ hP hD hS (lv_sub hl [0, 1, 3, 4] rfl) hf (by omega) (by omega)
      · have hf := (if_neg c4).symm.trans hf
        refine lv_iconst (v := 4) hx hb dX4_entry_82 (by decide) ?_
        refine lv_goto (tgt := 87) hx hb dX4_entry_83 (by decide) ?_
        exact L_md_entry_j87 _ _ _ _ _ _ _ _ _ _ _ _ _ _ _ _ _ _ _ C hK _ _ _ _ _ _ _ _ _ _ _ hP hD hS (lv_sub hl [0, 1, 3, 4] rfl) hf (by omega) (by omega)
    · have hf := (if_neg c3).symm.trans hf
      refine lv_aload_n hx hb dX4_entry_34 rfl (lv_at hl 0 rfl) ?_
      refine va_get (D := G) (ci := 4) (v := .ref (A 18)) (C := RX4) (T := TX4) (N := 32) hx hb hts (fun w h => .tail _ (wl_X4 w h)) hown hK hP 0 rfl rfl 27 (by decide) (hts _ (.tail _ wm_25)) (fun _ h9 => h9) rfl dX4_entry_35 ?_
      refine lv_iload hx hb dX4_entry_38 (lv_at hl 5 rfl) ?_
      obtain ⟨hg5, hf⟩ := of_gd hf
      refine va_iald (f := (Ms.aem z)) (n := (Ms.nem z)) hx hb hK hP 18 0 rfl rfl (inb_in hg5) dX4_entry_40 ?_
      refine lv_aload_n hx hb dX4_entry_41 rfl (lv_at hl 0 rfl) ?_
      refine va_get (D := G) (ci := 4) (v := .ref (A 1)) (C := RX4) (T := TX4) (N := 32) hx hb hts (fun w h => .tail _ (wl_X4 w h)) hown hK hP 0 rfl rfl 7 (by decide) (hts _ (.tail _ wm_1)) (fun _ h9 => h9) rfl dX4_entry_42 ?_
      refine lv_iload_n hx hb dX4_entry_45 rfl (lv_at hl 1 rfl) ?_
      obtain ⟨hg6, hf⟩ := of_gd hf
      refine va_iald (f := (Ms.atg z)) (n := (Ms.ntg z)) hx hb hK hP 1 0 rfl rfl (inb_in hg6) dX4_entry_46 ?_
      refine lv_icmp_ne (tgt := 66) hx hb dX4_entry_47 (by decide) (fun c7 => ?_) (fun c7 => ?_)
      · have hf := (if_neg c7).symm.trans hf
        exact L_md_entry_j66 _ _ _ _ _ _ _ _ _ _ _ _ _ _ _ _ _ _ _ C hK _ ih _ _ _ _ _ _ _ _ _ _ _ _ hP hD hS (lv_sub hl [0, 1, 2, 3, 4, 5] rfl) hf (by omega) (by omega)
      · have hf := (if_pos c7).symm.trans hf
        refine lv_aload_n hx hb dX4_entry_50 rfl (lv_at hl 0 rfl) ?_
        refine va_get (D := G) (ci := 4) (v := .ref (A 19)) (C := RX4) (T := TX4) (N := 32) hx hb hts (fun w h => .tail _ (wl_X4 w h)) hown hK hP 0 rfl rfl 28 (by decide) (hts _ (.tail _ wm_29)) (fun _ h9 => h9) rfl dX4_entry_51 ?_
        refine lv_iload hx hb dX4_entry_54 (lv_at hl 5 rfl) ?_
        obtain ⟨hg8, hf⟩ := of_gd hf
        refine va_iald (f := (Ms.aeo z)) (n := (Ms.neo z)) hx hb hK hP 19 0 rfl rfl (inb_in hg8) dX4_entry_56 ?_
        refine lv_iload_n hx hb dX4_entry_57 rfl (lv_at hl 2 rfl) ?_
        refine lv_icmp_ne (tgt := 66) hx hb dX4_entry_58 (by decide) (fun c9 => ?_) (fun c9 => ?_)
        · have hf := (if_neg c9).symm.trans hf
          exact L_md_entry_j66 _ _ _ _ _ _ _ _ _ _ _ _ _ _ _ _ _ _ _ C hK _ ih _ _ _ _ _ _ _ _ _ _ _ _ hP hD hS (lv_sub hl [0, 1, 2, 3, 4, 5] rfl) hf (by omega) (by omega)
        · have hf := (if_pos c9).symm.trans hf
          refine lv_iload hx hb dX4_entry_61 (lv_at hl 5 rfl) ?_
          refine lv_goto (tgt := 68) hx hb dX4_entry_63 (by decide) ?_
          refine lv_istore (lv' := [(4, .int x5), (0, .ref q), (1, .int x1), (2, .int x2), (3, .int x3), (5, .int x5)]) hx hb dX4_entry_68 hl (by decide) rfl (fun ls hl => ?_)
          refine lv_iinc (v := (x5 + 1)) (lv' := [(5, .int (x5 + 1)), (4, .int x5), (0, .ref q), (1, .int x1), (2, .int x2), (3, .int x3)]) hx hb dX4_entry_70 hl (k := 5) rfl rfl (by decide) rfl (fun ls hl => ?_)
          refine lv_goto (tgt := 25) hx hb dX4_entry_73 (by decide) ?_
          exact ih _ _ _ _ _ _ _ _ _ _ _ _ hP hD hS (lv_sub hl [2, 3, 4, 5, 1, 0] rfl) hf (by omega) (by omega)
set_option maxHeartbeats 4000000 in
set_option maxRecDepth 100000 in
theorem c_md_entry (l : Launch) (G : va_G) (cI cL cZ cB : ClassId) (q : Nat) (A : Nat → Nat) (z : Ms) (sz : Nat) (p0 : Int32) (p1 : Int32) (p2 : Int32) (O0 : Ms × Unit) (hf : md_entry z p0 p1 p2 = some O0) : Met l yX4_entry vX4_entry { frames := 3, cells := 0, slots := 0, locals := 70 } (gPc G vwCl (mt cI cL cZ cB) [.ref q, .int p0, .int p1, .int p2] (mw cI cL cZ cB q A z) sz) (qWv G vwCl (mt cI cL cZ cB) (mw cI cL cZ cB q A z) sz (mw cI cL cZ cB q) O0) 0 0 (va_A (mw cI cL cZ cB q A z) sz) := by
  refine gMet (by decide) rfl (Nat.le_of_ble_eq_true rfl) ?_
  intro p e s m below meth c ls C hK hP hD hsz hl
  subst hsz
  obtain ⟨hx, hb, hr, hml, hown, hts, hlocks⟩ := id C
  have FX : CallFix p m c cX4_entry 6 s _ vX4_entry RX4 := ⟨hx, hb, hml, hown, hts⟩
  have hA : ∀ q9 : Nat, s.heap.size ≤ q9 → va_A (mw cI cL cZ cB q A z) s.heap.size q9 := fun q9 h => Or.inr h
  have hS : va_S (va_A (mw cI cL cZ cB q A z) s.heap.size) s.heap s.heap [] := va_S.rf
  have hl : lv_has ls 6 [(0, .ref q), (1, .int p0), (2, .int p1), (3, .int p2)] := hl
  unfold md_entry at hf
  refine lv_aload_n hx hb dX4_entry_0 rfl (lv_at hl 0 rfl) ?_
  refine lv_aload_n hx hb dX4_entry_1 rfl (lv_at hl 0 rfl) ?_
  refine lv_iload_n hx hb dX4_entry_2 rfl (lv_at hl 1 rfl) ?_
  refine lv_iload_n hx hb dX4_entry_3 rfl (lv_at hl 3 rfl) ?_
  refine lv_iconst (v := 0) hx hb dX4_entry_4 (by decide) ?_
  obtain ⟨r1, ho1, hf⟩ := of_b0 hf
  refine gcRi (gV FX [.int p0, .int p2, .int 0] (c_md_wrong l G cI cL cZ cB q A z _ p0 p2 0 _ ho1) (cwV 3 hts (gi_V wm_158 wm_159 wm_160 wm_6 wm_161) rfl rfl rfl hdV_X4_wrong ⟨Nat.le_of_ble_eq_true rfl, Nat.le_of_ble_eq_true rfl⟩) hK hP hD 0 rfl rfl rfl hl.1 (Nat.le_of_ble_eq_true rfl) dX4_entry_5 ⟨by show _ ≤ 0; omega, by show _ ≤ 0; omega⟩) hS hD hA (fun H locs hP hS => ?_)
  refine va_put (D := G) (ci := 4) (v := .int r1) (ty := .int) (C := RX4) (T := TX4) (N := 32) hx hb hts (fun w h => .tail _ (wl_X4 w h)) tyX4 tyX4_ok nmX4 hown hK hP hD hS 0 rfl rfl 0 (by decide) (hts _ (.tail _ wm_0)) (fun _ h9 => h9) rfl (by decide +kernel) rfl rfl (Nat.le_of_ble_eq_true rfl) dX4_entry_8 (fun H locs hP hD hS => ?_)
  have hP : va_P G vwCl (mw cI cL cZ cB q A (Ms.sthr z r1)) H := hP
  have hD : va_D _ (mw cI cL cZ cB q A (Ms.sthr z r1)) := hD
  refine lv_aload_n hx hb dX4_entry_11 rfl (lv_at hl 0 rfl) ?_
  refine va_get (D := G) (ci := 4) (v := .int r1) (C := RX4) (T := TX4) (N := 32) hx hb hts (fun w h => .tail _ (wl_X4 w h)) hown hK hP 0 rfl rfl 0 (by decide) (hts _ (.tail _ wm_0)) (fun _ h9 => h9) rfl dX4_entry_12 ?_
  refine lv_if_le (tgt := 19) hx hb dX4_entry_15 (by decide) (fun c2 => ?_) (fun c2 => ?_)
  · have hf := (if_pos c2).symm.trans hf
    refine lv_iconst (v := (-1)) hx hb dX4_entry_19 (by decide) ?_
    refine lv_istore (lv' := [(4, .int (-1)), (0, .ref q), (1, .int p0), (2, .int p1), (3, .int p2)]) hx hb dX4_entry_20 hl (by decide) rfl (fun ls hl => ?_)
    refine lv_iconst (v := 0) hx hb dX4_entry_22 (by decide) ?_
    refine lv_istore (lv' := [(5, .int 0), (4, .int (-1)), (0, .ref q), (1, .int p0), (2, .int p1), (3, .int p2)]) hx hb dX4_entry_23 hl (by decide) rfl (fun ls hl => ?_)
    exact L_md_entry_l25 _ _ _ _ _ _ _ _ _ _ _ _ _ _ _ _ _ _ _ C hK FU _ _ _ _ _ _ _ _ _ _ _ _ hP hD hS (lv_sub hl [2, 3, 4, 5, 1, 0] rfl) hf (by omega) (by omega)
  · have hf := (if_neg c2).symm.trans hf
    obtain rfl := Option.some.inj hf
    exact grWv hx hb hr hlocks hP hK hD hS dX4_entry_18 (by omega) (by omega)
set_option maxHeartbeats 4000000 in
set_option maxRecDepth 100000 in
theorem c_md_eager (l : Launch) (G : va_G) (cI cL cZ cB : ClassId) (q : Nat) (A : Nat → Nat) (z : Ms) (sz : Nat) (p0 : Int32) (O0 : Ms × Unit) (hf : md_eager z p0 = some O0) : Met l yX4_eager vX4_eager { frames := 0, cells := 0, slots := 0, locals := 0 } (gPc G vwCl (mt cI cL cZ cB) [.ref q, .int p0] (mw cI cL cZ cB q A z) sz) (qWv G vwCl (mt cI cL cZ cB) (mw cI cL cZ cB q A z) sz (mw cI cL cZ cB q) O0) 0 0 (va_A (mw cI cL cZ cB q A z) sz) := by
  refine gMet (by decide) rfl (Nat.le_of_ble_eq_true rfl) ?_
  intro p e s m below meth c ls C hK hP hD hsz hl
  subst hsz
  obtain ⟨hx, hb, hr, hml, hown, hts, hlocks⟩ := id C
  have FX : CallFix p m c cX4_eager 2 s _ vX4_eager RX4 := ⟨hx, hb, hml, hown, hts⟩
  have hA : ∀ q9 : Nat, s.heap.size ≤ q9 → va_A (mw cI cL cZ cB q A z) s.heap.size q9 := fun q9 h => Or.inr h
  have hS : va_S (va_A (mw cI cL cZ cB q A z) s.heap.size) s.heap s.heap [] := va_S.rf
  have hl : lv_has ls 2 [(0, .ref q), (1, .int p0)] := hl
  unfold md_eager at hf
  refine lv_aload_n hx hb dX4_eager_0 rfl (lv_at hl 0 rfl) ?_
  refine lv_iconst (v := 0) hx hb dX4_eager_1 (by decide) ?_
  refine va_put (D := G) (ci := 4) (v := .int 0) (ty := .int) (C := RX4) (T := TX4) (N := 32) hx hb hts (fun w h => .tail _ (wl_X4 w h)) tyX4 tyX4_ok nmX4 hown hK hP hD hS 0 rfl rfl 0 (by decide) (hts _ (.tail _ wm_0)) (fun _ h9 => h9) rfl (by decide +kernel) rfl rfl (Nat.le_of_ble_eq_true rfl) dX4_eager_2 (fun H locs hP hD hS => ?_)
  have hP : va_P G vwCl (mw cI cL cZ cB q A (Ms.sthr z 0)) H := hP
  have hD : va_D _ (mw cI cL cZ cB q A (Ms.sthr z 0)) := hD
  refine lv_aload_n hx hb dX4_eager_5 rfl (lv_at hl 0 rfl) ?_
  refine lv_iload_n hx hb dX4_eager_6 rfl (lv_at hl 1 rfl) ?_
  obtain ⟨hg1, hf⟩ := of_gd hf
  refine va_put (D := G) (ci := 4) (v := .int p0) (ty := .boolean) (C := RX4) (T := TX4) (N := 32) hx hb hts (fun w h => .tail _ (wl_X4 w h)) tyX4 tyX4_ok nmX4 hown hK hP hD hS 0 rfl rfl 2 (by decide) (hts _ (.tail _ wm_56)) (fun _ h9 => h9) rfl (by decide +kernel) (zbo_n hg1) (zbo_f hg1) (Nat.le_of_ble_eq_true rfl) dX4_eager_7 (fun H locs hP hD hS => ?_)
  have hP : va_P G vwCl (mw cI cL cZ cB q A (Ms.seag (Ms.sthr z 0) p0)) H := hP
  have hD : va_D _ (mw cI cL cZ cB q A (Ms.seag (Ms.sthr z 0) p0)) := hD
  obtain rfl := Option.some.inj hf
  exact grWv hx hb hr hlocks hP hK hD hS dX4_eager_10 (by omega) (by omega)
def At_md_tell_j22 (l : Launch) (G : va_G) (cI cL cZ cB : ClassId) (q : Nat) (w : va_W) (p : Program) (e : Env) (s : State) (m : MethodId) (args : Array Value) (below : List Frame) (meth : Method) (c : Code) (O0 : Ms × Int32) (mcT msT : Nat) (F : Int32 → Int32 → Int32 → Ms → Option (Ms × Int32)) : Prop := ∀ (A : Nat → Nat) (z : Ms) (x1 : Int32) (x2 : Int32) (t0 : Int32) (H : Heap) (locs : List Loc) (ls : Array Slot) (cells slots : Nat), va_P G vwCl (mw cI cL cZ cB q A z) H → va_D (va_A w s.heap.size) (mw cI cL cZ cB q A z) → va_S (va_A w s.heap.size) s.heap H locs → lv_has ls 4 [(0, .ref q), (1, .int x1), (2, .int x2)] → F x1 x2 t0 z = some O0 → cells + 0 ≤ mcT → slots + 0 ≤ msT → W p l e { frames := 1, cells := mcT, slots := msT, locals := 23 } s m args below meth c H locs cells slots (MQ below (qWi G vwCl (mt cI cL cZ cB) w s.heap.size (mw cI cL cZ cB q) O0) args s mcT msT (va_A w s.heap.size)) (F0 m 22 ls [.int t0, .ref q])
def At_md_tell_j17 (l : Launch) (G : va_G) (cI cL cZ cB : ClassId) (q : Nat) (w : va_W) (p : Program) (e : Env) (s : State) (m : MethodId) (args : Array Value) (below : List Frame) (meth : Method) (c : Code) (O0 : Ms × Int32) (mcT msT : Nat) (F : Int32 → Int32 → Ms → Option (Ms × Int32)) : Prop := ∀ (A : Nat → Nat) (z : Ms) (x1 : Int32) (x2 : Int32) (H : Heap) (locs : List Loc) (ls : Array Slot) (cells slots : Nat), va_P G vwCl (mw cI cL cZ cB q A z) H → va_D (va_A w s.heap.size) (mw cI cL cZ cB q A z) → va_S (va_A w s.heap.size) s.heap H locs → lv_has ls 4 [(0, .ref q), (1, .int x1), (2, .int x2)] → F x1 x2 z = some O0 → cells + 0 ≤ mcT → slots + 0 ≤ msT → W p l e { frames := 1, cells := mcT, slots := msT, locals := 23 } s m args below meth c H locs cells slots (MQ below (qWi G vwCl (mt cI cL cZ cB) w s.heap.size (mw cI cL cZ cB q) O0) args s mcT msT (va_A w s.heap.size)) (F0 m 17 ls [.ref q])
set_option maxHeartbeats 4000000 in
set_option maxRecDepth 100000 in
theorem L_md_tell_j22 (l : Launch) (G : va_G) (cI cL cZ cB : ClassId) (q : Nat) (w : va_W) (p : Program) (e : Env) (s : State) (m : MethodId) (args : Array Value) (below : List Frame) (meth : Method) (c : Code) (O0 : Ms × Int32) (mcT msT : Nat) (C : MC p s m args meth c cX4_tell 4 (some .int) RX4 vX4_tell) (hK : va_K G vwCl (mt cI cL cZ cB) s) : At_md_tell_j22 l G cI cL cZ cB q w p e s m args below meth c O0 mcT msT md_tell_j22 := by
  obtain ⟨hx, hb, hr, hml, hown, hts, hlocks⟩ := id C
  have FX : CallFix p m c cX4_tell 4 s args vX4_tell RX4 := ⟨hx, hb, hml, hown, hts⟩
  have hA : ∀ q9 : Nat, s.heap.size ≤ q9 → va_A w s.heap.size q9 := fun q9 h => Or.inr h
  intro A z x1 x2 t0 H locs ls cells slots hP hD hS hl hf hcc hss
  unfold md_tell_j22 at hf
  refine va_put (D := G) (ci := 4) (v := .int t0) (ty := .int) (C := RX4) (T := TX4) (N := 32) hx hb hts (fun w h => .tail _ (wl_X4 w h)) tyX4 tyX4_ok nmX4 hown hK hP hD hS 0 rfl rfl 0 (by decide) (hts _ (.tail _ wm_0)) (fun _ h9 => h9) rfl (by decide +kernel) rfl rfl (Nat.le_of_ble_eq_true rfl) dX4_tell_22 (fun H locs hP hD hS => ?_)
  have hP : va_P G vwCl (mw cI cL cZ cB q A (Ms.sthr z t0)) H := hP
  have hD : va_D _ (mw cI cL cZ cB q A (Ms.sthr z t0)) := hD
  refine lv_aload_n hx hb dX4_tell_25 rfl (lv_at hl 0 rfl) ?_
  refine va_get (D := G) (ci := 4) (v := .int t0) (C := RX4) (T := TX4) (N := 32) hx hb hts (fun w h => .tail _ (wl_X4 w h)) hown hK hP 0 rfl rfl 0 (by decide) (hts _ (.tail _ wm_0)) (fun _ h9 => h9) rfl dX4_tell_26 ?_
  refine lv_if_le (tgt := 34) hx hb dX4_tell_29 (by decide) (fun c5 => ?_) (fun c5 => ?_)
  · have hf := (if_pos c5).symm.trans hf
    refine lv_aload_n hx hb dX4_tell_34 rfl (lv_at hl 0 rfl) ?_
    refine va_get (D := G) (ci := 4) (v := .ref (A 1)) (C := RX4) (T := TX4) (N := 32) hx hb hts (fun w h => .tail _ (wl_X4 w h)) hown hK hP 0 rfl rfl 7 (by decide) (hts _ (.tail _ wm_1)) (fun _ h9 => h9) rfl dX4_tell_35 ?_
    refine lv_iload_n hx hb dX4_tell_38 rfl (lv_at hl 1 rfl) ?_
    obtain ⟨hg6, hf⟩ := of_gd hf
    refine va_iald (f := (Ms.atg z)) (n := (Ms.ntg z)) hx hb hK hP 1 0 rfl rfl (inb_in hg6) dX4_tell_39 ?_
    refine lv_istore_n (lv' := [(3, .int ((Ms.atg z) x1.toNatClampNeg)), (0, .ref q), (1, .int x1), (2, .int x2)]) hx hb dX4_tell_40 rfl hl (by decide) rfl (fun ls hl => ?_)
    refine lv_iload_n hx hb dX4_tell_41 rfl (lv_at hl 3 rfl) ?_
    refine lv_if_ne (tgt := 69) hx hb dX4_tell_42 (by decide) (fun c7 => ?_) (fun c7 => ?_)
    · have hf := (if_neg c7).symm.trans hf
      refine lv_iload_n hx hb dX4_tell_69 rfl (lv_at hl 0 rfl) ?_
      refine lv_if_gt (tgt := 75) hx hb dX4_tell_70 (by decide) (fun c8 => ?_) (fun c8 => ?_)
      · have hf := (if_pos c8).symm.trans hf
        refine lv_iload_n hx hb dX4_tell_75 rfl (lv_at hl 3 rfl) ?_
        refine lv_iconst (v := 1) hx hb dX4_tell_76 (by decide) ?_
        refine lv_icmp_ne (tgt := 82) hx hb dX4_tell_77 (by decide) (fun c9 => ?_) (fun c9 => ?_)
        · have hf := (if_neg c9).symm.trans hf
          refine lv_iload_n hx hb dX4_tell_82 rfl (lv_at hl 3 rfl) ?_
          refine lv_iconst (v := 2) hx hb dX4_tell_83 (by decide) ?_
          refine lv_icmp_ne (tgt := 95) hx hb dX4_tell_84 (by decide) (fun c10 => ?_) (fun c10 => ?_)
          · have hf := (if_neg c10).symm.trans hf
            refine lv_iload_n hx hb dX4_tell_95 rfl (lv_at hl 3 rfl) ?_
            refine lv_iconst (v := 3) hx hb dX4_tell_96 (by decide) ?_
            refine lv_icmp_ne (tgt := 125) hx hb dX4_tell_97 (by decide) (fun c11 => ?_) (fun c11 => ?_)
            · have hf := (if_neg c11).symm.trans hf
              refine lv_aload_n hx hb dX4_tell_125 rfl (lv_at hl 1 rfl) ?_
              refine va_get (D := G) (ci := 4) (v := .ref (A 3)) (C := RX4) (T := TX4) (N := 32) hx hb hts (fun w h => .tail _ (wl_X4 w h)) hown hK hP 0 rfl rfl 10 (by decide) (hts _ (.tail _ wm_2)) (fun _ h9 => h9) rfl dX4_tell_126 ?_
              refine lv_iload_n hx hb dX4_tell_129 rfl (lv_at hl 0 rfl) ?_
              obtain ⟨hg12, hf⟩ := of_gd hf
              refine va_iald (f := (Ms.aso z)) (n := (Ms.nso z)) hx hb hK hP 3 0 rfl rfl (inb_in hg12) dX4_tell_130 ?_
              refine lv_iconst (v := 4) hx hb dX4_tell_131 (by decide) ?_
              refine lv_icmp_ne (tgt := 144) hx hb dX4_tell_132 (by decide) (fun c13 => ?_) (fun c13 => ?_)
              · have hf := (if_neg c13).symm.trans hf
                refine lv_iconst (v := 0) hx hb dX4_tell_144 (by decide) ?_
                obtain rfl := Option.some.inj hf
                exact grWi hx hb hr hlocks hP hK hD hS dX4_tell_145 (by omega) (by omega)
              · have hf := (if_pos c13).symm.trans hf
                refine lv_aload_n hx hb dX4_tell_135 rfl (lv_at hl 1 rfl) ?_
                refine va_get (D := G) (ci := 4) (v := .ref (A 9)) (C := RX4) (T := TX4) (N := 32) hx hb hts (fun w h => .tail _ (wl_X4 w h)) hown hK hP 0 rfl rfl 16 (by decide) (hts _ (.tail _ wm_12)) (fun _ h9 => h9) rfl dX4_tell_136 ?_
                refine lv_iload_n hx hb dX4_tell_139 rfl (lv_at hl 0 rfl) ?_
                obtain ⟨hg14, hf⟩ := of_gd hf
                refine va_iald (f := (Ms.aca z)) (n := (Ms.nca z)) hx hb hK hP 9 0 rfl rfl (inb_in hg14) dX4_tell_140 ?_
                refine lv_goto (tgt := 145) hx hb dX4_tell_141 (by decide) ?_
                obtain rfl := Option.some.inj hf
                exact grWi hx hb hr hlocks hP hK hD hS dX4_tell_145 (by omega) (by omega)
            · have hf := (if_pos c11).symm.trans hf
              refine lv_aload_n hx hb dX4_tell_100 rfl (lv_at hl 1 rfl) ?_
              refine va_get (D := G) (ci := 4) (v := .ref (A 3)) (C := RX4) (T := TX4) (N := 32) hx hb hts (fun w h => .tail _ (wl_X4 w h)) hown hK hP 0 rfl rfl 10 (by decide) (hts _ (.tail _ wm_2)) (fun _ h9 => h9) rfl dX4_tell_101 ?_
              refine lv_iload_n hx hb dX4_tell_104 rfl (lv_at hl 0 rfl) ?_
              obtain ⟨hg15, hf⟩ := of_gd hf
              refine va_iald (f := (Ms.aso z)) (n := (Ms.nso z)) hx hb hK hP 3 0 rfl rfl (inb_in hg15) dX4_tell_105 ?_
              refine lv_iconst (v := 4) hx hb dX4_tell_106 (by decide) ?_
              refine lv_icmp_ne (tgt := 118) hx hb dX4_tell_107 (by decide) (fun c16 => ?_) (fun c16 => ?_)
              · have hf := (if_neg c16).symm.trans hf
                refine lv_aload_n hx hb dX4_tell_118 rfl (lv_at hl 1 rfl) ?_
                refine va_get (D := G) (ci := 4) (v := .ref (A 4)) (C := RX4) (T := TX4) (N := 32) hx hb hts (fun w h => .tail _ (wl_X4 w h)) hown hK hP 0 rfl rfl 11 (by decide) (hts _ (.tail _ wm_17)) (fun _ h9 => h9) rfl dX4_tell_119 ?_
                refine lv_iload_n hx hb dX4_tell_122 rfl (lv_at hl 0 rfl) ?_
                obtain ⟨hg17, hf⟩ := of_gd hf
                refine va_iald (f := (Ms.asi z)) (n := (Ms.nsi z)) hx hb hK hP 4 0 rfl rfl (inb_in hg17) dX4_tell_123 ?_
                obtain rfl := Option.some.inj hf
                exact grWi hx hb hr hlocks hP hK hD hS dX4_tell_124 (by omega) (by omega)
              · have hf := (if_pos c16).symm.trans hf
                refine lv_aload_n hx hb dX4_tell_110 rfl (lv_at hl 1 rfl) ?_
                refine lv_iload_n hx hb dX4_tell_111 rfl (lv_at hl 0 rfl) ?_
                obtain ⟨r18, ho18, hf⟩ := of_b0 hf
                refine gcRi (gV FX [.int ((Ms.atg z) x1.toNatClampNeg)] (c_md_entriesOf l G cI cL cZ cB q A (Ms.sthr z t0) _ ((Ms.atg z) x1.toNatClampNeg) _ ho18) (cwV 1 hts (gi_V wm_142 wm_143 wm_144 wm_6 wm_145) rfl rfl rfl hdV_X4_entriesOf ⟨Nat.le_of_ble_eq_true rfl, Nat.le_of_ble_eq_true rfl⟩) hK hP hD 0 rfl rfl rfl hl.1 (Nat.le_of_ble_eq_true rfl) dX4_tell_112 ⟨by show _ ≤ mcT; omega, by show _ ≤ msT; omega⟩) hS hD hA (fun H locs hP hS => ?_)
                refine lv_goto (tgt := 124) hx hb dX4_tell_115 (by decide) ?_
                obtain rfl := Option.some.inj hf
                exact grWi hx hb hr hlocks hP hK hD hS dX4_tell_124 (by omega) (by omega)
          · have hf := (if_pos c10).symm.trans hf
            refine lv_aload_n hx hb dX4_tell_87 rfl (lv_at hl 1 rfl) ?_
            refine va_get (D := G) (ci := 4) (v := .ref (A 2)) (C := RX4) (T := TX4) (N := 32) hx hb hts (fun w h => .tail _ (wl_X4 w h)) hown hK hP 0 rfl rfl 8 (by decide) (hts _ (.tail _ wm_8)) (fun _ h9 => h9) rfl dX4_tell_88 ?_
            refine lv_iload_n hx hb dX4_tell_91 rfl (lv_at hl 2 rfl) ?_
            obtain ⟨hg19, hf⟩ := of_gd hf
            refine va_lald (f := (Ms.avl z)) (n := (Ms.nvl z)) hx hb hK hP 2 1 rfl rfl (inb_in hg19) dX4_tell_92 ?_
            refine lv_l2i hx hb dX4_tell_93 rfl ?_
            obtain rfl := Option.some.inj hf
            exact grWi hx hb hr hlocks hP hK hD hS dX4_tell_94 (by omega) (by omega)
        · have hf := (if_pos c9).symm.trans hf
          refine lv_iload_n hx hb dX4_tell_80 rfl (lv_at hl 0 rfl) ?_
          obtain rfl := Option.some.inj hf
          exact grWi hx hb hr hlocks hP hK hD hS dX4_tell_81 (by omega) (by omega)
      · have hf := (if_neg c8).symm.trans hf
        refine lv_iconst (v := 0) hx hb dX4_tell_73 (by decide) ?_
        obtain rfl := Option.some.inj hf
        exact grWi hx hb hr hlocks hP hK hD hS dX4_tell_74 (by omega) (by omega)
    · have hf := (if_pos c7).symm.trans hf
      refine lv_iload_n hx hb dX4_tell_45 rfl (lv_at hl 0 rfl) ?_
      refine lv_if_ne (tgt := 53) hx hb dX4_tell_46 (by decide) (fun c20 => ?_) (fun c20 => ?_)
      · have hf := (if_neg c20).symm.trans hf
        refine lv_iload_n hx hb dX4_tell_53 rfl (lv_at hl 0 rfl) ?_
        refine lv_iconst (v := (-1)) hx hb dX4_tell_54 (by decide) ?_
        refine lv_icmp_ne (tgt := 62) hx hb dX4_tell_55 (by decide) (fun c21 => ?_) (fun c21 => ?_)
        · have hf := (if_neg c21).symm.trans hf
          refine lv_aload_n hx hb dX4_tell_62 rfl (lv_at hl 1 rfl) ?_
          refine va_get (D := G) (ci := 4) (v := .ref (A 3)) (C := RX4) (T := TX4) (N := 32) hx hb hts (fun w h => .tail _ (wl_X4 w h)) hown hK hP 0 rfl rfl 10 (by decide) (hts _ (.tail _ wm_2)) (fun _ h9 => h9) rfl dX4_tell_63 ?_
          refine lv_iload_n hx hb dX4_tell_66 rfl (lv_at hl 0 rfl) ?_
          obtain ⟨hg22, hf⟩ := of_gd hf
          refine va_iald (f := (Ms.aso z)) (n := (Ms.nso z)) hx hb hK hP 3 0 rfl rfl (inb_in hg22) dX4_tell_67 ?_
          obtain rfl := Option.some.inj hf
          exact grWi hx hb hr hlocks hP hK hD hS dX4_tell_68 (by omega) (by omega)
        · have hf := (if_pos c21).symm.trans hf
          refine lv_iconst (v := 1) hx hb dX4_tell_58 (by decide) ?_
          refine lv_goto (tgt := 68) hx hb dX4_tell_59 (by decide) ?_
          obtain rfl := Option.some.inj hf
          exact grWi hx hb hr hlocks hP hK hD hS dX4_tell_68 (by omega) (by omega)
      · have hf := (if_pos c20).symm.trans hf
        refine lv_iconst (v := 0) hx hb dX4_tell_49 (by decide) ?_
        refine lv_goto (tgt := 68) hx hb dX4_tell_50 (by decide) ?_
        obtain rfl := Option.some.inj hf
        exact grWi hx hb hr hlocks hP hK hD hS dX4_tell_68 (by omega) (by omega)
  · have hf := (if_neg c5).symm.trans hf
    refine lv_iconst (v := 0) hx hb dX4_tell_32 (by decide) ?_
    obtain rfl := Option.some.inj hf
    exact grWi hx hb hr hlocks hP hK hD hS dX4_tell_33 (by omega) (by omega)
set_option maxHeartbeats 4000000 in
set_option maxRecDepth 100000 in
theorem L_md_tell_j17 (l : Launch) (G : va_G) (cI cL cZ cB : ClassId) (q : Nat) (w : va_W) (p : Program) (e : Env) (s : State) (m : MethodId) (args : Array Value) (below : List Frame) (meth : Method) (c : Code) (O0 : Ms × Int32) (mcT msT : Nat) (C : MC p s m args meth c cX4_tell 4 (some .int) RX4 vX4_tell) (hK : va_K G vwCl (mt cI cL cZ cB) s) : At_md_tell_j17 l G cI cL cZ cB q w p e s m args below meth c O0 mcT msT md_tell_j17 := by
  obtain ⟨hx, hb, hr, hml, hown, hts, hlocks⟩ := id C
  have FX : CallFix p m c cX4_tell 4 s args vX4_tell RX4 := ⟨hx, hb, hml, hown, hts⟩
  have hA : ∀ q9 : Nat, s.heap.size ≤ q9 → va_A w s.heap.size q9 := fun q9 h => Or.inr h
  intro A z x1 x2 H locs ls cells slots hP hD hS hl hf hcc hss
  unfold md_tell_j17 at hf
  refine lv_iconst (v := 1) hx hb dX4_tell_17 (by decide) ?_
  refine lv_goto (tgt := 22) hx hb dX4_tell_18 (by decide) ?_
  exact L_md_tell_j22 _ _ _ _ _ _ _ _ _ _ _ _ _ _ _ _ _ _ _ C hK _ _ _ _ _ _ _ _ _ _ hP hD hS (lv_sub hl [0, 1, 2] rfl) hf (by omega) (by omega)
set_option maxHeartbeats 4000000 in
set_option maxRecDepth 100000 in
theorem c_md_tell (l : Launch) (G : va_G) (cI cL cZ cB : ClassId) (q : Nat) (A : Nat → Nat) (z : Ms) (sz : Nat) (p0 : Int32) (p1 : Int32) (O0 : Ms × Int32) (hf : md_tell z p0 p1 = some O0) : Met l yX4_tell vX4_tell { frames := 1, cells := 0, slots := 0, locals := 23 } (gPc G vwCl (mt cI cL cZ cB) [.ref q, .int p0, .int p1] (mw cI cL cZ cB q A z) sz) (qWi G vwCl (mt cI cL cZ cB) (mw cI cL cZ cB q A z) sz (mw cI cL cZ cB q) O0) 0 0 (va_A (mw cI cL cZ cB q A z) sz) := by
  refine gMet (by decide) rfl (Nat.le_of_ble_eq_true rfl) ?_
  intro p e s m below meth c ls C hK hP hD hsz hl
  subst hsz
  obtain ⟨hx, hb, hr, hml, hown, hts, hlocks⟩ := id C
  have FX : CallFix p m c cX4_tell 4 s _ vX4_tell RX4 := ⟨hx, hb, hml, hown, hts⟩
  have hA : ∀ q9 : Nat, s.heap.size ≤ q9 → va_A (mw cI cL cZ cB q A z) s.heap.size q9 := fun q9 h => Or.inr h
  have hS : va_S (va_A (mw cI cL cZ cB q A z) s.heap.size) s.heap s.heap [] := va_S.rf
  have hl : lv_has ls 4 [(0, .ref q), (1, .int p0), (2, .int p1)] := hl
  unfold md_tell at hf
  refine lv_aload_n hx hb dX4_tell_0 rfl (lv_at hl 0 rfl) ?_
  refine lv_iload_n hx hb dX4_tell_1 rfl (lv_at hl 1 rfl) ?_
  obtain ⟨r1, ho1, hf⟩ := of_b0 hf
  refine gcRi (gS FX [.int p0] (c_md_isRegister l G cI cL cZ cB q A z _ p0 _ ho1) (cwS 1 hts (gi_S wm_79 wm_80 wm_6 wm_81) rfl rfl rfl hdS_X4_isRegister ⟨Nat.le_of_ble_eq_true rfl, Nat.le_of_ble_eq_true rfl⟩) hK hP hD rfl hl.1 (Nat.le_of_ble_eq_true rfl) dX4_tell_2 ⟨by show _ ≤ 0; omega, by show _ ≤ 0; omega⟩) hS hD hA (fun H locs hP hS => ?_)
  refine lv_if_eq (tgt := 17) hx hb dX4_tell_5 (by decide) (fun c2 => ?_) (fun c2 => ?_)
  · have hf := (if_pos c2).symm.trans hf
    exact L_md_tell_j17 _ _ _ _ _ _ _ _ _ _ _ _ _ _ _ _ _ _ _ C hK _ _ _ _ _ _ _ _ _ hP hD hS (lv_sub hl [0, 1, 2] rfl) hf (by omega) (by omega)
  · have hf := (if_neg c2).symm.trans hf
    refine lv_iload_n hx hb dX4_tell_8 rfl (lv_at hl 2 rfl) ?_
    refine lv_iconst (v := 0) hx hb dX4_tell_9 (by decide) ?_
    refine lv_iconst (v := 4) hx hb dX4_tell_10 (by decide) ?_
    obtain ⟨r3, ho3, hf⟩ := of_b0 hf
    refine gcRi (gS FX [.int p1, .int 0, .int 4] (c_md_outside l G cI cL cZ cB q A z _ p1 0 4 _ ho3) (cwS 3 hts (gi_S wm_89 wm_90 wm_6 wm_91) rfl rfl rfl hdS_X4_outside ⟨Nat.le_of_ble_eq_true rfl, Nat.le_of_ble_eq_true rfl⟩) hK hP hD rfl hl.1 (Nat.le_of_ble_eq_true rfl) dX4_tell_11 ⟨by show _ ≤ 0; omega, by show _ ≤ 0; omega⟩) hS hD hA (fun H locs hP hS => ?_)
    refine lv_if_eq (tgt := 21) hx hb dX4_tell_14 (by decide) (fun c4 => ?_) (fun c4 => ?_)
    · have hf := (if_pos c4).symm.trans hf
      refine lv_iconst (v := 0) hx hb dX4_tell_21 (by decide) ?_
      exact L_md_tell_j22 _ _ _ _ _ _ _ _ _ _ _ _ _ _ _ _ _ _ _ C hK _ _ _ _ _ _ _ _ _ _ hP hD hS (lv_sub hl [0, 1, 2] rfl) hf (by omega) (by omega)
    · have hf := (if_neg c4).symm.trans hf
      exact L_md_tell_j17 _ _ _ _ _ _ _ _ _ _ _ _ _ _ _ _ _ _ _ C hK _ _ _ _ _ _ _ _ _ hP hD hS (lv_sub hl [0, 1, 2] rfl) hf (by omega) (by omega)
