set_option maxHeartbeats 4000000 in
set_option maxRecDepth 100000 in
theorem c_wh_tell (l : Launch) (hl0 : l.stackTraces = false) (G : va_G) (cL cZ : ClassId) (Q : Nat → Nat) (A : Nat → Nat) (z : Hs) (sz : Nat) (p0 : Int32) (p1 : Int32) (O0 : (String ⊕ Int32)) (hf : wh_tell z p0 p1 = some O0) : vx_Met l yX3_tell vX3_tell { frames := 9, cells := 2, slots := 12, locals := 222 } (gPx txC G vwCl (ct cL cZ) [.ref (Q 0), .int p0, .int p1] (cw cL cZ Q A z) sz) (qTi G vwCl (ct cL cZ) (cw cL cZ Q A z) sz O0) (xT G vwCl (ct cL cZ) (cw cL cZ Q A z) sz O0) 2 12 (va_A (cw cL cZ Q A z) sz) := by
  refine gMetx (by decide) rfl (Nat.le_of_ble_eq_true rfl) ?_
  intro p e s m below meth c ls C hE hK hP hD hT hsz hl
  subst hsz
  obtain ⟨hx, hb, hr, hml, hown, hts, hlocks⟩ := id C
  have FX : CallFix p m c cX3_tell 5 s _ vX3_tell RX3 := ⟨hx, hb, hml, hown, hts⟩
  have hA : ∀ q9 : Nat, s.heap.size ≤ q9 → va_A (cw cL cZ Q A z) s.heap.size q9 := fun q9 h => Or.inr h
  have hS : va_S (va_A (cw cL cZ Q A z) s.heap.size) s.heap s.heap [] := va_S.rf
  have hl : lv_has ls 5 [(0, .ref (Q 0)), (1, .int p0), (2, .int p1)] := hl
  unfold wh_tell at hf
  refine lv_iload_n hx hb dX3_tell_0 rfl (lv_at hl 1 rfl) ?_
  rcases of_bt hf with ⟨e9, ho1, hj⟩ | ⟨o9, ho1, hf⟩
  · subst hj
    exact goutT (gSx FX [.int p0] (c_wh_needRegister l hl0 G cL cZ Q A z _ p0 _ ho1) (cwS 1 hts (gi_S wd_271 wd_272 wd_273 wd_274) rfl rfl rfl hdS_X3_needRegister ⟨Nat.le_of_ble_eq_true rfl, Nat.le_of_ble_eq_true rfl⟩) hK hP hD hT hS hA rfl hl.1 (Nat.le_of_ble_eq_true rfl) dX3_tell_1 ⟨by show _ ≤ 2; omega, by show _ ≤ 12; omega⟩) (noTv) hS hD hK hE hlocks (by omega) (by omega)
  refine gcTv (gSx FX [.int p0] (c_wh_needRegister l hl0 G cL cZ Q A z _ p0 _ ho1) (cwS 1 hts (gi_S wd_271 wd_272 wd_273 wd_274) rfl rfl rfl hdS_X3_needRegister ⟨Nat.le_of_ble_eq_true rfl, Nat.le_of_ble_eq_true rfl⟩) hK hP hD hT hS hA rfl hl.1 (Nat.le_of_ble_eq_true rfl) dX3_tell_1 ⟨by show _ ≤ 2; omega, by show _ ≤ 12; omega⟩) hS hD hA (fun H locs hP hS => ?_)
  refine lv_iload_n hx hb dX3_tell_4 rfl (lv_at hl 2 rfl) ?_
  refine lv_iconst (v := 0) hx hb dX3_tell_5 (by decide) ?_
  refine lv_iconst (v := 4) hx hb dX3_tell_6 (by decide) ?_
  rcases of_bt hf with ⟨e9, ho2, hj⟩ | ⟨o9, ho2, hf⟩
  · subst hj
    exact goutT (gSx FX [.int p1, .int 0, .int 4] (c_wh_needWithin l hl0 G cL cZ Q A z _ p1 0 4 _ ho2) (cwS 3 hts (gi_S wd_289 wd_290 wd_273 wd_291) rfl rfl rfl hdS_X3_needWithin ⟨Nat.le_of_ble_eq_true rfl, Nat.le_of_ble_eq_true rfl⟩) hK hP hD hT hS hA rfl hl.1 (Nat.le_of_ble_eq_true rfl) dX3_tell_7 ⟨by show _ ≤ 2; omega, by show _ ≤ 12; omega⟩) (noTv) hS hD hK hE hlocks (by omega) (by omega)
  refine gcTv (gSx FX [.int p1, .int 0, .int 4] (c_wh_needWithin l hl0 G cL cZ Q A z _ p1 0 4 _ ho2) (cwS 3 hts (gi_S wd_289 wd_290 wd_273 wd_291) rfl rfl rfl hdS_X3_needWithin ⟨Nat.le_of_ble_eq_true rfl, Nat.le_of_ble_eq_true rfl⟩) hK hP hD hT hS hA rfl hl.1 (Nat.le_of_ble_eq_true rfl) dX3_tell_7 ⟨by show _ ≤ 2; omega, by show _ ≤ 12; omega⟩) hS hD hA (fun H locs hP hS => ?_)
  refine lv_aload_n hx hb dX3_tell_10 rfl (lv_at hl 0 rfl) ?_
  refine va_get (D := G) (ci := 3) (v := .ref (Q 1)) (C := RX3) (T := TX3) (N := 3) hx hb hts (fun w h => .tail _ (wl_X3 w h)) hown hK hP 0 rfl rfl 0 (by decide) (hts _ (.tail _ wd_269)) (fun _ h9 => h9) rfl dX3_tell_11 ?_
  refine lv_iload_n hx hb dX3_tell_14 rfl (lv_at hl 1 rfl) ?_
  obtain ⟨r3, ho3, hf⟩ := of_b0 hf
  refine gcRi (gV FX [.int p0] (c_hp_kindAt l G cL cZ Q A z _ p0 _ ho3) (cwV 1 hts (gi_V wd_301 wd_187 wd_188 wd_7 wd_189) rfl rfl rfl hdV_X0_kindAt ⟨Nat.le_of_ble_eq_true rfl, Nat.le_of_ble_eq_true rfl⟩) hK hP hD 1 rfl rfl rfl hl.1 (Nat.le_of_ble_eq_true rfl) dX3_tell_15 ⟨by show _ ≤ 2; omega, by show _ ≤ 12; omega⟩) hS hD hA (fun H locs hP hS => ?_)
  refine lv_istore_n (lv' := [(3, .int r3), (0, .ref (Q 0)), (1, .int p0), (2, .int p1)]) hx hb dX3_tell_18 rfl hl (by decide) rfl (fun ls hl => ?_)
  refine lv_iload_n hx hb dX3_tell_19 rfl (lv_at hl 3 rfl) ?_
  refine lv_if_ne (tgt := 25) hx hb dX3_tell_20 (by decide) (fun c4 => ?_) (fun c4 => ?_)
  · have hf := (if_neg c4).symm.trans hf
    refine lv_iload_n hx hb dX3_tell_25 rfl (lv_at hl 0 rfl) ?_
    refine lv_if_eq (tgt := 34) hx hb dX3_tell_26 (by decide) (fun c5 => ?_) (fun c5 => ?_)
    · have hf := (if_pos c5).symm.trans hf
      refine lv_iconst (v := 0) hx hb dX3_tell_34 (by decide) ?_
      obtain rfl := Option.some.inj hf
      exact grTi hx hb hr hlocks hP hK hD hS dX3_tell_35 (by omega) (by omega)
    · have hf := (if_neg c5).symm.trans hf
      refine lv_iload_n hx hb dX3_tell_29 rfl (lv_at hl 0 rfl) ?_
      refine lv_iconst (v := 1) hx hb dX3_tell_30 (by decide) ?_
      refine lv_icmp_ne (tgt := 36) hx hb dX3_tell_31 (by decide) (fun c6 => ?_) (fun c6 => ?_)
      · have hf := (if_neg c6).symm.trans hf
        refine lv_aload_n hx hb dX3_tell_36 rfl (lv_at hl 1 rfl) ?_
        refine va_get (D := G) (ci := 3) (v := .ref (Q 1)) (C := RX3) (T := TX3) (N := 3) hx hb hts (fun w h => .tail _ (wl_X3 w h)) hown hK hP 0 rfl rfl 0 (by decide) (hts _ (.tail _ wd_269)) (fun _ h9 => h9) rfl dX3_tell_37 ?_
        refine lv_iload_n hx hb dX3_tell_40 rfl (lv_at hl 2 rfl) ?_
        obtain ⟨r7, ho7, hf⟩ := of_b0 hf
        refine gcRi (gV FX [.int p0] (c_hp_handleAt l G cL cZ Q A z _ p0 _ ho7) (cwV 1 hts (gi_V wd_298 wd_14 wd_15 wd_7 wd_16) rfl rfl rfl hdV_X0_handleAt ⟨Nat.le_of_ble_eq_true rfl, Nat.le_of_ble_eq_true rfl⟩) hK hP hD 1 rfl rfl rfl hl.1 (Nat.le_of_ble_eq_true rfl) dX3_tell_41 ⟨by show _ ≤ 2; omega, by show _ ≤ 12; omega⟩) hS hD hA (fun H locs hP hS => ?_)
        refine lv_istore (lv' := [(4, .int r7), (3, .int r3), (0, .ref (Q 0)), (1, .int p0), (2, .int p1)]) hx hb dX3_tell_44 hl (by decide) rfl (fun ls hl => ?_)
        refine lv_iload_n hx hb dX3_tell_46 rfl (lv_at hl 4 rfl) ?_
        rcases Decidable.em (p1 = 1) with c15 | c15
        · have hf := (if_pos c15).symm.trans hf
          refine lv_tableIn (tgt := 72) (off := 25) hx hb dX3_tell_47 (by rw [c15]; decide) (by rw [c15]; decide) (by rw [c15]; rfl) (by decide) ?_
          refine lv_aload_n hx hb dX3_tell_72 rfl (lv_at hl 2 rfl) ?_
          refine va_get (D := G) (ci := 3) (v := .ref (Q 1)) (C := RX3) (T := TX3) (N := 3) hx hb hts (fun w h => .tail _ (wl_X3 w h)) hown hK hP 0 rfl rfl 0 (by decide) (hts _ (.tail _ wd_269)) (fun _ h9 => h9) rfl dX3_tell_73 ?_
          refine lv_iload hx hb dX3_tell_76 (lv_at hl 0 rfl) ?_
          obtain ⟨r8, ho8, hf⟩ := of_b0 hf
          refine gcRi (gV FX [.int r7] (c_hp_serial l G cL cZ Q A z _ r7 _ ho8) (cwV 1 hts (gi_V wd_280 wd_281 wd_282 wd_7 wd_283) rfl rfl rfl hdV_X0_serial ⟨Nat.le_of_ble_eq_true rfl, Nat.le_of_ble_eq_true rfl⟩) hK hP hD 1 rfl rfl rfl hl.1 (Nat.le_of_ble_eq_true rfl) dX3_tell_78 ⟨by show _ ≤ 2; omega, by show _ ≤ 12; omega⟩) hS hD hA (fun H locs hP hS => ?_)
          obtain rfl := Option.some.inj hf
          exact grTi hx hb hr hlocks hP hK hD hS dX3_tell_81 (by omega) (by omega)
        have hf := (if_neg c15).symm.trans hf
        rcases Decidable.em (p1 = 2) with c16 | c16
        · have hf := (if_pos c16).symm.trans hf
          refine lv_tableIn (tgt := 82) (off := 35) hx hb dX3_tell_47 (by rw [c16]; decide) (by rw [c16]; decide) (by rw [c16]; rfl) (by decide) ?_
          refine lv_aload_n hx hb dX3_tell_82 rfl (lv_at hl 2 rfl) ?_
          refine va_get (D := G) (ci := 3) (v := .ref (Q 1)) (C := RX3) (T := TX3) (N := 3) hx hb hts (fun w h => .tail _ (wl_X3 w h)) hown hK hP 0 rfl rfl 0 (by decide) (hts _ (.tail _ wd_269)) (fun _ h9 => h9) rfl dX3_tell_83 ?_
          refine lv_iload_n hx hb dX3_tell_86 rfl (lv_at hl 3 rfl) ?_
          obtain ⟨r9, ho9, hf⟩ := of_b0 hf
          refine gcRi (gV FX [.int p0] (c_hp_placeAt l G cL cZ Q A z _ p0 _ ho9) (cwV 1 hts (gi_V wd_338 wd_339 wd_340 wd_7 wd_341) rfl rfl rfl hdV_X0_placeAt ⟨Nat.le_of_ble_eq_true rfl, Nat.le_of_ble_eq_true rfl⟩) hK hP hD 1 rfl rfl rfl hl.1 (Nat.le_of_ble_eq_true rfl) dX3_tell_87 ⟨by show _ ≤ 2; omega, by show _ ≤ 12; omega⟩) hS hD hA (fun H locs hP hS => ?_)
          obtain rfl := Option.some.inj hf
          exact grTi hx hb hr hlocks hP hK hD hS dX3_tell_90 (by omega) (by omega)
        have hf := (if_neg c16).symm.trans hf
        rcases Decidable.em (p1 = 3) with c17 | c17
        · have hf := (if_pos c17).symm.trans hf
          refine lv_tableIn (tgt := 91) (off := 44) hx hb dX3_tell_47 (by rw [c17]; decide) (by rw [c17]; decide) (by rw [c17]; rfl) (by decide) ?_
          refine lv_iload_n hx hb dX3_tell_91 rfl (lv_at hl 1 rfl) ?_
          refine lv_iconst (v := 4) hx hb dX3_tell_92 (by decide) ?_
          refine lv_icmp_ne (tgt := 108) hx hb dX3_tell_93 (by decide) (fun c10 => ?_) (fun c10 => ?_)
          · have hf := (if_neg c10).symm.trans hf
            refine lv_aload_n hx hb dX3_tell_108 rfl (lv_at hl 2 rfl) ?_
            refine va_get (D := G) (ci := 3) (v := .ref (Q 1)) (C := RX3) (T := TX3) (N := 3) hx hb hts (fun w h => .tail _ (wl_X3 w h)) hown hK hP 0 rfl rfl 0 (by decide) (hts _ (.tail _ wd_269)) (fun _ h9 => h9) rfl dX3_tell_109 ?_
            refine lv_iload hx hb dX3_tell_112 (lv_at hl 0 rfl) ?_
            obtain ⟨r11, ho11, hf⟩ := of_b0 hf
            refine gcRi (gV FX [.int r7] (c_hp_length l G cL cZ Q A z _ r7 _ ho11) (cwV 1 hts (gi_V wd_307 wd_61 wd_62 wd_7 wd_63) rfl rfl rfl hdV_X0_length ⟨Nat.le_of_ble_eq_true rfl, Nat.le_of_ble_eq_true rfl⟩) hK hP hD 1 rfl rfl rfl hl.1 (Nat.le_of_ble_eq_true rfl) dX3_tell_114 ⟨by show _ ≤ 2; omega, by show _ ≤ 12; omega⟩) hS hD hA (fun H locs hP hS => ?_)
            obtain rfl := Option.some.inj hf
            exact grTi hx hb hr hlocks hP hK hD hS dX3_tell_117 (by omega) (by omega)
          · have hf := (if_pos c10).symm.trans hf
            refine lv_aload_n hx hb dX3_tell_96 rfl (lv_at hl 2 rfl) ?_
            refine va_get (D := G) (ci := 3) (v := .ref (Q 3)) (C := RX3) (T := TX3) (N := 3) hx hb hts (fun w h => .tail _ (wl_X3 w h)) hown hK hP 0 rfl rfl 2 (by decide) (hts _ (.tail _ wd_293)) (fun _ h9 => h9) rfl dX3_tell_97 ?_
            refine lv_iload hx hb dX3_tell_100 (lv_at hl 0 rfl) ?_
            obtain ⟨r12, ho12, hf⟩ := of_b0 hf
            refine gcRi (gV FX [.int r7] (c_mp_entries l G cL cZ Q A z _ r7 _ ho12) (cwV 1 hts (gi_V wd_405 wd_229 wd_230 wd_166 wd_231) rfl rfl rfl hdV_X1_entries ⟨Nat.le_of_ble_eq_true rfl, Nat.le_of_ble_eq_true rfl⟩) hK hP hD 3 rfl rfl rfl hl.1 (Nat.le_of_ble_eq_true rfl) dX3_tell_102 ⟨by show _ ≤ 2; omega, by show _ ≤ 12; omega⟩) hS hD hA (fun H locs hP hS => ?_)
            refine lv_goto (tgt := 117) hx hb dX3_tell_105 (by decide) ?_
            obtain rfl := Option.some.inj hf
            exact grTi hx hb hr hlocks hP hK hD hS dX3_tell_117 (by omega) (by omega)
        have hf := (if_neg c17).symm.trans hf
        refine lv_tableOut (tgt := 118) hx hb dX3_tell_47 (by have kc15 : p1.toInt ≠ 1 := fun h => c15 (Int32.toInt_inj.mp (h.trans (by decide))); have kc16 : p1.toInt ≠ 2 := fun h => c16 (Int32.toInt_inj.mp (h.trans (by decide))); have kc17 : p1.toInt ≠ 3 := fun h => c17 (Int32.toInt_inj.mp (h.trans (by decide))); omega) (by decide) ?_
        refine lv_iload_n hx hb dX3_tell_118 rfl (lv_at hl 1 rfl) ?_
        refine lv_iconst (v := 4) hx hb dX3_tell_119 (by decide) ?_
        refine lv_icmp_ne (tgt := 135) hx hb dX3_tell_120 (by decide) (fun c13 => ?_) (fun c13 => ?_)
        · have hf := (if_neg c13).symm.trans hf
          refine lv_iconst (v := 0) hx hb dX3_tell_135 (by decide) ?_
          obtain rfl := Option.some.inj hf
          exact grTi hx hb hr hlocks hP hK hD hS dX3_tell_136 (by omega) (by omega)
        · have hf := (if_pos c13).symm.trans hf
          refine lv_aload_n hx hb dX3_tell_123 rfl (lv_at hl 2 rfl) ?_
          refine va_get (D := G) (ci := 3) (v := .ref (Q 3)) (C := RX3) (T := TX3) (N := 3) hx hb hts (fun w h => .tail _ (wl_X3 w h)) hown hK hP 0 rfl rfl 2 (by decide) (hts _ (.tail _ wd_293)) (fun _ h9 => h9) rfl dX3_tell_124 ?_
          refine lv_iload hx hb dX3_tell_127 (lv_at hl 0 rfl) ?_
          obtain ⟨r14, ho14, hf⟩ := of_b0 hf
          refine gcRi (gV FX [.int r7] (c_mp_capacity l G cL cZ Q A z _ r7 _ ho14) (cwV 1 hts (gi_V wd_406 wd_233 wd_234 wd_166 wd_235) rfl rfl rfl hdV_X1_capacity ⟨Nat.le_of_ble_eq_true rfl, Nat.le_of_ble_eq_true rfl⟩) hK hP hD 3 rfl rfl rfl hl.1 (Nat.le_of_ble_eq_true rfl) dX3_tell_129 ⟨by show _ ≤ 2; omega, by show _ ≤ 12; omega⟩) hS hD hA (fun H locs hP hS => ?_)
          refine lv_goto (tgt := 136) hx hb dX3_tell_132 (by decide) ?_
          obtain rfl := Option.some.inj hf
          exact grTi hx hb hr hlocks hP hK hD hS dX3_tell_136 (by omega) (by omega)
      · have hf := (if_pos c6).symm.trans hf
        refine lv_iconst (v := 0) hx hb dX3_tell_34 (by decide) ?_
        obtain rfl := Option.some.inj hf
        exact grTi hx hb hr hlocks hP hK hD hS dX3_tell_35 (by omega) (by omega)
  · have hf := (if_pos c4).symm.trans hf
    refine lv_iload_n hx hb dX3_tell_23 rfl (lv_at hl 0 rfl) ?_
    obtain rfl := Option.some.inj hf
    exact grTi hx hb hr hlocks hP hK hD hS dX3_tell_24 (by omega) (by omega)
set_option maxHeartbeats 4000000 in
set_option maxRecDepth 100000 in
theorem c_wh_value (l : Launch) (hl0 : l.stackTraces = false) (G : va_G) (cL cZ : ClassId) (Q : Nat → Nat) (A : Nat → Nat) (z : Hs) (sz : Nat) (p0 : Int32) (O0 : (String ⊕ Int64)) (hf : wh_value z p0 = some O0) : vx_Met l yX3_value vX3_value { frames := 9, cells := 2, slots := 12, locals := 220 } (gPx txC G vwCl (ct cL cZ) [.ref (Q 0), .int p0] (cw cL cZ Q A z) sz) (qTl G vwCl (ct cL cZ) (cw cL cZ Q A z) sz O0) (xT G vwCl (ct cL cZ) (cw cL cZ Q A z) sz O0) 2 12 (va_A (cw cL cZ Q A z) sz) := by
  refine gMetx (by decide) rfl (Nat.le_of_ble_eq_true rfl) ?_
  intro p e s m below meth c ls C hE hK hP hD hT hsz hl
  subst hsz
  obtain ⟨hx, hb, hr, hml, hown, hts, hlocks⟩ := id C
  have FX : CallFix p m c cX3_value 2 s _ vX3_value RX3 := ⟨hx, hb, hml, hown, hts⟩
  have hA : ∀ q9 : Nat, s.heap.size ≤ q9 → va_A (cw cL cZ Q A z) s.heap.size q9 := fun q9 h => Or.inr h
  have hS : va_S (va_A (cw cL cZ Q A z) s.heap.size) s.heap s.heap [] := va_S.rf
  have hl : lv_has ls 2 [(0, .ref (Q 0)), (1, .int p0)] := hl
  unfold wh_value at hf
  refine lv_iload_n hx hb dX3_value_0 rfl (lv_at hl 1 rfl) ?_
  rcases of_bt hf with ⟨e9, ho1, hj⟩ | ⟨o9, ho1, hf⟩
  · subst hj
    exact goutT (gSx FX [.int p0] (c_wh_needRegister l hl0 G cL cZ Q A z _ p0 _ ho1) (cwS 1 hts (gi_S wd_271 wd_272 wd_273 wd_274) rfl rfl rfl hdS_X3_needRegister ⟨Nat.le_of_ble_eq_true rfl, Nat.le_of_ble_eq_true rfl⟩) hK hP hD hT hS hA rfl hl.1 (Nat.le_of_ble_eq_true rfl) dX3_value_1 ⟨by show _ ≤ 2; omega, by show _ ≤ 12; omega⟩) (noTv) hS hD hK hE hlocks (by omega) (by omega)
  refine gcTv (gSx FX [.int p0] (c_wh_needRegister l hl0 G cL cZ Q A z _ p0 _ ho1) (cwS 1 hts (gi_S wd_271 wd_272 wd_273 wd_274) rfl rfl rfl hdS_X3_needRegister ⟨Nat.le_of_ble_eq_true rfl, Nat.le_of_ble_eq_true rfl⟩) hK hP hD hT hS hA rfl hl.1 (Nat.le_of_ble_eq_true rfl) dX3_value_1 ⟨by show _ ≤ 2; omega, by show _ ≤ 12; omega⟩) hS hD hA (fun H locs hP hS => ?_)
  refine lv_aload_n hx hb dX3_value_4 rfl (lv_at hl 0 rfl) ?_
  refine va_get (D := G) (ci := 3) (v := .ref (Q 1)) (C := RX3) (T := TX3) (N := 3) hx hb hts (fun w h => .tail _ (wl_X3 w h)) hown hK hP 0 rfl rfl 0 (by decide) (hts _ (.tail _ wd_269)) (fun _ h9 => h9) rfl dX3_value_5 ?_
  refine lv_iload_n hx hb dX3_value_8 rfl (lv_at hl 1 rfl) ?_
  obtain ⟨r2, ho2, hf⟩ := of_b0 hf
  refine gcRi (gV FX [.int p0] (c_hp_isReference l G cL cZ Q A z _ p0 _ ho2) (cwV 1 hts (gi_V wd_408 wd_409 wd_410 wd_7 wd_411) rfl rfl rfl hdV_X0_isReference ⟨Nat.le_of_ble_eq_true rfl, Nat.le_of_ble_eq_true rfl⟩) hK hP hD 1 rfl rfl rfl hl.1 (Nat.le_of_ble_eq_true rfl) dX3_value_9 ⟨by show _ ≤ 2; omega, by show _ ≤ 12; omega⟩) hS hD hA (fun H locs hP hS => ?_)
  refine lv_if_eq (tgt := 25) hx hb dX3_value_12 (by decide) (fun c3 => ?_) (fun c3 => ?_)
  · have hf := (if_pos c3).symm.trans hf
    refine lv_aload_n hx hb dX3_value_25 rfl (lv_at hl 0 rfl) ?_
    refine va_get (D := G) (ci := 3) (v := .ref (Q 1)) (C := RX3) (T := TX3) (N := 3) hx hb hts (fun w h => .tail _ (wl_X3 w h)) hown hK hP 0 rfl rfl 0 (by decide) (hts _ (.tail _ wd_269)) (fun _ h9 => h9) rfl dX3_value_26 ?_
    refine lv_iload_n hx hb dX3_value_29 rfl (lv_at hl 1 rfl) ?_
    obtain ⟨r4, ho4, hf⟩ := of_b0 hf
    refine gcRl (gV FX [.int p0] (c_hp_bitsAt l G cL cZ Q A z _ p0 _ ho4) (cwV 1 hts (gi_V wd_407 wd_120 wd_121 wd_7 wd_122) rfl rfl rfl hdV_X0_bitsAt ⟨Nat.le_of_ble_eq_true rfl, Nat.le_of_ble_eq_true rfl⟩) hK hP hD 1 rfl rfl rfl hl.1 (Nat.le_of_ble_eq_true rfl) dX3_value_30 ⟨by show _ ≤ 2; omega, by show _ ≤ 12; omega⟩) hS hD hA (fun H locs hP hS => ?_)
    obtain rfl := Option.some.inj hf
    exact grTl hx hb hr hlocks hP hK hD hS dX3_value_33 (by omega) (by omega)
  · have hf := (if_neg c3).symm.trans hf
    obtain rfl := Option.some.inj hf
    exact gthr0 (cls := "java/lang/UnsupportedOperationException") (names := ["java/lang/RuntimeException", "java/lang/Exception"]) (text := "no number") hx hb hl0 hown hts (by decide) (by decide) (.tail _ wd_299) (.tail _ wd_300) (by decide +kernel) (fun w h => .tail _ (tha_2 w h)) tht_2 (by decide +kernel) thg_2_82 hT hS (hl.1.trans hml.symm) dX3_value_15 dX3_value_18 dX3_value_19 dX3_value_21 dX3_value_24 hE (Nat.lt_of_succ_le (Nat.le_of_ble_eq_true rfl)) (Nat.le_of_ble_eq_true rfl) (by show _ ≤ 2; omega) (by show _ ≤ 12; omega) hlocks (gqT hP hK hD hS) hS.2.2 (by omega) (by omega)
set_option maxHeartbeats 4000000 in
set_option maxRecDepth 100000 in
theorem c_wh_same (l : Launch) (hl0 : l.stackTraces = false) (G : va_G) (cL cZ : ClassId) (Q : Nat → Nat) (A : Nat → Nat) (z : Hs) (sz : Nat) (p0 : Int32) (p1 : Int32) (O0 : (String ⊕ Int32)) (hf : wh_same z p0 p1 = some O0) : vx_Met l yX3_same vX3_same { frames := 9, cells := 2, slots := 12, locals := 220 } (gPx txC G vwCl (ct cL cZ) [.ref (Q 0), .int p0, .int p1] (cw cL cZ Q A z) sz) (qTi G vwCl (ct cL cZ) (cw cL cZ Q A z) sz O0) (xT G vwCl (ct cL cZ) (cw cL cZ Q A z) sz O0) 2 12 (va_A (cw cL cZ Q A z) sz) := by
  refine gMetx (by decide) rfl (Nat.le_of_ble_eq_true rfl) ?_
  intro p e s m below meth c ls C hE hK hP hD hT hsz hl
  subst hsz
  obtain ⟨hx, hb, hr, hml, hown, hts, hlocks⟩ := id C
  have FX : CallFix p m c cX3_same 3 s _ vX3_same RX3 := ⟨hx, hb, hml, hown, hts⟩
  have hA : ∀ q9 : Nat, s.heap.size ≤ q9 → va_A (cw cL cZ Q A z) s.heap.size q9 := fun q9 h => Or.inr h
  have hS : va_S (va_A (cw cL cZ Q A z) s.heap.size) s.heap s.heap [] := va_S.rf
  have hl : lv_has ls 3 [(0, .ref (Q 0)), (1, .int p0), (2, .int p1)] := hl
  unfold wh_same at hf
  refine lv_iload_n hx hb dX3_same_0 rfl (lv_at hl 1 rfl) ?_
  rcases of_bt hf with ⟨e9, ho1, hj⟩ | ⟨o9, ho1, hf⟩
  · subst hj
    exact goutT (gSx FX [.int p0] (c_wh_needRegister l hl0 G cL cZ Q A z _ p0 _ ho1) (cwS 1 hts (gi_S wd_271 wd_272 wd_273 wd_274) rfl rfl rfl hdS_X3_needRegister ⟨Nat.le_of_ble_eq_true rfl, Nat.le_of_ble_eq_true rfl⟩) hK hP hD hT hS hA rfl hl.1 (Nat.le_of_ble_eq_true rfl) dX3_same_1 ⟨by show _ ≤ 2; omega, by show _ ≤ 12; omega⟩) (noTv) hS hD hK hE hlocks (by omega) (by omega)
  refine gcTv (gSx FX [.int p0] (c_wh_needRegister l hl0 G cL cZ Q A z _ p0 _ ho1) (cwS 1 hts (gi_S wd_271 wd_272 wd_273 wd_274) rfl rfl rfl hdS_X3_needRegister ⟨Nat.le_of_ble_eq_true rfl, Nat.le_of_ble_eq_true rfl⟩) hK hP hD hT hS hA rfl hl.1 (Nat.le_of_ble_eq_true rfl) dX3_same_1 ⟨by show _ ≤ 2; omega, by show _ ≤ 12; omega⟩) hS hD hA (fun H locs hP hS => ?_)
  refine lv_iload_n hx hb dX3_same_4 rfl (lv_at hl 2 rfl) ?_
  rcases of_bt hf with ⟨e9, ho2, hj⟩ | ⟨o9, ho2, hf⟩
  · subst hj
    exact goutT (gSx FX [.int p1] (c_wh_needRegister l hl0 G cL cZ Q A z _ p1 _ ho2) (cwS 1 hts (gi_S wd_271 wd_272 wd_273 wd_274) rfl rfl rfl hdS_X3_needRegister ⟨Nat.le_of_ble_eq_true rfl, Nat.le_of_ble_eq_true rfl⟩) hK hP hD hT hS hA rfl hl.1 (Nat.le_of_ble_eq_true rfl) dX3_same_5 ⟨by show _ ≤ 2; omega, by show _ ≤ 12; omega⟩) (noTv) hS hD hK hE hlocks (by omega) (by omega)
  refine gcTv (gSx FX [.int p1] (c_wh_needRegister l hl0 G cL cZ Q A z _ p1 _ ho2) (cwS 1 hts (gi_S wd_271 wd_272 wd_273 wd_274) rfl rfl rfl hdS_X3_needRegister ⟨Nat.le_of_ble_eq_true rfl, Nat.le_of_ble_eq_true rfl⟩) hK hP hD hT hS hA rfl hl.1 (Nat.le_of_ble_eq_true rfl) dX3_same_5 ⟨by show _ ≤ 2; omega, by show _ ≤ 12; omega⟩) hS hD hA (fun H locs hP hS => ?_)
  refine lv_aload_n hx hb dX3_same_8 rfl (lv_at hl 0 rfl) ?_
  refine va_get (D := G) (ci := 3) (v := .ref (Q 1)) (C := RX3) (T := TX3) (N := 3) hx hb hts (fun w h => .tail _ (wl_X3 w h)) hown hK hP 0 rfl rfl 0 (by decide) (hts _ (.tail _ wd_269)) (fun _ h9 => h9) rfl dX3_same_9 ?_
  refine lv_iload_n hx hb dX3_same_12 rfl (lv_at hl 1 rfl) ?_
  refine lv_iload_n hx hb dX3_same_13 rfl (lv_at hl 2 rfl) ?_
  obtain ⟨r3, ho3, hf⟩ := of_b0 hf
  refine gcRi (gV FX [.int p0, .int p1] (c_hp_sameWords l G cL cZ Q A z _ p0 p1 _ ho3) (cwV 2 hts (gi_V wd_412 wd_204 wd_205 wd_7 wd_206) rfl rfl rfl hdV_X0_sameWords ⟨Nat.le_of_ble_eq_true rfl, Nat.le_of_ble_eq_true rfl⟩) hK hP hD 1 rfl rfl rfl hl.1 (Nat.le_of_ble_eq_true rfl) dX3_same_14 ⟨by show _ ≤ 2; omega, by show _ ≤ 12; omega⟩) hS hD hA (fun H locs hP hS => ?_)
  obtain ⟨hg4, hf⟩ := of_gd hf
  obtain rfl := Option.some.inj hf
  exact grTz (zbo_n hg4) hx hb hr hlocks hP hK hD hS dX3_same_17 (by omega) (by omega)
set_option maxHeartbeats 4000000 in
set_option maxRecDepth 100000 in
theorem c_wh_total (l : Launch) (hl0 : l.stackTraces = false) (G : va_G) (cL cZ : ClassId) (Q : Nat → Nat) (A : Nat → Nat) (z : Hs) (sz : Nat) (p0 : Int32) (O0 : (String ⊕ Int32)) (hf : wh_total z p0 = some O0) : vx_Met l yX3_total vX3_total { frames := 9, cells := 1, slots := 6, locals := 222 } (gPx txC G vwCl (ct cL cZ) [.ref (Q 0), .int p0] (cw cL cZ Q A z) sz) (qTi G vwCl (ct cL cZ) (cw cL cZ Q A z) sz O0) (xT G vwCl (ct cL cZ) (cw cL cZ Q A z) sz O0) 1 6 (va_A (cw cL cZ Q A z) sz) := by
  refine gMetx (by decide) rfl (Nat.le_of_ble_eq_true rfl) ?_
  intro p e s m below meth c ls C hE hK hP hD hT hsz hl
  subst hsz
  obtain ⟨hx, hb, hr, hml, hown, hts, hlocks⟩ := id C
  have FX : CallFix p m c cX3_total 2 s _ vX3_total RX3 := ⟨hx, hb, hml, hown, hts⟩
  have hA : ∀ q9 : Nat, s.heap.size ≤ q9 → va_A (cw cL cZ Q A z) s.heap.size q9 := fun q9 h => Or.inr h
  have hS : va_S (va_A (cw cL cZ Q A z) s.heap.size) s.heap s.heap [] := va_S.rf
  have hl : lv_has ls 2 [(0, .ref (Q 0)), (1, .int p0)] := hl
  unfold wh_total at hf
  refine lv_iload_n hx hb dX3_total_0 rfl (lv_at hl 1 rfl) ?_
  refine lv_iconst (v := 0) hx hb dX3_total_1 (by decide) ?_
  refine lv_iconst (v := 4) hx hb dX3_total_2 (by decide) ?_
  rcases of_bt hf with ⟨e9, ho1, hj⟩ | ⟨o9, ho1, hf⟩
  · subst hj
    exact goutT (gSx FX [.int p0, .int 0, .int 4] (c_wh_needWithin l hl0 G cL cZ Q A z _ p0 0 4 _ ho1) (cwS 3 hts (gi_S wd_289 wd_290 wd_273 wd_291) rfl rfl rfl hdS_X3_needWithin ⟨Nat.le_of_ble_eq_true rfl, Nat.le_of_ble_eq_true rfl⟩) hK hP hD hT hS hA rfl hl.1 (Nat.le_of_ble_eq_true rfl) dX3_total_3 ⟨by show _ ≤ 1; omega, by show _ ≤ 6; omega⟩) (noTv) hS hD hK hE hlocks (by omega) (by omega)
  refine gcTv (gSx FX [.int p0, .int 0, .int 4] (c_wh_needWithin l hl0 G cL cZ Q A z _ p0 0 4 _ ho1) (cwS 3 hts (gi_S wd_289 wd_290 wd_273 wd_291) rfl rfl rfl hdS_X3_needWithin ⟨Nat.le_of_ble_eq_true rfl, Nat.le_of_ble_eq_true rfl⟩) hK hP hD hT hS hA rfl hl.1 (Nat.le_of_ble_eq_true rfl) dX3_total_3 ⟨by show _ ≤ 1; omega, by show _ ≤ 6; omega⟩) hS hD hA (fun H locs hP hS => ?_)
  refine lv_aload_n hx hb dX3_total_6 rfl (lv_at hl 0 rfl) ?_
  refine va_get (D := G) (ci := 3) (v := .ref (Q 1)) (C := RX3) (T := TX3) (N := 3) hx hb hts (fun w h => .tail _ (wl_X3 w h)) hown hK hP 0 rfl rfl 0 (by decide) (hts _ (.tail _ wd_269)) (fun _ h9 => h9) rfl dX3_total_7 ?_
  refine lv_iload_n hx hb dX3_total_10 rfl (lv_at hl 1 rfl) ?_
  obtain ⟨r2, ho2, hf⟩ := of_b0 hf
  refine gcRi (gV FX [.int p0] (c_hp_count l G cL cZ Q A z _ p0 _ ho2) (cwV 1 hts (gi_V wd_413 wd_414 wd_415 wd_7 wd_416) rfl rfl rfl hdV_X0_count ⟨Nat.le_of_ble_eq_true rfl, Nat.le_of_ble_eq_true rfl⟩) hK hP hD 1 rfl rfl rfl hl.1 (Nat.le_of_ble_eq_true rfl) dX3_total_11 ⟨by show _ ≤ 1; omega, by show _ ≤ 6; omega⟩) hS hD hA (fun H locs hP hS => ?_)
  obtain rfl := Option.some.inj hf
  exact grTi hx hb hr hlocks hP hK hD hS dX3_total_14 (by omega) (by omega)
