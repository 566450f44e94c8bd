set_option maxHeartbeats 4000000 in
set_option maxRecDepth 100000 in
theorem c_wh_shift (l : Launch) (hl0 : l.stackTraces = false) (G : va_G) (cL cZ : ClassId) (Q : Nat → Nat) (A : Nat → Nat) (z : Hs) (sz : Nat) (p0 : Int32) (p1 : Int32) (p2 : Int32) (O0 : Hs × (String ⊕ Unit)) (hf : wh_shift z p0 p1 p2 = some O0) : vx_Met l yX3_shift vX3_shift { frames := 9, cells := 4, slots := 24, locals := 221 } (gPx txC G vwCl (ct cL cZ) [.ref (Q 0), .int p0, .int p1, .int p2] (cw cL cZ Q A z) sz) (qXv G vwCl (ct cL cZ) (cw cL cZ Q A z) sz (cw cL cZ Q) O0) (xX G vwCl (ct cL cZ) (cw cL cZ Q A z) sz (cw cL cZ Q) O0) 4 24 (va_A (cw cL cZ Q A z) sz) := by
  refine gMetx (by decide) rfl (Nat.le_of_ble_eq_true rfl) ?_
  intro p e s m below meth c ls C hE hK hP hD hT hsz hl
  subst hsz
  obtain ⟨hx, hb, hr, hml, hown, hts, hlocks⟩ := id C
  have FX : CallFix p m c cX3_shift 7 s _ vX3_shift RX3 := ⟨hx, hb, hml, hown, hts⟩
  have hA : ∀ q9 : Nat, s.heap.size ≤ q9 → va_A (cw cL cZ Q A z) s.heap.size q9 := fun q9 h => Or.inr h
  have hS : va_S (va_A (cw cL cZ Q A z) s.heap.size) s.heap s.heap [] := va_S.rf
  have hl : lv_has ls 7 [(0, .ref (Q 0)), (1, .int p0), (2, .int p1), (3, .int p2)] := hl
  unfold wh_shift at hf
  refine lv_iload_n hx hb dX3_shift_0 rfl (lv_at hl 1 rfl) ?_
  rcases of_bt hf with ⟨e9, ho1, hj⟩ | ⟨o9, ho1, hf⟩
  · subst hj
    exact goutX (gSx FX [.int p0] (c_wh_needRegister l hl0 G cL cZ Q A z _ p0 _ ho1) (cwS 1 hts (gi_S wd_271 wd_272 wd_273 wd_274) rfl rfl rfl hdS_X3_needRegister ⟨Nat.le_of_ble_eq_true rfl, Nat.le_of_ble_eq_true rfl⟩) hK hP hD hT hS hA rfl hl.1 (Nat.le_of_ble_eq_true rfl) dX3_shift_1 ⟨by show _ ≤ 4; omega, by show _ ≤ 24; omega⟩) (noTv) hS hD hK hE hlocks (by omega) (by omega)
  refine gcTv (gSx FX [.int p0] (c_wh_needRegister l hl0 G cL cZ Q A z _ p0 _ ho1) (cwS 1 hts (gi_S wd_271 wd_272 wd_273 wd_274) rfl rfl rfl hdS_X3_needRegister ⟨Nat.le_of_ble_eq_true rfl, Nat.le_of_ble_eq_true rfl⟩) hK hP hD hT hS hA rfl hl.1 (Nat.le_of_ble_eq_true rfl) dX3_shift_1 ⟨by show _ ≤ 4; omega, by show _ ≤ 24; omega⟩) hS hD hA (fun H locs hP hS => ?_)
  refine lv_iload_n hx hb dX3_shift_4 rfl (lv_at hl 2 rfl) ?_
  rcases of_bt hf with ⟨e9, ho2, hj⟩ | ⟨o9, ho2, hf⟩
  · subst hj
    exact goutX (gSx FX [.int p1] (c_wh_needRegister l hl0 G cL cZ Q A z _ p1 _ ho2) (cwS 1 hts (gi_S wd_271 wd_272 wd_273 wd_274) rfl rfl rfl hdS_X3_needRegister ⟨Nat.le_of_ble_eq_true rfl, Nat.le_of_ble_eq_true rfl⟩) hK hP hD hT hS hA rfl hl.1 (Nat.le_of_ble_eq_true rfl) dX3_shift_5 ⟨by show _ ≤ 4; omega, by show _ ≤ 24; omega⟩) (noTv) hS hD hK hE hlocks (by omega) (by omega)
  refine gcTv (gSx FX [.int p1] (c_wh_needRegister l hl0 G cL cZ Q A z _ p1 _ ho2) (cwS 1 hts (gi_S wd_271 wd_272 wd_273 wd_274) rfl rfl rfl hdS_X3_needRegister ⟨Nat.le_of_ble_eq_true rfl, Nat.le_of_ble_eq_true rfl⟩) hK hP hD hT hS hA rfl hl.1 (Nat.le_of_ble_eq_true rfl) dX3_shift_5 ⟨by show _ ≤ 4; omega, by show _ ≤ 24; omega⟩) hS hD hA (fun H locs hP hS => ?_)
  refine lv_aload_n hx hb dX3_shift_8 rfl (lv_at hl 0 rfl) ?_
  refine lv_iload_n hx hb dX3_shift_9 rfl (lv_at hl 2 rfl) ?_
  rcases of_bt hf with ⟨e9, ho3, hj⟩ | ⟨r3, ho3, hf⟩
  · subst hj
    exact goutX (gVx FX [.int p1] (c_wh_rowIn l hl0 G cL cZ Q A z _ p1 _ ho3) (cwV 1 hts (gi_V wd_342 wd_343 wd_344 wd_273 wd_345) rfl rfl rfl hdV_X3_rowIn ⟨Nat.le_of_ble_eq_true rfl, Nat.le_of_ble_eq_true rfl⟩) hK hP hD hT hS hA 0 rfl rfl rfl hl.1 (Nat.le_of_ble_eq_true rfl) dX3_shift_10 ⟨by show _ ≤ 4; omega, by show _ ≤ 24; omega⟩) (noTi) hS hD hK hE hlocks (by omega) (by omega)
  refine gcTi (gVx FX [.int p1] (c_wh_rowIn l hl0 G cL cZ Q A z _ p1 _ ho3) (cwV 1 hts (gi_V wd_342 wd_343 wd_344 wd_273 wd_345) rfl rfl rfl hdV_X3_rowIn ⟨Nat.le_of_ble_eq_true rfl, Nat.le_of_ble_eq_true rfl⟩) hK hP hD hT hS hA 0 rfl rfl rfl hl.1 (Nat.le_of_ble_eq_true rfl) dX3_shift_10 ⟨by show _ ≤ 4; omega, by show _ ≤ 24; omega⟩) hS hD hA (fun H locs hP hS => ?_)
  refine lv_istore (lv' := [(4, .int r3), (0, .ref (Q 0)), (1, .int p0), (2, .int p1), (3, .int p2)]) hx hb dX3_shift_13 hl (by decide) rfl (fun ls hl => ?_)
  refine lv_aload_n hx hb dX3_shift_15 rfl (lv_at hl 1 rfl) ?_
  refine va_get (D := G) (ci := 3) (v := .ref (Q 1)) (C := RX3) (T := TX3) (N := 3) hx hb hts (fun w h => .tail _ (wl_X3 w h)) hown hK hP 0 rfl rfl 0 (by decide) (hts _ (.tail _ wd_269)) (fun _ h9 => h9) rfl dX3_shift_16 ?_
  refine lv_iload_n hx hb dX3_shift_19 rfl (lv_at hl 3 rfl) ?_
  obtain ⟨r4, ho4, hf⟩ := of_b0 hf
  refine gcRi (gV FX [.int p1] (c_hp_placeAt l G cL cZ Q A z _ p1 _ ho4) (cwV 1 hts (gi_V wd_338 wd_339 wd_340 wd_7 wd_341) rfl rfl rfl hdV_X0_placeAt ⟨Nat.le_of_ble_eq_true rfl, Nat.le_of_ble_eq_true rfl⟩) hK hP hD 1 rfl rfl rfl hl.1 (Nat.le_of_ble_eq_true rfl) dX3_shift_20 ⟨by show _ ≤ 4; omega, by show _ ≤ 24; omega⟩) hS hD hA (fun H locs hP hS => ?_)
  refine lv_i2l hx hb dX3_shift_23 rfl ?_
  refine lv_iload_n hx hb dX3_shift_24 rfl (lv_at hl 4 rfl) ?_
  refine lv_i2l hx hb dX3_shift_25 rfl ?_
  refine lv_ladd hx hb dX3_shift_26 ?_
  refine lv_lstore (lv' := [(5, .long ((r4.toInt64) + (p2.toInt64))), (4, .int r3), (0, .ref (Q 0)), (1, .int p0), (2, .int p1), (3, .int p2)]) hx hb dX3_shift_27 hl (by decide) rfl (fun ls hl => ?_)
  refine lv_lload hx hb dX3_shift_29 (lv_at hl 0 rfl) ?_
  refine lv_lconst (v := 0) hx hb dX3_shift_31 (by decide) ?_
  refine W.lcmp hx hb dX3_shift_32 ?_
  refine lv_if_lt (tgt := 52) hx hb dX3_shift_33 (by decide) (fun c5 => ?_) (fun c5 => ?_)
  · have hf := (if_pos c5).symm.trans hf
    obtain rfl := Option.some.inj hf
    exact gthr0 (cls := "java/lang/IndexOutOfBoundsException") (names := ["java/lang/RuntimeException", "java/lang/Exception"]) (text := "no such place") hx hb hl0 hown hts (by decide) (by decide) (.tail _ wd_312) (.tail _ wd_313) (by decide +kernel) (fun w h => .tail _ (tha_3 w h)) tht_3 (by decide +kernel) thg_3_92 hT hS (hl.1.trans hml.symm) dX3_shift_52 dX3_shift_55 dX3_shift_56 dX3_shift_58 dX3_shift_61 hE (Nat.lt_of_succ_le (Nat.le_of_ble_eq_true rfl)) (Nat.le_of_ble_eq_true rfl) (by show _ ≤ 4; omega) (by show _ ≤ 24; omega) hlocks (gqX hP hK hD hS) hS.2.2 (by omega) (by omega)
  · have hf := (if_neg c5).symm.trans hf
    refine lv_lload hx hb dX3_shift_36 (lv_at hl 0 rfl) ?_
    refine lv_aload_n hx hb dX3_shift_38 rfl (lv_at hl 2 rfl) ?_
    refine va_get (D := G) (ci := 3) (v := .ref (Q 1)) (C := RX3) (T := TX3) (N := 3) hx hb hts (fun w h => .tail _ (wl_X3 w h)) hown hK hP 0 rfl rfl 0 (by decide) (hts _ (.tail _ wd_269)) (fun _ h9 => h9) rfl dX3_shift_39 ?_
    refine lv_iload hx hb dX3_shift_42 (lv_at hl 1 rfl) ?_
    obtain ⟨r6, ho6, hf⟩ := of_b0 hf
    refine gcRi (gV FX [.int r3] (c_hp_length l G cL cZ Q A z _ r3 _ ho6) (cwV 1 hts (gi_V wd_307 wd_61 wd_62 wd_7 wd_63) rfl rfl rfl hdV_X0_length ⟨Nat.le_of_ble_eq_true rfl, Nat.le_of_ble_eq_true rfl⟩) hK hP hD 1 rfl rfl rfl hl.1 (Nat.le_of_ble_eq_true rfl) dX3_shift_44 ⟨by show _ ≤ 4; omega, by show _ ≤ 24; omega⟩) hS hD hA (fun H locs hP hS => ?_)
    refine lv_i2l hx hb dX3_shift_47 rfl ?_
    refine W.lcmp hx hb dX3_shift_48 ?_
    refine lv_if_le (tgt := 62) hx hb dX3_shift_49 (by decide) (fun c7 => ?_) (fun c7 => ?_)
    · have hf := (if_pos c7).symm.trans hf
      refine lv_aload_n hx hb dX3_shift_62 rfl (lv_at hl 2 rfl) ?_
      refine va_get (D := G) (ci := 3) (v := .ref (Q 1)) (C := RX3) (T := TX3) (N := 3) hx hb hts (fun w h => .tail _ (wl_X3 w h)) hown hK hP 0 rfl rfl 0 (by decide) (hts _ (.tail _ wd_269)) (fun _ h9 => h9) rfl dX3_shift_63 ?_
      refine lv_iload_n hx hb dX3_shift_66 rfl (lv_at hl 3 rfl) ?_
      refine lv_iload hx hb dX3_shift_67 (lv_at hl 1 rfl) ?_
      refine lv_lload hx hb dX3_shift_69 (lv_at hl 0 rfl) ?_
      refine lv_l2i hx hb dX3_shift_71 rfl ?_
      obtain ⟨z8, o9, ho8, hf⟩ := of_bw hf
      refine gcWv (gV FX [.int p0, .int r3, .int (((r4.toInt64) + (p2.toInt64)).toInt32)] (c_hp_setReference l G cL cZ Q A z _ p0 r3 (((r4.toInt64) + (p2.toInt64)).toInt32) _ ho8) (cwV 3 hts (gi_V wd_275 wd_173 wd_174 wd_7 wd_175) rfl rfl rfl hdV_X0_setReference ⟨Nat.le_of_ble_eq_true rfl, Nat.le_of_ble_eq_true rfl⟩) hK hP hD 1 rfl rfl rfl hl.1 (Nat.le_of_ble_eq_true rfl) dX3_shift_72 ⟨by show _ ≤ 4; omega, by show _ ≤ 24; omega⟩) hS hD hA (fun A H locs hP hD hS => ?_)
      obtain rfl := Option.some.inj hf
      exact grXv hx hb hr hlocks hP hK hD hS dX3_shift_75 (by omega) (by omega)
    · have hf := (if_neg c7).symm.trans hf
      obtain rfl := Option.some.inj hf
      exact gthr0 (cls := "java/lang/IndexOutOfBoundsException") (names := ["java/lang/RuntimeException", "java/lang/Exception"]) (text := "no such place") hx hb hl0 hown hts (by decide) (by decide) (.tail _ wd_312) (.tail _ wd_313) (by decide +kernel) (fun w h => .tail _ (tha_3 w h)) tht_3 (by decide +kernel) thg_3_92 hT hS (hl.1.trans hml.symm) dX3_shift_52 dX3_shift_55 dX3_shift_56 dX3_shift_58 dX3_shift_61 hE (Nat.lt_of_succ_le (Nat.le_of_ble_eq_true rfl)) (Nat.le_of_ble_eq_true rfl) (by show _ ≤ 4; omega) (by show _ ≤ 24; omega) hlocks (gqX hP hK hD hS) hS.2.2 (by omega) (by omega)
set_option maxHeartbeats 4000000 in
set_option maxRecDepth 100000 in
theorem c_wh_wordBehind (l : Launch) (hl0 : l.stackTraces = false) (G : va_G) (cL cZ : ClassId) (Q : Nat → Nat) (A : Nat → Nat) (z : Hs) (sz : Nat) (p0 : Int32) (p1 : Int32) (O0 : (String ⊕ Int32)) (hf : wh_wordBehind z p0 p1 = some O0) : vx_Met l yX3_wordBehind vX3_wordBehind { frames := 9, cells := 2, slots := 12, locals := 221 } (gPx txC G vwCl (ct cL cZ) [.ref (Q 0), .int p0, .int p1] (cw cL cZ Q A z) sz) (qTi G vwCl (ct cL cZ) (cw cL cZ Q A z) sz O0) (xT G vwCl (ct cL cZ) (cw cL cZ Q A z) sz O0) 2 12 (va_A (cw cL cZ Q A z) sz) := by
  refine gMetx (by decide) rfl (Nat.le_of_ble_eq_true rfl) ?_
  intro p e s m below meth c ls C hE hK hP hD hT hsz hl
  subst hsz
  obtain ⟨hx, hb, hr, hml, hown, hts, hlocks⟩ := id C
  have FX : CallFix p m c cX3_wordBehind 6 s _ vX3_wordBehind RX3 := ⟨hx, hb, hml, hown, hts⟩
  have hA : ∀ q9 : Nat, s.heap.size ≤ q9 → va_A (cw cL cZ Q A z) s.heap.size q9 := fun q9 h => Or.inr h
  have hS : va_S (va_A (cw cL cZ Q A z) s.heap.size) s.heap s.heap [] := va_S.rf
  have hl : lv_has ls 6 [(0, .ref (Q 0)), (1, .int p0), (2, .int p1)] := hl
  unfold wh_wordBehind at hf
  refine lv_aload_n hx hb dX3_wordBehind_0 rfl (lv_at hl 0 rfl) ?_
  refine lv_iload_n hx hb dX3_wordBehind_1 rfl (lv_at hl 1 rfl) ?_
  rcases of_bt hf with ⟨e9, ho1, hj⟩ | ⟨r1, ho1, hf⟩
  · subst hj
    exact goutT (gVx FX [.int p0] (c_wh_rowIn l hl0 G cL cZ Q A z _ p0 _ ho1) (cwV 1 hts (gi_V wd_342 wd_343 wd_344 wd_273 wd_345) rfl rfl rfl hdV_X3_rowIn ⟨Nat.le_of_ble_eq_true rfl, Nat.le_of_ble_eq_true rfl⟩) hK hP hD hT hS hA 0 rfl rfl rfl hl.1 (Nat.le_of_ble_eq_true rfl) dX3_wordBehind_2 ⟨by show _ ≤ 2; omega, by show _ ≤ 12; omega⟩) (noTi) hS hD hK hE hlocks (by omega) (by omega)
  refine gcTi (gVx FX [.int p0] (c_wh_rowIn l hl0 G cL cZ Q A z _ p0 _ ho1) (cwV 1 hts (gi_V wd_342 wd_343 wd_344 wd_273 wd_345) rfl rfl rfl hdV_X3_rowIn ⟨Nat.le_of_ble_eq_true rfl, Nat.le_of_ble_eq_true rfl⟩) hK hP hD hT hS hA 0 rfl rfl rfl hl.1 (Nat.le_of_ble_eq_true rfl) dX3_wordBehind_2 ⟨by show _ ≤ 2; omega, by show _ ≤ 12; omega⟩) hS hD hA (fun H locs hP hS => ?_)
  refine lv_istore_n (lv' := [(3, .int r1), (0, .ref (Q 0)), (1, .int p0), (2, .int p1)]) hx hb dX3_wordBehind_5 rfl hl (by decide) rfl (fun ls hl => ?_)
  refine lv_aload_n hx hb dX3_wordBehind_6 rfl (lv_at hl 1 rfl) ?_
  refine va_get (D := G) (ci := 3) (v := .ref (Q 1)) (C := RX3) (T := TX3) (N := 3) hx hb hts (fun w h => .tail _ (wl_X3 w h)) hown hK hP 0 rfl rfl 0 (by decide) (hts _ (.tail _ wd_269)) (fun _ h9 => h9) rfl dX3_wordBehind_7 ?_
  refine lv_iload_n hx hb dX3_wordBehind_10 rfl (lv_at hl 2 rfl) ?_
  obtain ⟨r2, ho2, hf⟩ := of_b0 hf
  refine gcRi (gV FX [.int p0] (c_hp_placeAt l G cL cZ Q A z _ p0 _ ho2) (cwV 1 hts (gi_V wd_338 wd_339 wd_340 wd_7 wd_341) rfl rfl rfl hdV_X0_placeAt ⟨Nat.le_of_ble_eq_true rfl, Nat.le_of_ble_eq_true rfl⟩) hK hP hD 1 rfl rfl rfl hl.1 (Nat.le_of_ble_eq_true rfl) dX3_wordBehind_11 ⟨by show _ ≤ 2; omega, by show _ ≤ 12; omega⟩) hS hD hA (fun H locs hP hS => ?_)
  refine lv_i2l hx hb dX3_wordBehind_14 rfl ?_
  refine lv_iload_n hx hb dX3_wordBehind_15 rfl (lv_at hl 3 rfl) ?_
  refine lv_i2l hx hb dX3_wordBehind_16 rfl ?_
  refine lv_ladd hx hb dX3_wordBehind_17 ?_
  refine lv_lstore (lv' := [(4, .long ((r2.toInt64) + (p1.toInt64))), (3, .int r1), (0, .ref (Q 0)), (1, .int p0), (2, .int p1)]) hx hb dX3_wordBehind_18 hl (by decide) rfl (fun ls hl => ?_)
  refine lv_lload hx hb dX3_wordBehind_20 (lv_at hl 0 rfl) ?_
  refine lv_lconst (v := 0) hx hb dX3_wordBehind_22 (by decide) ?_
  refine W.lcmp hx hb dX3_wordBehind_23 ?_
  refine lv_if_lt (tgt := 42) hx hb dX3_wordBehind_24 (by decide) (fun c3 => ?_) (fun c3 => ?_)
  · have hf := (if_pos c3).symm.trans hf
    obtain rfl := Option.some.inj hf
    exact gthr0 (cls := "java/lang/IndexOutOfBoundsException") (names := ["java/lang/RuntimeException", "java/lang/Exception"]) (text := "no such word") hx hb hl0 hown hts (by decide) (by decide) (.tail _ wd_312) (.tail _ wd_313) (by decide +kernel) (fun w h => .tail _ (tha_3 w h)) tht_3 (by decide +kernel) thg_3_92 hT hS (hl.1.trans hml.symm) dX3_wordBehind_42 dX3_wordBehind_45 dX3_wordBehind_46 dX3_wordBehind_48 dX3_wordBehind_51 hE (Nat.lt_of_succ_le (Nat.le_of_ble_eq_true rfl)) (Nat.le_of_ble_eq_true rfl) (by show _ ≤ 2; omega) (by show _ ≤ 12; omega) hlocks (gqT hP hK hD hS) hS.2.2 (by omega) (by omega)
  · have hf := (if_neg c3).symm.trans hf
    refine lv_lload hx hb dX3_wordBehind_27 (lv_at hl 0 rfl) ?_
    refine lv_aload_n hx hb dX3_wordBehind_29 rfl (lv_at hl 2 rfl) ?_
    refine va_get (D := G) (ci := 3) (v := .ref (Q 1)) (C := RX3) (T := TX3) (N := 3) hx hb hts (fun w h => .tail _ (wl_X3 w h)) hown hK hP 0 rfl rfl 0 (by decide) (hts _ (.tail _ wd_269)) (fun _ h9 => h9) rfl dX3_wordBehind_30 ?_
    refine lv_iload_n hx hb dX3_wordBehind_33 rfl (lv_at hl 1 rfl) ?_
    obtain ⟨r4, ho4, hf⟩ := of_b0 hf
    refine gcRi (gV FX [.int r1] (c_hp_length l G cL cZ Q A z _ r1 _ ho4) (cwV 1 hts (gi_V wd_307 wd_61 wd_62 wd_7 wd_63) rfl rfl rfl hdV_X0_length ⟨Nat.le_of_ble_eq_true rfl, Nat.le_of_ble_eq_true rfl⟩) hK hP hD 1 rfl rfl rfl hl.1 (Nat.le_of_ble_eq_true rfl) dX3_wordBehind_34 ⟨by show _ ≤ 2; omega, by show _ ≤ 12; omega⟩) hS hD hA (fun H locs hP hS => ?_)
    refine lv_i2l hx hb dX3_wordBehind_37 rfl ?_
    refine W.lcmp hx hb dX3_wordBehind_38 ?_
    refine lv_if_lt (tgt := 52) hx hb dX3_wordBehind_39 (by decide) (fun c5 => ?_) (fun c5 => ?_)
    · have hf := (if_pos c5).symm.trans hf
      refine lv_aload_n hx hb dX3_wordBehind_52 rfl (lv_at hl 2 rfl) ?_
      refine va_get (D := G) (ci := 3) (v := .ref (Q 1)) (C := RX3) (T := TX3) (N := 3) hx hb hts (fun w h => .tail _ (wl_X3 w h)) hown hK hP 0 rfl rfl 0 (by decide) (hts _ (.tail _ wd_269)) (fun _ h9 => h9) rfl dX3_wordBehind_53 ?_
      refine lv_iload_n hx hb dX3_wordBehind_56 rfl (lv_at hl 1 rfl) ?_
      obtain ⟨r6, ho6, hf⟩ := of_b0 hf
      refine gcRi (gV FX [.int r1] (c_hp_first l G cL cZ Q A z _ r1 _ ho6) (cwV 1 hts (gi_V wd_346 wd_65 wd_66 wd_7 wd_67) rfl rfl rfl hdV_X0_first ⟨Nat.le_of_ble_eq_true rfl, Nat.le_of_ble_eq_true rfl⟩) hK hP hD 1 rfl rfl rfl hl.1 (Nat.le_of_ble_eq_true rfl) dX3_wordBehind_57 ⟨by show _ ≤ 2; omega, by show _ ≤ 12; omega⟩) hS hD hA (fun H locs hP hS => ?_)
      refine lv_lload hx hb dX3_wordBehind_60 (lv_at hl 0 rfl) ?_
      refine lv_l2i hx hb dX3_wordBehind_62 rfl ?_
      refine lv_iadd hx hb dX3_wordBehind_63 ?_
      obtain rfl := Option.some.inj hf
      exact grTi hx hb hr hlocks hP hK hD hS dX3_wordBehind_64 (by omega) (by omega)
    · have hf := (if_neg c5).symm.trans hf
      obtain rfl := Option.some.inj hf
      exact gthr0 (cls := "java/lang/IndexOutOfBoundsException") (names := ["java/lang/RuntimeException", "java/lang/Exception"]) (text := "no such word") hx hb hl0 hown hts (by decide) (by decide) (.tail _ wd_312) (.tail _ wd_313) (by decide +kernel) (fun w h => .tail _ (tha_3 w h)) tht_3 (by decide +kernel) thg_3_92 hT hS (hl.1.trans hml.symm) dX3_wordBehind_42 dX3_wordBehind_45 dX3_wordBehind_46 dX3_wordBehind_48 dX3_wordBehind_51 hE (Nat.lt_of_succ_le (Nat.le_of_ble_eq_true rfl)) (Nat.le_of_ble_eq_true rfl) (by show _ ≤ 2; omega) (by show _ ≤ 12; omega) hlocks (gqT hP hK hD hS) hS.2.2 (by omega) (by omega)
set_option maxHeartbeats 4000000 in
set_option maxRecDepth 100000 in
theorem c_wh_load (l : Launch) (hl0 : l.stackTraces = false) (G : va_G) (cL cZ : ClassId) (Q : Nat → Nat) (A : Nat → Nat) (z : Hs) (sz : Nat) (p0 : Int32) (p1 : Int32) (p2 : Int32) (O0 : Hs × (String ⊕ Unit)) (hf : wh_load z p0 p1 p2 = some O0) : vx_Met l yX3_load vX3_load { frames := 10, cells := 4, slots := 24, locals := 246 } (gPx txC G vwCl (ct cL cZ) [.ref (Q 0), .int p0, .int p1, .int p2] (cw cL cZ Q A z) sz) (qXv G vwCl (ct cL cZ) (cw cL cZ Q A z) sz (cw cL cZ Q) O0) (xX G vwCl (ct cL cZ) (cw cL cZ Q A z) sz (cw cL cZ Q) O0) 4 24 (va_A (cw cL cZ Q A z) sz) := by
  refine gMetx (by decide) rfl (Nat.le_of_ble_eq_true rfl) ?_
  intro p e s m below meth c ls C hE hK hP hD hT hsz hl
  subst hsz
  obtain ⟨hx, hb, hr, hml, hown, hts, hlocks⟩ := id C
  have FX : CallFix p m c cX3_load 5 s _ vX3_load RX3 := ⟨hx, hb, hml, hown, hts⟩
  have hA : ∀ q9 : Nat, s.heap.size ≤ q9 → va_A (cw cL cZ Q A z) s.heap.size q9 := fun q9 h => Or.inr h
  have hS : va_S (va_A (cw cL cZ Q A z) s.heap.size) s.heap s.heap [] := va_S.rf
  have hl : lv_has ls 5 [(0, .ref (Q 0)), (1, .int p0), (2, .int p1), (3, .int p2)] := hl
  unfold wh_load at hf
  refine lv_iload_n hx hb dX3_load_0 rfl (lv_at hl 1 rfl) ?_
  rcases of_bt hf with ⟨e9, ho1, hj⟩ | ⟨o9, ho1, hf⟩
  · subst hj
    exact goutX (gSx FX [.int p0] (c_wh_needRegister l hl0 G cL cZ Q A z _ p0 _ ho1) (cwS 1 hts (gi_S wd_271 wd_272 wd_273 wd_274) rfl rfl rfl hdS_X3_needRegister ⟨Nat.le_of_ble_eq_true rfl, Nat.le_of_ble_eq_true rfl⟩) hK hP hD hT hS hA rfl hl.1 (Nat.le_of_ble_eq_true rfl) dX3_load_1 ⟨by show _ ≤ 4; omega, by show _ ≤ 24; omega⟩) (noTv) hS hD hK hE hlocks (by omega) (by omega)
  refine gcTv (gSx FX [.int p0] (c_wh_needRegister l hl0 G cL cZ Q A z _ p0 _ ho1) (cwS 1 hts (gi_S wd_271 wd_272 wd_273 wd_274) rfl rfl rfl hdS_X3_needRegister ⟨Nat.le_of_ble_eq_true rfl, Nat.le_of_ble_eq_true rfl⟩) hK hP hD hT hS hA rfl hl.1 (Nat.le_of_ble_eq_true rfl) dX3_load_1 ⟨by show _ ≤ 4; omega, by show _ ≤ 24; omega⟩) hS hD hA (fun H locs hP hS => ?_)
  refine lv_iload_n hx hb dX3_load_4 rfl (lv_at hl 2 rfl) ?_
  rcases of_bt hf with ⟨e9, ho2, hj⟩ | ⟨o9, ho2, hf⟩
  · subst hj
    exact goutX (gSx FX [.int p1] (c_wh_needRegister l hl0 G cL cZ Q A z _ p1 _ ho2) (cwS 1 hts (gi_S wd_271 wd_272 wd_273 wd_274) rfl rfl rfl hdS_X3_needRegister ⟨Nat.le_of_ble_eq_true rfl, Nat.le_of_ble_eq_true rfl⟩) hK hP hD hT hS hA rfl hl.1 (Nat.le_of_ble_eq_true rfl) dX3_load_5 ⟨by show _ ≤ 4; omega, by show _ ≤ 24; omega⟩) (noTv) hS hD hK hE hlocks (by omega) (by omega)
  refine gcTv (gSx FX [.int p1] (c_wh_needRegister l hl0 G cL cZ Q A z _ p1 _ ho2) (cwS 1 hts (gi_S wd_271 wd_272 wd_273 wd_274) rfl rfl rfl hdS_X3_needRegister ⟨Nat.le_of_ble_eq_true rfl, Nat.le_of_ble_eq_true rfl⟩) hK hP hD hT hS hA rfl hl.1 (Nat.le_of_ble_eq_true rfl) dX3_load_5 ⟨by show _ ≤ 4; omega, by show _ ≤ 24; omega⟩) hS hD hA (fun H locs hP hS => ?_)
  refine lv_aload_n hx hb dX3_load_8 rfl (lv_at hl 0 rfl) ?_
  refine lv_iload_n hx hb dX3_load_9 rfl (lv_at hl 2 rfl) ?_
  refine lv_iload_n hx hb dX3_load_10 rfl (lv_at hl 3 rfl) ?_
  rcases of_bt hf with ⟨e9, ho3, hj⟩ | ⟨r3, ho3, hf⟩
  · subst hj
    exact goutX (gVx FX [.int p1, .int p2] (c_wh_wordBehind l hl0 G cL cZ Q A z _ p1 p2 _ ho3) (cwV 2 hts (gi_V wd_347 wd_348 wd_349 wd_273 wd_350) rfl rfl rfl hdV_X3_wordBehind ⟨Nat.le_of_ble_eq_true rfl, Nat.le_of_ble_eq_true rfl⟩) hK hP hD hT hS hA 0 rfl rfl rfl hl.1 (Nat.le_of_ble_eq_true rfl) dX3_load_11 ⟨by show _ ≤ 4; omega, by show _ ≤ 24; omega⟩) (noTi) hS hD hK hE hlocks (by omega) (by omega)
  refine gcTi (gVx FX [.int p1, .int p2] (c_wh_wordBehind l hl0 G cL cZ Q A z _ p1 p2 _ ho3) (cwV 2 hts (gi_V wd_347 wd_348 wd_349 wd_273 wd_350) rfl rfl rfl hdV_X3_wordBehind ⟨Nat.le_of_ble_eq_true rfl, Nat.le_of_ble_eq_true rfl⟩) hK hP hD hT hS hA 0 rfl rfl rfl hl.1 (Nat.le_of_ble_eq_true rfl) dX3_load_11 ⟨by show _ ≤ 4; omega, by show _ ≤ 24; omega⟩) hS hD hA (fun H locs hP hS => ?_)
  refine lv_istore (lv' := [(4, .int r3), (0, .ref (Q 0)), (1, .int p0), (2, .int p1), (3, .int p2)]) hx hb dX3_load_14 hl (by decide) rfl (fun ls hl => ?_)
  refine lv_aload_n hx hb dX3_load_16 rfl (lv_at hl 1 rfl) ?_
  refine va_get (D := G) (ci := 3) (v := .ref (Q 1)) (C := RX3) (T := TX3) (N := 3) hx hb hts (fun w h => .tail _ (wl_X3 w h)) hown hK hP 0 rfl rfl 0 (by decide) (hts _ (.tail _ wd_269)) (fun _ h9 => h9) rfl dX3_load_17 ?_
  refine lv_iload_n hx hb dX3_load_20 rfl (lv_at hl 2 rfl) ?_
  refine lv_iload hx hb dX3_load_21 (lv_at hl 0 rfl) ?_
  obtain ⟨z4, o9, ho4, hf⟩ := of_bw hf
  refine gcWv (gV FX [.int p0, .int r3] (c_hp_setWord l G cL cZ Q A z _ p0 r3 _ ho4) (cwV 2 hts (gi_V wd_276 wd_277 wd_278 wd_7 wd_279) rfl rfl rfl hdV_X0_setWord ⟨Nat.le_of_ble_eq_true rfl, Nat.le_of_ble_eq_true rfl⟩) hK hP hD 1 rfl rfl rfl hl.1 (Nat.le_of_ble_eq_true rfl) dX3_load_23 ⟨by show _ ≤ 4; omega, by show _ ≤ 24; omega⟩) hS hD hA (fun A H locs hP hD hS => ?_)
  obtain rfl := Option.some.inj hf
  exact grXv hx hb hr hlocks hP hK hD hS dX3_load_26 (by omega) (by omega)
set_option maxHeartbeats 4000000 in
set_option maxRecDepth 100000 in
theorem c_wh_store (l : Launch) (hl0 : l.stackTraces = false) (G : va_G) (cL cZ : ClassId) (Q : Nat → Nat) (A : Nat → Nat) (z : Hs) (sz : Nat) (p0 : Int32) (p1 : Int32) (p2 : Int32) (O0 : Hs × (String ⊕ Unit)) (hf : wh_store z p0 p1 p2 = some O0) : vx_Met l yX3_store vX3_store { frames := 10, cells := 4, slots := 24, locals := 246 } (gPx txC G vwCl (ct cL cZ) [.ref (Q 0), .int p0, .int p1, .int p2] (cw cL cZ Q A z) sz) (qXv G vwCl (ct cL cZ) (cw cL cZ Q A z) sz (cw cL cZ Q) O0) (xX G vwCl (ct cL cZ) (cw cL cZ Q A z) sz (cw cL cZ Q) O0) 4 24 (va_A (cw cL cZ Q A z) sz) := by
  refine gMetx (by decide) rfl (Nat.le_of_ble_eq_true rfl) ?_
  intro p e s m below meth c ls C hE hK hP hD hT hsz hl
  subst hsz
  obtain ⟨hx, hb, hr, hml, hown, hts, hlocks⟩ := id C
  have FX : CallFix p m c cX3_store 5 s _ vX3_store RX3 := ⟨hx, hb, hml, hown, hts⟩
  have hA : ∀ q9 : Nat, s.heap.size ≤ q9 → va_A (cw cL cZ Q A z) s.heap.size q9 := fun q9 h => Or.inr h
  have hS : va_S (va_A (cw cL cZ Q A z) s.heap.size) s.heap s.heap [] := va_S.rf
  have hl : lv_has ls 5 [(0, .ref (Q 0)), (1, .int p0), (2, .int p1), (3, .int p2)] := hl
  unfold wh_store at hf
  refine lv_iload_n hx hb dX3_store_0 rfl (lv_at hl 1 rfl) ?_
  rcases of_bt hf with ⟨e9, ho1, hj⟩ | ⟨o9, ho1, hf⟩
  · subst hj
    exact goutX (gSx FX [.int p0] (c_wh_needRegister l hl0 G cL cZ Q A z _ p0 _ ho1) (cwS 1 hts (gi_S wd_271 wd_272 wd_273 wd_274) rfl rfl rfl hdS_X3_needRegister ⟨Nat.le_of_ble_eq_true rfl, Nat.le_of_ble_eq_true rfl⟩) hK hP hD hT hS hA rfl hl.1 (Nat.le_of_ble_eq_true rfl) dX3_store_1 ⟨by show _ ≤ 4; omega, by show _ ≤ 24; omega⟩) (noTv) hS hD hK hE hlocks (by omega) (by omega)
  refine gcTv (gSx FX [.int p0] (c_wh_needRegister l hl0 G cL cZ Q A z _ p0 _ ho1) (cwS 1 hts (gi_S wd_271 wd_272 wd_273 wd_274) rfl rfl rfl hdS_X3_needRegister ⟨Nat.le_of_ble_eq_true rfl, Nat.le_of_ble_eq_true rfl⟩) hK hP hD hT hS hA rfl hl.1 (Nat.le_of_ble_eq_true rfl) dX3_store_1 ⟨by show _ ≤ 4; omega, by show _ ≤ 24; omega⟩) hS hD hA (fun H locs hP hS => ?_)
  refine lv_iload_n hx hb dX3_store_4 rfl (lv_at hl 3 rfl) ?_
  rcases of_bt hf with ⟨e9, ho2, hj⟩ | ⟨o9, ho2, hf⟩
  · subst hj
    exact goutX (gSx FX [.int p2] (c_wh_needRegister l hl0 G cL cZ Q A z _ p2 _ ho2) (cwS 1 hts (gi_S wd_271 wd_272 wd_273 wd_274) rfl rfl rfl hdS_X3_needRegister ⟨Nat.le_of_ble_eq_true rfl, Nat.le_of_ble_eq_true rfl⟩) hK hP hD hT hS hA rfl hl.1 (Nat.le_of_ble_eq_true rfl) dX3_store_5 ⟨by show _ ≤ 4; omega, by show _ ≤ 24; omega⟩) (noTv) hS hD hK hE hlocks (by omega) (by omega)
  refine gcTv (gSx FX [.int p2] (c_wh_needRegister l hl0 G cL cZ Q A z _ p2 _ ho2) (cwS 1 hts (gi_S wd_271 wd_272 wd_273 wd_274) rfl rfl rfl hdS_X3_needRegister ⟨Nat.le_of_ble_eq_true rfl, Nat.le_of_ble_eq_true rfl⟩) hK hP hD hT hS hA rfl hl.1 (Nat.le_of_ble_eq_true rfl) dX3_store_5 ⟨by show _ ≤ 4; omega, by show _ ≤ 24; omega⟩) hS hD hA (fun H locs hP hS => ?_)
  refine lv_aload_n hx hb dX3_store_8 rfl (lv_at hl 0 rfl) ?_
  refine lv_iload_n hx hb dX3_store_9 rfl (lv_at hl 1 rfl) ?_
  refine lv_iload_n hx hb dX3_store_10 rfl (lv_at hl 2 rfl) ?_
  rcases of_bt hf with ⟨e9, ho3, hj⟩ | ⟨r3, ho3, hf⟩
  · subst hj
    exact goutX (gVx FX [.int p0, .int p1] (c_wh_wordBehind l hl0 G cL cZ Q A z _ p0 p1 _ ho3) (cwV 2 hts (gi_V wd_347 wd_348 wd_349 wd_273 wd_350) rfl rfl rfl hdV_X3_wordBehind ⟨Nat.le_of_ble_eq_true rfl, Nat.le_of_ble_eq_true rfl⟩) hK hP hD hT hS hA 0 rfl rfl rfl hl.1 (Nat.le_of_ble_eq_true rfl) dX3_store_11 ⟨by show _ ≤ 4; omega, by show _ ≤ 24; omega⟩) (noTi) hS hD hK hE hlocks (by omega) (by omega)
  refine gcTi (gVx FX [.int p0, .int p1] (c_wh_wordBehind l hl0 G cL cZ Q A z _ p0 p1 _ ho3) (cwV 2 hts (gi_V wd_347 wd_348 wd_349 wd_273 wd_350) rfl rfl rfl hdV_X3_wordBehind ⟨Nat.le_of_ble_eq_true rfl, Nat.le_of_ble_eq_true rfl⟩) hK hP hD hT hS hA 0 rfl rfl rfl hl.1 (Nat.le_of_ble_eq_true rfl) dX3_store_11 ⟨by show _ ≤ 4; omega, by show _ ≤ 24; omega⟩) hS hD hA (fun H locs hP hS => ?_)
  refine lv_istore (lv' := [(4, .int r3), (0, .ref (Q 0)), (1, .int p0), (2, .int p1), (3, .int p2)]) hx hb dX3_store_14 hl (by decide) rfl (fun ls hl => ?_)
  refine lv_aload_n hx hb dX3_store_16 rfl (lv_at hl 1 rfl) ?_
  refine va_get (D := G) (ci := 3) (v := .ref (Q 1)) (C := RX3) (T := TX3) (N := 3) hx hb hts (fun w h => .tail _ (wl_X3 w h)) hown hK hP 0 rfl rfl 0 (by decide) (hts _ (.tail _ wd_269)) (fun _ h9 => h9) rfl dX3_store_17 ?_
  refine lv_iload hx hb dX3_store_20 (lv_at hl 0 rfl) ?_
  refine lv_iload_n hx hb dX3_store_22 rfl (lv_at hl 4 rfl) ?_
  obtain ⟨z4, o9, ho4, hf⟩ := of_bw hf
  refine gcWv (gV FX [.int r3, .int p2] (c_hp_setWord l G cL cZ Q A z _ r3 p2 _ ho4) (cwV 2 hts (gi_V wd_276 wd_277 wd_278 wd_7 wd_279) rfl rfl rfl hdV_X0_setWord ⟨Nat.le_of_ble_eq_true rfl, Nat.le_of_ble_eq_true rfl⟩) hK hP hD 1 rfl rfl rfl hl.1 (Nat.le_of_ble_eq_true rfl) dX3_store_23 ⟨by show _ ≤ 4; omega, by show _ ≤ 24; omega⟩) hS hD hA (fun A H locs hP hD hS => ?_)
  obtain rfl := Option.some.inj hf
  exact grXv hx hb hr hlocks hP hK hD hS dX3_store_26 (by omega) (by omega)
set_option maxHeartbeats 4000000 in
set_option maxRecDepth 100000 in
theorem c_wh_needWords (l : Launch) (hl0 : l.stackTraces = false) (G : va_G) (cL cZ : ClassId) (Q : Nat → Nat) (A : Nat → Nat) (z : Hs) (sz : Nat) (p0 : Int32) (p1 : Int32) (O0 : (String ⊕ Unit)) (hf : wh_needWords z p0 p1 = some O0) : vx_Met l yX3_needWords vX3_needWords { frames := 8, cells := 1, slots := 6, locals := 200 } (gPx txC G vwCl (ct cL cZ) [.ref (Q 0), .int p0, .int p1] (cw cL cZ Q A z) sz) (qTv G vwCl (ct cL cZ) (cw cL cZ Q A z) sz O0) (xT G vwCl (ct cL cZ) (cw cL cZ Q A z) sz O0) 1 6 (va_A (cw cL cZ Q A z) sz) := by
  refine gMetx (by decide) rfl (Nat.le_of_ble_eq_true rfl) ?_
  intro p e s m below meth c ls C hE hK hP hD hT hsz hl
  subst hsz
  obtain ⟨hx, hb, hr, hml, hown, hts, hlocks⟩ := id C
  have FX : CallFix p m c cX3_needWords 3 s _ vX3_needWords RX3 := ⟨hx, hb, hml, hown, hts⟩
  have hA : ∀ q9 : Nat, s.heap.size ≤ q9 → va_A (cw cL cZ Q A z) s.heap.size q9 := fun q9 h => Or.inr h
  have hS : va_S (va_A (cw cL cZ Q A z) s.heap.size) s.heap s.heap [] := va_S.rf
  have hl : lv_has ls 3 [(0, .ref (Q 0)), (1, .int p0), (2, .int p1)] := hl
  unfold wh_needWords at hf
  refine lv_aload_n hx hb dX3_needWords_0 rfl (lv_at hl 0 rfl) ?_
  refine va_get (D := G) (ci := 3) (v := .ref (Q 1)) (C := RX3) (T := TX3) (N := 3) hx hb hts (fun w h => .tail _ (wl_X3 w h)) hown hK hP 0 rfl rfl 0 (by decide) (hts _ (.tail _ wd_269)) (fun _ h9 => h9) rfl dX3_needWords_1 ?_
  refine lv_iload_n hx hb dX3_needWords_4 rfl (lv_at hl 1 rfl) ?_
  obtain ⟨r1, ho1, hf⟩ := of_b0 hf
  refine gcRi (gV FX [.int p0] (c_hp_placeAt l G cL cZ Q A z _ p0 _ ho1) (cwV 1 hts (gi_V wd_338 wd_339 wd_340 wd_7 wd_341) rfl rfl rfl hdV_X0_placeAt ⟨Nat.le_of_ble_eq_true rfl, Nat.le_of_ble_eq_true rfl⟩) hK hP hD 1 rfl rfl rfl hl.1 (Nat.le_of_ble_eq_true rfl) dX3_needWords_5 ⟨by show _ ≤ 1; omega, by show _ ≤ 6; omega⟩) hS hD hA (fun H locs hP hS => ?_)
  refine lv_iload_n hx hb dX3_needWords_8 rfl (lv_at hl 2 rfl) ?_
  refine lv_iadd hx hb dX3_needWords_9 ?_
  refine lv_aload_n hx hb dX3_needWords_10 rfl (lv_at hl 0 rfl) ?_
  refine va_get (D := G) (ci := 3) (v := .ref (Q 1)) (C := RX3) (T := TX3) (N := 3) hx hb hts (fun w h => .tail _ (wl_X3 w h)) hown hK hP 0 rfl rfl 0 (by decide) (hts _ (.tail _ wd_269)) (fun _ h9 => h9) rfl dX3_needWords_11 ?_
  refine lv_aload_n hx hb dX3_needWords_14 rfl (lv_at hl 0 rfl) ?_
  refine va_get (D := G) (ci := 3) (v := .ref (Q 1)) (C := RX3) (T := TX3) (N := 3) hx hb hts (fun w h => .tail _ (wl_X3 w h)) hown hK hP 0 rfl rfl 0 (by decide) (hts _ (.tail _ wd_269)) (fun _ h9 => h9) rfl dX3_needWords_15 ?_
  refine lv_iload_n hx hb dX3_needWords_18 rfl (lv_at hl 1 rfl) ?_
  obtain ⟨r2, ho2, hf⟩ := of_b0 hf
  refine gcRi (gV FX [.int p0] (c_hp_handleAt l G cL cZ Q A z _ p0 _ ho2) (cwV 1 hts (gi_V wd_298 wd_14 wd_15 wd_7 wd_16) rfl rfl rfl hdV_X0_handleAt ⟨Nat.le_of_ble_eq_true rfl, Nat.le_of_ble_eq_true rfl⟩) hK hP hD 1 rfl rfl rfl hl.1 (Nat.le_of_ble_eq_true rfl) dX3_needWords_19 ⟨by show _ ≤ 1; omega, by show _ ≤ 6; omega⟩) hS hD hA (fun H locs hP hS => ?_)
  obtain ⟨r3, ho3, hf⟩ := of_b0 hf
  refine gcRi (gV FX [.int r2] (c_hp_length l G cL cZ Q A z _ r2 _ ho3) (cwV 1 hts (gi_V wd_307 wd_61 wd_62 wd_7 wd_63) rfl rfl rfl hdV_X0_length ⟨Nat.le_of_ble_eq_true rfl, Nat.le_of_ble_eq_true rfl⟩) hK hP hD 1 rfl rfl rfl hl.1 (Nat.le_of_ble_eq_true rfl) dX3_needWords_22 ⟨by show _ ≤ 1; omega, by show _ ≤ 6; omega⟩) hS hD hA (fun H locs hP hS => ?_)
  refine lv_icmp_le (tgt := 38) hx hb dX3_needWords_25 (by decide) (fun c4 => ?_) (fun c4 => ?_)
  · have hf := (if_pos c4).symm.trans hf
    obtain rfl := Option.some.inj hf
    exact grTv hx hb hr hlocks hP hK hD hS dX3_needWords_38 (by omega) (by omega)
  · have hf := (if_neg c4).symm.trans hf
    obtain rfl := Option.some.inj hf
    exact gthr0 (cls := "java/lang/IndexOutOfBoundsException") (names := ["java/lang/RuntimeException", "java/lang/Exception"]) (text := "not so many words") hx hb hl0 hown hts (by decide) (by decide) (.tail _ wd_312) (.tail _ wd_313) (by decide +kernel) (fun w h => .tail _ (tha_3 w h)) tht_3 (by decide +kernel) thg_3_92 hT hS (hl.1.trans hml.symm) dX3_needWords_28 dX3_needWords_31 dX3_needWords_32 dX3_needWords_34 dX3_needWords_37 hE (Nat.lt_of_succ_le (Nat.le_of_ble_eq_true rfl)) (Nat.le_of_ble_eq_true rfl) (by show _ ≤ 1; omega) (by show _ ≤ 6; omega) hlocks (gqT hP hK hD hS) hS.2.2 (by omega) (by omega)
set_option maxHeartbeats 4000000 in
set_option maxRecDepth 100000 in
theorem c_wh_rowWord (l : Launch) (G : va_G) (cL cZ : ClassId) (Q : Nat → Nat) (A : Nat → Nat) (z : Hs) (sz : Nat) (p0 : Int32) (O0 : Int32) (hf : wh_rowWord z p0 = some O0) : Met l yX3_rowWord vX3_rowWord { frames := 1, cells := 0, slots := 0, locals := 21 } (gPc G vwCl (ct cL cZ) [.ref (Q 0), .int p0] (cw cL cZ Q A z) sz) (qRi G vwCl (ct cL cZ) (cw cL cZ Q A z) sz O0) 0 0 (va_A (cw cL cZ Q A z) sz) := by
  refine gMet (by decide) rfl (Nat.le_of_ble_eq_true rfl) ?_
  intro p e s m below meth c ls C hK hP hD hsz hl
  subst hsz
  obtain ⟨hx, hb, hr, hml, hown, hts, hlocks⟩ := id C
  have FX : CallFix p m c cX3_rowWord 2 s _ vX3_rowWord RX3 := ⟨hx, hb, hml, hown, hts⟩
  have hA : ∀ q9 : Nat, s.heap.size ≤ q9 → va_A (cw cL cZ Q A z) s.heap.size q9 := fun q9 h => Or.inr h
  have hS : va_S (va_A (cw cL cZ Q A z) s.heap.size) s.heap s.heap [] := va_S.rf
  have hl : lv_has ls 2 [(0, .ref (Q 0)), (1, .int p0)] := hl
  unfold wh_rowWord at hf
  refine lv_aload_n hx hb dX3_rowWord_0 rfl (lv_at hl 0 rfl) ?_
  refine va_get (D := G) (ci := 3) (v := .ref (Q 1)) (C := RX3) (T := TX3) (N := 3) hx hb hts (fun w h => .tail _ (wl_X3 w h)) hown hK hP 0 rfl rfl 0 (by decide) (hts _ (.tail _ wd_269)) (fun _ h9 => h9) rfl dX3_rowWord_1 ?_
  refine lv_aload_n hx hb dX3_rowWord_4 rfl (lv_at hl 0 rfl) ?_
  refine va_get (D := G) (ci := 3) (v := .ref (Q 1)) (C := RX3) (T := TX3) (N := 3) hx hb hts (fun w h => .tail _ (wl_X3 w h)) hown hK hP 0 rfl rfl 0 (by decide) (hts _ (.tail _ wd_269)) (fun _ h9 => h9) rfl dX3_rowWord_5 ?_
  refine lv_iload_n hx hb dX3_rowWord_8 rfl (lv_at hl 1 rfl) ?_
  obtain ⟨r1, ho1, hf⟩ := of_b0 hf
  refine gcRi (gV FX [.int p0] (c_hp_handleAt l G cL cZ Q A z _ p0 _ ho1) (cwV 1 hts (gi_V wd_298 wd_14 wd_15 wd_7 wd_16) rfl rfl rfl hdV_X0_handleAt ⟨Nat.le_of_ble_eq_true rfl, Nat.le_of_ble_eq_true rfl⟩) hK hP hD 1 rfl rfl rfl hl.1 (Nat.le_of_ble_eq_true rfl) dX3_rowWord_9 ⟨by show _ ≤ 0; omega, by show _ ≤ 0; omega⟩) hS hD hA (fun H locs hP hS => ?_)
  obtain ⟨r2, ho2, hf⟩ := of_b0 hf
  refine gcRi (gV FX [.int r1] (c_hp_first l G cL cZ Q A z _ r1 _ ho2) (cwV 1 hts (gi_V wd_346 wd_65 wd_66 wd_7 wd_67) rfl rfl rfl hdV_X0_first ⟨Nat.le_of_ble_eq_true rfl, Nat.le_of_ble_eq_true rfl⟩) hK hP hD 1 rfl rfl rfl hl.1 (Nat.le_of_ble_eq_true rfl) dX3_rowWord_12 ⟨by show _ ≤ 0; omega, by show _ ≤ 0; omega⟩) hS hD hA (fun H locs hP hS => ?_)
  refine lv_aload_n hx hb dX3_rowWord_15 rfl (lv_at hl 0 rfl) ?_
  refine va_get (D := G) (ci := 3) (v := .ref (Q 1)) (C := RX3) (T := TX3) (N := 3) hx hb hts (fun w h => .tail _ (wl_X3 w h)) hown hK hP 0 rfl rfl 0 (by decide) (hts _ (.tail _ wd_269)) (fun _ h9 => h9) rfl dX3_rowWord_16 ?_
  refine lv_iload_n hx hb dX3_rowWord_19 rfl (lv_at hl 1 rfl) ?_
  obtain ⟨r3, ho3, hf⟩ := of_b0 hf
  refine gcRi (gV FX [.int p0] (c_hp_placeAt l G cL cZ Q A z _ p0 _ ho3) (cwV 1 hts (gi_V wd_338 wd_339 wd_340 wd_7 wd_341) rfl rfl rfl hdV_X0_placeAt ⟨Nat.le_of_ble_eq_true rfl, Nat.le_of_ble_eq_true rfl⟩) hK hP hD 1 rfl rfl rfl hl.1 (Nat.le_of_ble_eq_true rfl) dX3_rowWord_20 ⟨by show _ ≤ 0; omega, by show _ ≤ 0; omega⟩) hS hD hA (fun H locs hP hS => ?_)
  refine lv_iadd hx hb dX3_rowWord_23 ?_
  obtain rfl := Option.some.inj hf
  exact grRi hx hb hr hlocks hP hK hD hS dX3_rowWord_24 (by omega) (by omega)
set_option maxHeartbeats 4000000 in
set_option maxRecDepth 100000 in
theorem c_wh_copy (l : Launch) (hl0 : l.stackTraces = false) (G : va_G) (cL cZ : ClassId) (Q : Nat → Nat) (A : Nat → Nat) (z : Hs) (sz : Nat) (p0 : Int32) (p1 : Int32) (p2 : Int32) (O0 : Hs × (String ⊕ Unit)) (hf : wh_copy z p0 p1 p2 = some O0) : vx_Met l yX3_copy vX3_copy { frames := 9, cells := 7, slots := 42, locals := 222 } (gPx txC G vwCl (ct cL cZ) [.ref (Q 0), .int p0, .int p1, .int p2] (cw cL cZ Q A z) sz) (qXv G vwCl (ct cL cZ) (cw cL cZ Q A z) sz (cw cL cZ Q) O0) (xX G vwCl (ct cL cZ) (cw cL cZ Q A z) sz (cw cL cZ Q) O0) 7 42 (va_A (cw cL cZ Q A z) sz) := by
  refine gMetx (by decide) rfl (Nat.le_of_ble_eq_true rfl) ?_
  intro p e s m below meth c ls C hE hK hP hD hT hsz hl
  subst hsz
  obtain ⟨hx, hb, hr, hml, hown, hts, hlocks⟩ := id C
  have FX : CallFix p m c cX3_copy 4 s _ vX3_copy RX3 := ⟨hx, hb, hml, hown, hts⟩
  have hA : ∀ q9 : Nat, s.heap.size ≤ q9 → va_A (cw cL cZ Q A z) s.heap.size q9 := fun q9 h => Or.inr h
  have hS : va_S (va_A (cw cL cZ Q A z) s.heap.size) s.heap s.heap [] := va_S.rf
  have hl : lv_has ls 4 [(0, .ref (Q 0)), (1, .int p0), (2, .int p1), (3, .int p2)] := hl
  unfold wh_copy at hf
  refine lv_iload_n hx hb dX3_copy_0 rfl (lv_at hl 1 rfl) ?_
  rcases of_bt hf with ⟨e9, ho1, hj⟩ | ⟨o9, ho1, hf⟩
  · subst hj
    exact goutX (gSx FX [.int p0] (c_wh_needRegister l hl0 G cL cZ Q A z _ p0 _ ho1) (cwS 1 hts (gi_S wd_271 wd_272 wd_273 wd_274) rfl rfl rfl hdS_X3_needRegister ⟨Nat.le_of_ble_eq_true rfl, Nat.le_of_ble_eq_true rfl⟩) hK hP hD hT hS hA rfl hl.1 (Nat.le_of_ble_eq_true rfl) dX3_copy_1 ⟨by show _ ≤ 7; omega, by show _ ≤ 42; omega⟩) (noTv) hS hD hK hE hlocks (by omega) (by omega)
  refine gcTv (gSx FX [.int p0] (c_wh_needRegister l hl0 G cL cZ Q A z _ p0 _ ho1) (cwS 1 hts (gi_S wd_271 wd_272 wd_273 wd_274) rfl rfl rfl hdS_X3_needRegister ⟨Nat.le_of_ble_eq_true rfl, Nat.le_of_ble_eq_true rfl⟩) hK hP hD hT hS hA rfl hl.1 (Nat.le_of_ble_eq_true rfl) dX3_copy_1 ⟨by show _ ≤ 7; omega, by show _ ≤ 42; omega⟩) hS hD hA (fun H locs hP hS => ?_)
  refine lv_iload_n hx hb dX3_copy_4 rfl (lv_at hl 2 rfl) ?_
  rcases of_bt hf with ⟨e9, ho2, hj⟩ | ⟨o9, ho2, hf⟩
  · subst hj
    exact goutX (gSx FX [.int p1] (c_wh_needRegister l hl0 G cL cZ Q A z _ p1 _ ho2) (cwS 1 hts (gi_S wd_271 wd_272 wd_273 wd_274) rfl rfl rfl hdS_X3_needRegister ⟨Nat.le_of_ble_eq_true rfl, Nat.le_of_ble_eq_true rfl⟩) hK hP hD hT hS hA rfl hl.1 (Nat.le_of_ble_eq_true rfl) dX3_copy_5 ⟨by show _ ≤ 7; omega, by show _ ≤ 42; omega⟩) (noTv) hS hD hK hE hlocks (by omega) (by omega)
  refine gcTv (gSx FX [.int p1] (c_wh_needRegister l hl0 G cL cZ Q A z _ p1 _ ho2) (cwS 1 hts (gi_S wd_271 wd_272 wd_273 wd_274) rfl rfl rfl hdS_X3_needRegister ⟨Nat.le_of_ble_eq_true rfl, Nat.le_of_ble_eq_true rfl⟩) hK hP hD hT hS hA rfl hl.1 (Nat.le_of_ble_eq_true rfl) dX3_copy_5 ⟨by show _ ≤ 7; omega, by show _ ≤ 42; omega⟩) hS hD hA (fun H locs hP hS => ?_)
  refine lv_iload_n hx hb dX3_copy_8 rfl (lv_at hl 3 rfl) ?_
  refine lv_iconst (v := 0) hx hb dX3_copy_9 (by decide) ?_
  refine lv_sipush (v := 4096) hx hb dX3_copy_10 (by decide) ?_
  rcases of_bt hf with ⟨e9, ho3, hj⟩ | ⟨o9, ho3, hf⟩
  · subst hj
    exact goutX (gSx FX [.int p2, .int 0, .int 4096] (c_wh_needWithin l hl0 G cL cZ Q A z _ p2 0 4096 _ ho3) (cwS 3 hts (gi_S wd_289 wd_290 wd_273 wd_291) rfl rfl rfl hdS_X3_needWithin ⟨Nat.le_of_ble_eq_true rfl, Nat.le_of_ble_eq_true rfl⟩) hK hP hD hT hS hA rfl hl.1 (Nat.le_of_ble_eq_true rfl) dX3_copy_13 ⟨by show _ ≤ 7; omega, by show _ ≤ 42; omega⟩) (noTv) hS hD hK hE hlocks (by omega) (by omega)
  refine gcTv (gSx FX [.int p2, .int 0, .int 4096] (c_wh_needWithin l hl0 G cL cZ Q A z _ p2 0 4096 _ ho3) (cwS 3 hts (gi_S wd_289 wd_290 wd_273 wd_291) rfl rfl rfl hdS_X3_needWithin ⟨Nat.le_of_ble_eq_true rfl, Nat.le_of_ble_eq_true rfl⟩) hK hP hD hT hS hA rfl hl.1 (Nat.le_of_ble_eq_true rfl) dX3_copy_13 ⟨by show _ ≤ 7; omega, by show _ ≤ 42; omega⟩) hS hD hA (fun H locs hP hS => ?_)
  refine lv_aload_n hx hb dX3_copy_16 rfl (lv_at hl 0 rfl) ?_
  refine lv_iload_n hx hb dX3_copy_17 rfl (lv_at hl 1 rfl) ?_
  rcases of_bt hf with ⟨e9, ho4, hj⟩ | ⟨r4, ho4, hf⟩
  · subst hj
    exact goutX (gVx FX [.int p0] (c_wh_rowIn l hl0 G cL cZ Q A z _ p0 _ ho4) (cwV 1 hts (gi_V wd_342 wd_343 wd_344 wd_273 wd_345) rfl rfl rfl hdV_X3_rowIn ⟨Nat.le_of_ble_eq_true rfl, Nat.le_of_ble_eq_true rfl⟩) hK hP hD hT hS hA 0 rfl rfl rfl hl.1 (Nat.le_of_ble_eq_true rfl) dX3_copy_18 ⟨by show _ ≤ 7; omega, by show _ ≤ 42; omega⟩) (noTi) hS hD hK hE hlocks (by omega) (by omega)
  refine gcTi (gVx FX [.int p0] (c_wh_rowIn l hl0 G cL cZ Q A z _ p0 _ ho4) (cwV 1 hts (gi_V wd_342 wd_343 wd_344 wd_273 wd_345) rfl rfl rfl hdV_X3_rowIn ⟨Nat.le_of_ble_eq_true rfl, Nat.le_of_ble_eq_true rfl⟩) hK hP hD hT hS hA 0 rfl rfl rfl hl.1 (Nat.le_of_ble_eq_true rfl) dX3_copy_18 ⟨by show _ ≤ 7; omega, by show _ ≤ 42; omega⟩) hS hD hA (fun H locs hP hS => ?_)
  refine lv_pop hx hb dX3_copy_21 rfl ?_
  refine lv_aload_n hx hb dX3_copy_22 rfl (lv_at hl 0 rfl) ?_
  refine lv_iload_n hx hb dX3_copy_23 rfl (lv_at hl 2 rfl) ?_
  rcases of_bt hf with ⟨e9, ho5, hj⟩ | ⟨r5, ho5, hf⟩
  · subst hj
    exact goutX (gVx FX [.int p1] (c_wh_rowIn l hl0 G cL cZ Q A z _ p1 _ ho5) (cwV 1 hts (gi_V wd_342 wd_343 wd_344 wd_273 wd_345) rfl rfl rfl hdV_X3_rowIn ⟨Nat.le_of_ble_eq_true rfl, Nat.le_of_ble_eq_true rfl⟩) hK hP hD hT hS hA 0 rfl rfl rfl hl.1 (Nat.le_of_ble_eq_true rfl) dX3_copy_24 ⟨by show _ ≤ 7; omega, by show _ ≤ 42; omega⟩) (noTi) hS hD hK hE hlocks (by omega) (by omega)
  refine gcTi (gVx FX [.int p1] (c_wh_rowIn l hl0 G cL cZ Q A z _ p1 _ ho5) (cwV 1 hts (gi_V wd_342 wd_343 wd_344 wd_273 wd_345) rfl rfl rfl hdV_X3_rowIn ⟨Nat.le_of_ble_eq_true rfl, Nat.le_of_ble_eq_true rfl⟩) hK hP hD hT hS hA 0 rfl rfl rfl hl.1 (Nat.le_of_ble_eq_true rfl) dX3_copy_24 ⟨by show _ ≤ 7; omega, by show _ ≤ 42; omega⟩) hS hD hA (fun H locs hP hS => ?_)
  refine lv_pop hx hb dX3_copy_27 rfl ?_
  refine lv_aload_n hx hb dX3_copy_28 rfl (lv_at hl 0 rfl) ?_
  refine lv_iload_n hx hb dX3_copy_29 rfl (lv_at hl 1 rfl) ?_
  refine lv_iload_n hx hb dX3_copy_30 rfl (lv_at hl 3 rfl) ?_
  rcases of_bt hf with ⟨e9, ho6, hj⟩ | ⟨o9, ho6, hf⟩
  · subst hj
    exact goutX (gVx FX [.int p0, .int p2] (c_wh_needWords l hl0 G cL cZ Q A z _ p0 p2 _ ho6) (cwV 2 hts (gi_V wd_356 wd_357 wd_358 wd_273 wd_359) rfl rfl rfl hdV_X3_needWords ⟨Nat.le_of_ble_eq_true rfl, Nat.le_of_ble_eq_true rfl⟩) hK hP hD hT hS hA 0 rfl rfl rfl hl.1 (Nat.le_of_ble_eq_true rfl) dX3_copy_31 ⟨by show _ ≤ 7; omega, by show _ ≤ 42; omega⟩) (noTv) hS hD hK hE hlocks (by omega) (by omega)
  refine gcTv (gVx FX [.int p0, .int p2] (c_wh_needWords l hl0 G cL cZ Q A z _ p0 p2 _ ho6) (cwV 2 hts (gi_V wd_356 wd_357 wd_358 wd_273 wd_359) rfl rfl rfl hdV_X3_needWords ⟨Nat.le_of_ble_eq_true rfl, Nat.le_of_ble_eq_true rfl⟩) hK hP hD hT hS hA 0 rfl rfl rfl hl.1 (Nat.le_of_ble_eq_true rfl) dX3_copy_31 ⟨by show _ ≤ 7; omega, by show _ ≤ 42; omega⟩) hS hD hA (fun H locs hP hS => ?_)
  refine lv_aload_n hx hb dX3_copy_34 rfl (lv_at hl 0 rfl) ?_
  refine lv_iload_n hx hb dX3_copy_35 rfl (lv_at hl 2 rfl) ?_
  refine lv_iload_n hx hb dX3_copy_36 rfl (lv_at hl 3 rfl) ?_
  rcases of_bt hf with ⟨e9, ho7, hj⟩ | ⟨o9, ho7, hf⟩
  · subst hj
    exact goutX (gVx FX [.int p1, .int p2] (c_wh_needWords l hl0 G cL cZ Q A z _ p1 p2 _ ho7) (cwV 2 hts (gi_V wd_356 wd_357 wd_358 wd_273 wd_359) rfl rfl rfl hdV_X3_needWords ⟨Nat.le_of_ble_eq_true rfl, Nat.le_of_ble_eq_true rfl⟩) hK hP hD hT hS hA 0 rfl rfl rfl hl.1 (Nat.le_of_ble_eq_true rfl) dX3_copy_37 ⟨by show _ ≤ 7; omega, by show _ ≤ 42; omega⟩) (noTv) hS hD hK hE hlocks (by omega) (by omega)
  refine gcTv (gVx FX [.int p1, .int p2] (c_wh_needWords l hl0 G cL cZ Q A z _ p1 p2 _ ho7) (cwV 2 hts (gi_V wd_356 wd_357 wd_358 wd_273 wd_359) rfl rfl rfl hdV_X3_needWords ⟨Nat.le_of_ble_eq_true rfl, Nat.le_of_ble_eq_true rfl⟩) hK hP hD hT hS hA 0 rfl rfl rfl hl.1 (Nat.le_of_ble_eq_true rfl) dX3_copy_37 ⟨by show _ ≤ 7; omega, by show _ ≤ 42; omega⟩) hS hD hA (fun H locs hP hS => ?_)
  refine lv_aload_n hx hb dX3_copy_40 rfl (lv_at hl 0 rfl) ?_
  refine va_get (D := G) (ci := 3) (v := .ref (Q 1)) (C := RX3) (T := TX3) (N := 3) hx hb hts (fun w h => .tail _ (wl_X3 w h)) hown hK hP 0 rfl rfl 0 (by decide) (hts _ (.tail _ wd_269)) (fun _ h9 => h9) rfl dX3_copy_41 ?_
  refine lv_aload_n hx hb dX3_copy_44 rfl (lv_at hl 0 rfl) ?_
  refine lv_iload_n hx hb dX3_copy_45 rfl (lv_at hl 1 rfl) ?_
  obtain ⟨r8, ho8, hf⟩ := of_b0 hf
  refine gcRi (gV FX [.int p0] (c_wh_rowWord l G cL cZ Q A z _ p0 _ ho8) (cwV 1 hts (gi_V wd_352 wd_353 wd_354 wd_273 wd_355) rfl rfl rfl hdV_X3_rowWord ⟨Nat.le_of_ble_eq_true rfl, Nat.le_of_ble_eq_true rfl⟩) hK hP hD 0 rfl rfl rfl hl.1 (Nat.le_of_ble_eq_true rfl) dX3_copy_46 ⟨by show _ ≤ 7; omega, by show _ ≤ 42; omega⟩) hS hD hA (fun H locs hP hS => ?_)
  refine lv_aload_n hx hb dX3_copy_49 rfl (lv_at hl 0 rfl) ?_
  refine lv_iload_n hx hb dX3_copy_50 rfl (lv_at hl 2 rfl) ?_
  obtain ⟨r9, ho9, hf⟩ := of_b0 hf
  refine gcRi (gV FX [.int p1] (c_wh_rowWord l G cL cZ Q A z _ p1 _ ho9) (cwV 1 hts (gi_V wd_352 wd_353 wd_354 wd_273 wd_355) rfl rfl rfl hdV_X3_rowWord ⟨Nat.le_of_ble_eq_true rfl, Nat.le_of_ble_eq_true rfl⟩) hK hP hD 0 rfl rfl rfl hl.1 (Nat.le_of_ble_eq_true rfl) dX3_copy_51 ⟨by show _ ≤ 7; omega, by show _ ≤ 42; omega⟩) hS hD hA (fun H locs hP hS => ?_)
  refine lv_iload_n hx hb dX3_copy_54 rfl (lv_at hl 3 rfl) ?_
  obtain ⟨z10, o9, ho10, hf⟩ := of_bw hf
  refine gcWv (gV FX [.int r8, .int r9, .int p2] (c_hp_copyWords l G cL cZ Q A z _ r8 r9 p2 _ ho10) (cwV 3 hts (gi_V wd_351 wd_49 wd_50 wd_7 wd_51) rfl rfl rfl hdV_X0_copyWords ⟨Nat.le_of_ble_eq_true rfl, Nat.le_of_ble_eq_true rfl⟩) hK hP hD 1 rfl rfl rfl hl.1 (Nat.le_of_ble_eq_true rfl) dX3_copy_55 ⟨by show _ ≤ 7; omega, by show _ ≤ 42; omega⟩) hS hD hA (fun A H locs hP hD hS => ?_)
  obtain rfl := Option.some.inj hf
  exact grXv hx hb hr hlocks hP hK hD hS dX3_copy_58 (by omega) (by omega)
set_option maxHeartbeats 4000000 in
set_option maxRecDepth 100000 in
theorem c_wh_mapIn (l : Launch) (hl0 : l.stackTraces = false) (G : va_G) (cL cZ : ClassId) (Q : Nat → Nat) (A : Nat → Nat) (z : Hs) (sz : Nat) (p0 : Int32) (O0 : (String ⊕ Int32)) (hf : wh_mapIn z p0 = some O0) : vx_Met l yX3_mapIn vX3_mapIn { frames := 8, cells := 1, slots := 6, locals := 200 } (gPx txC G vwCl (ct cL cZ) [.ref (Q 0), .int p0] (cw cL cZ Q A z) sz) (qTi G vwCl (ct cL cZ) (cw cL cZ Q A z) sz O0) (xT G vwCl (ct cL cZ) (cw cL cZ Q A z) sz O0) 1 6 (va_A (cw cL cZ Q A z) sz) := by
  refine gMetx (by decide) rfl (Nat.le_of_ble_eq_true rfl) ?_
  intro p e s m below meth c ls C hE hK hP hD hT hsz hl
  subst hsz
  obtain ⟨hx, hb, hr, hml, hown, hts, hlocks⟩ := id C
  have FX : CallFix p m c cX3_mapIn 2 s _ vX3_mapIn RX3 := ⟨hx, hb, hml, hown, hts⟩
  have hA : ∀ q9 : Nat, s.heap.size ≤ q9 → va_A (cw cL cZ Q A z) s.heap.size q9 := fun q9 h => Or.inr h
  have hS : va_S (va_A (cw cL cZ Q A z) s.heap.size) s.heap s.heap [] := va_S.rf
  have hl : lv_has ls 2 [(0, .ref (Q 0)), (1, .int p0)] := hl
  unfold wh_mapIn at hf
  refine lv_aload_n hx hb dX3_mapIn_0 rfl (lv_at hl 0 rfl) ?_
  refine va_get (D := G) (ci := 3) (v := .ref (Q 1)) (C := RX3) (T := TX3) (N := 3) hx hb hts (fun w h => .tail _ (wl_X3 w h)) hown hK hP 0 rfl rfl 0 (by decide) (hts _ (.tail _ wd_269)) (fun _ h9 => h9) rfl dX3_mapIn_1 ?_
  refine lv_iload_n hx hb dX3_mapIn_4 rfl (lv_at hl 1 rfl) ?_
  obtain ⟨r1, ho1, hf⟩ := of_b0 hf
  refine gcRi (gV FX [.int p0] (c_hp_kindAt l G cL cZ Q A z _ p0 _ ho1) (cwV 1 hts (gi_V wd_301 wd_187 wd_188 wd_7 wd_189) rfl rfl rfl hdV_X0_kindAt ⟨Nat.le_of_ble_eq_true rfl, Nat.le_of_ble_eq_true rfl⟩) hK hP hD 1 rfl rfl rfl hl.1 (Nat.le_of_ble_eq_true rfl) dX3_mapIn_5 ⟨by show _ ≤ 1; omega, by show _ ≤ 6; omega⟩) hS hD hA (fun H locs hP hS => ?_)
  refine lv_iconst (v := 4) hx hb dX3_mapIn_8 (by decide) ?_
  refine lv_icmp_eq (tgt := 22) hx hb dX3_mapIn_9 (by decide) (fun c2 => ?_) (fun c2 => ?_)
  · have hf := (if_pos c2).symm.trans hf
    refine lv_aload_n hx hb dX3_mapIn_22 rfl (lv_at hl 0 rfl) ?_
    refine va_get (D := G) (ci := 3) (v := .ref (Q 1)) (C := RX3) (T := TX3) (N := 3) hx hb hts (fun w h => .tail _ (wl_X3 w h)) hown hK hP 0 rfl rfl 0 (by decide) (hts _ (.tail _ wd_269)) (fun _ h9 => h9) rfl dX3_mapIn_23 ?_
    refine lv_iload_n hx hb dX3_mapIn_26 rfl (lv_at hl 1 rfl) ?_
    obtain ⟨r3, ho3, hf⟩ := of_b0 hf
    refine gcRi (gV FX [.int p0] (c_hp_handleAt l G cL cZ Q A z _ p0 _ ho3) (cwV 1 hts (gi_V wd_298 wd_14 wd_15 wd_7 wd_16) rfl rfl rfl hdV_X0_handleAt ⟨Nat.le_of_ble_eq_true rfl, Nat.le_of_ble_eq_true rfl⟩) hK hP hD 1 rfl rfl rfl hl.1 (Nat.le_of_ble_eq_true rfl) dX3_mapIn_27 ⟨by show _ ≤ 1; omega, by show _ ≤ 6; omega⟩) hS hD hA (fun H locs hP hS => ?_)
    obtain rfl := Option.some.inj hf
    exact grTi hx hb hr hlocks hP hK hD hS dX3_mapIn_30 (by omega) (by omega)
  · have hf := (if_neg c2).symm.trans hf
    obtain rfl := Option.some.inj hf
    exact gthr0 (cls := "java/lang/UnsupportedOperationException") (names := ["java/lang/RuntimeException", "java/lang/Exception"]) (text := "no map") hx hb hl0 hown hts (by decide) (by decide) (.tail _ wd_299) (.tail _ wd_300) (by decide +kernel) (fun w h => .tail _ (tha_2 w h)) tht_2 (by decide +kernel) thg_2_82 hT hS (hl.1.trans hml.symm) dX3_mapIn_12 dX3_mapIn_15 dX3_mapIn_16 dX3_mapIn_18 dX3_mapIn_21 hE (Nat.lt_of_succ_le (Nat.le_of_ble_eq_true rfl)) (Nat.le_of_ble_eq_true rfl) (by show _ ≤ 1; omega) (by show _ ≤ 6; omega) hlocks (gqT hP hK hD hS) hS.2.2 (by omega) (by omega)
set_option maxHeartbeats 4000000 in
set_option maxRecDepth 100000 in
theorem c_wh_needMapAndWords (l : Launch) (hl0 : l.stackTraces = false) (G : va_G) (cL cZ : ClassId) (Q : Nat → Nat) (A : Nat → Nat) (z : Hs) (sz : Nat) (p0 : Int32) (p1 : Int32) (O0 : (String ⊕ Unit)) (hf : wh_needMapAndWords z p0 p1 = some O0) : vx_Met l yX3_needMapAndWords vX3_needMapAndWords { frames := 9, cells := 5, slots := 30, locals := 222 } (gPx txC G vwCl (ct cL cZ) [.ref (Q 0), .int p0, .int p1] (cw cL cZ Q A z) sz) (qTv G vwCl (ct cL cZ) (cw cL cZ Q A z) sz O0) (xT G vwCl (ct cL cZ) (cw cL cZ Q A z) sz O0) 5 30 (va_A (cw cL cZ Q A z) sz) := by
  refine gMetx (by decide) rfl (Nat.le_of_ble_eq_true rfl) ?_
  intro p e s m below meth c ls C hE hK hP hD hT hsz hl
  subst hsz
  obtain ⟨hx, hb, hr, hml, hown, hts, hlocks⟩ := id C
  have FX : CallFix p m c cX3_needMapAndWords 4 s _ vX3_needMapAndWords RX3 := ⟨hx, hb, hml, hown, hts⟩
  have hA : ∀ q9 : Nat, s.heap.size ≤ q9 → va_A (cw cL cZ Q A z) s.heap.size q9 := fun q9 h => Or.inr h
  have hS : va_S (va_A (cw cL cZ Q A z) s.heap.size) s.heap s.heap [] := va_S.rf
  have hl : lv_has ls 4 [(0, .ref (Q 0)), (1, .int p0), (2, .int p1)] := hl
  unfold wh_needMapAndWords at hf
  refine lv_iload_n hx hb dX3_needMapAndWords_0 rfl (lv_at hl 1 rfl) ?_
  rcases of_bt hf with ⟨e9, ho1, hj⟩ | ⟨o9, ho1, hf⟩
  · subst hj
    exact goutT (gSx FX [.int p0] (c_wh_needRegister l hl0 G cL cZ Q A z _ p0 _ ho1) (cwS 1 hts (gi_S wd_271 wd_272 wd_273 wd_274) rfl rfl rfl hdS_X3_needRegister ⟨Nat.le_of_ble_eq_true rfl, Nat.le_of_ble_eq_true rfl⟩) hK hP hD hT hS hA rfl hl.1 (Nat.le_of_ble_eq_true rfl) dX3_needMapAndWords_1 ⟨by show _ ≤ 5; omega, by show _ ≤ 30; omega⟩) (noTv) hS hD hK hE hlocks (by omega) (by omega)
  refine gcTv (gSx FX [.int p0] (c_wh_needRegister l hl0 G cL cZ Q A z _ p0 _ ho1) (cwS 1 hts (gi_S wd_271 wd_272 wd_273 wd_274) rfl rfl rfl hdS_X3_needRegister ⟨Nat.le_of_ble_eq_true rfl, Nat.le_of_ble_eq_true rfl⟩) hK hP hD hT hS hA rfl hl.1 (Nat.le_of_ble_eq_true rfl) dX3_needMapAndWords_1 ⟨by show _ ≤ 5; omega, by show _ ≤ 30; omega⟩) hS hD hA (fun H locs hP hS => ?_)
  refine lv_iload_n hx hb dX3_needMapAndWords_4 rfl (lv_at hl 2 rfl) ?_
  rcases of_bt hf with ⟨e9, ho2, hj⟩ | ⟨o9, ho2, hf⟩
  · subst hj
    exact goutT (gSx FX [.int p1] (c_wh_needRegister l hl0 G cL cZ Q A z _ p1 _ ho2) (cwS 1 hts (gi_S wd_271 wd_272 wd_273 wd_274) rfl rfl rfl hdS_X3_needRegister ⟨Nat.le_of_ble_eq_true rfl, Nat.le_of_ble_eq_true rfl⟩) hK hP hD hT hS hA rfl hl.1 (Nat.le_of_ble_eq_true rfl) dX3_needMapAndWords_5 ⟨by show _ ≤ 5; omega, by show _ ≤ 30; omega⟩) (noTv) hS hD hK hE hlocks (by omega) (by omega)
  refine gcTv (gSx FX [.int p1] (c_wh_needRegister l hl0 G cL cZ Q A z _ p1 _ ho2) (cwS 1 hts (gi_S wd_271 wd_272 wd_273 wd_274) rfl rfl rfl hdS_X3_needRegister ⟨Nat.le_of_ble_eq_true rfl, Nat.le_of_ble_eq_true rfl⟩) hK hP hD hT hS hA rfl hl.1 (Nat.le_of_ble_eq_true rfl) dX3_needMapAndWords_5 ⟨by show _ ≤ 5; omega, by show _ ≤ 30; omega⟩) hS hD hA (fun H locs hP hS => ?_)
  refine lv_aload_n hx hb dX3_needMapAndWords_8 rfl (lv_at hl 0 rfl) ?_
  refine lv_iload_n hx hb dX3_needMapAndWords_9 rfl (lv_at hl 1 rfl) ?_
  rcases of_bt hf with ⟨e9, ho3, hj⟩ | ⟨r3, ho3, hf⟩
  · subst hj
    exact goutT (gVx FX [.int p0] (c_wh_mapIn l hl0 G cL cZ Q A z _ p0 _ ho3) (cwV 1 hts (gi_V wd_361 wd_362 wd_363 wd_273 wd_364) rfl rfl rfl hdV_X3_mapIn ⟨Nat.le_of_ble_eq_true rfl, Nat.le_of_ble_eq_true rfl⟩) hK hP hD hT hS hA 0 rfl rfl rfl hl.1 (Nat.le_of_ble_eq_true rfl) dX3_needMapAndWords_10 ⟨by show _ ≤ 5; omega, by show _ ≤ 30; omega⟩) (noTi) hS hD hK hE hlocks (by omega) (by omega)
  refine gcTi (gVx FX [.int p0] (c_wh_mapIn l hl0 G cL cZ Q A z _ p0 _ ho3) (cwV 1 hts (gi_V wd_361 wd_362 wd_363 wd_273 wd_364) rfl rfl rfl hdV_X3_mapIn ⟨Nat.le_of_ble_eq_true rfl, Nat.le_of_ble_eq_true rfl⟩) hK hP hD hT hS hA 0 rfl rfl rfl hl.1 (Nat.le_of_ble_eq_true rfl) dX3_needMapAndWords_10 ⟨by show _ ≤ 5; omega, by show _ ≤ 30; omega⟩) hS hD hA (fun H locs hP hS => ?_)
  refine lv_istore_n (lv' := [(3, .int r3), (0, .ref (Q 0)), (1, .int p0), (2, .int p1)]) hx hb dX3_needMapAndWords_13 rfl hl (by decide) rfl (fun ls hl => ?_)
  refine lv_aload_n hx hb dX3_needMapAndWords_14 rfl (lv_at hl 1 rfl) ?_
  refine lv_iload_n hx hb dX3_needMapAndWords_15 rfl (lv_at hl 3 rfl) ?_
  rcases of_bt hf with ⟨e9, ho4, hj⟩ | ⟨r4, ho4, hf⟩
  · subst hj
    exact goutT (gVx FX [.int p1] (c_wh_rowIn l hl0 G cL cZ Q A z _ p1 _ ho4) (cwV 1 hts (gi_V wd_342 wd_343 wd_344 wd_273 wd_345) rfl rfl rfl hdV_X3_rowIn ⟨Nat.le_of_ble_eq_true rfl, Nat.le_of_ble_eq_true rfl⟩) hK hP hD hT hS hA 0 rfl rfl rfl hl.1 (Nat.le_of_ble_eq_true rfl) dX3_needMapAndWords_16 ⟨by show _ ≤ 5; omega, by show _ ≤ 30; omega⟩) (noTi) hS hD hK hE hlocks (by omega) (by omega)
  refine gcTi (gVx FX [.int p1] (c_wh_rowIn l hl0 G cL cZ Q A z _ p1 _ ho4) (cwV 1 hts (gi_V wd_342 wd_343 wd_344 wd_273 wd_345) rfl rfl rfl hdV_X3_rowIn ⟨Nat.le_of_ble_eq_true rfl, Nat.le_of_ble_eq_true rfl⟩) hK hP hD hT hS hA 0 rfl rfl rfl hl.1 (Nat.le_of_ble_eq_true rfl) dX3_needMapAndWords_16 ⟨by show _ ≤ 5; omega, by show _ ≤ 30; omega⟩) hS hD hA (fun H locs hP hS => ?_)
  refine lv_pop hx hb dX3_needMapAndWords_19 rfl ?_
  refine lv_aload_n hx hb dX3_needMapAndWords_20 rfl (lv_at hl 1 rfl) ?_
  refine lv_iload_n hx hb dX3_needMapAndWords_21 rfl (lv_at hl 3 rfl) ?_
  refine lv_aload_n hx hb dX3_needMapAndWords_22 rfl (lv_at hl 1 rfl) ?_
  refine va_get (D := G) (ci := 3) (v := .ref (Q 3)) (C := RX3) (T := TX3) (N := 3) hx hb hts (fun w h => .tail _ (wl_X3 w h)) hown hK hP 0 rfl rfl 2 (by decide) (hts _ (.tail _ wd_293)) (fun _ h9 => h9) rfl dX3_needMapAndWords_23 ?_
  refine lv_iload_n hx hb dX3_needMapAndWords_26 rfl (lv_at hl 0 rfl) ?_
  obtain ⟨r5, ho5, hf⟩ := of_b0 hf
  refine gcRi (gV FX [.int r3] (c_mp_entryWords l G cL cZ Q A z _ r3 _ ho5) (cwV 1 hts (gi_V wd_360 wd_195 wd_196 wd_166 wd_197) rfl rfl rfl hdV_X1_entryWords ⟨Nat.le_of_ble_eq_true rfl, Nat.le_of_ble_eq_true rfl⟩) hK hP hD 3 rfl rfl rfl hl.1 (Nat.le_of_ble_eq_true rfl) dX3_needMapAndWords_27 ⟨by show _ ≤ 5; omega, by show _ ≤ 30; omega⟩) hS hD hA (fun H locs hP hS => ?_)
  rcases of_bt hf with ⟨e9, ho6, hj⟩ | ⟨o9, ho6, hf⟩
  · subst hj
    exact goutT (gVx FX [.int p1, .int r5] (c_wh_needWords l hl0 G cL cZ Q A z _ p1 r5 _ ho6) (cwV 2 hts (gi_V wd_356 wd_357 wd_358 wd_273 wd_359) rfl rfl rfl hdV_X3_needWords ⟨Nat.le_of_ble_eq_true rfl, Nat.le_of_ble_eq_true rfl⟩) hK hP hD hT hS hA 0 rfl rfl rfl hl.1 (Nat.le_of_ble_eq_true rfl) dX3_needMapAndWords_30 ⟨by show _ ≤ 5; omega, by show _ ≤ 30; omega⟩) (noTv) hS hD hK hE hlocks (by omega) (by omega)
  refine gcTv (gVx FX [.int p1, .int r5] (c_wh_needWords l hl0 G cL cZ Q A z _ p1 r5 _ ho6) (cwV 2 hts (gi_V wd_356 wd_357 wd_358 wd_273 wd_359) rfl rfl rfl hdV_X3_needWords ⟨Nat.le_of_ble_eq_true rfl, Nat.le_of_ble_eq_true rfl⟩) hK hP hD hT hS hA 0 rfl rfl rfl hl.1 (Nat.le_of_ble_eq_true rfl) dX3_needMapAndWords_30 ⟨by show _ ≤ 5; omega, by show _ ≤ 30; omega⟩) hS hD hA (fun H locs hP hS => ?_)
  obtain rfl := Option.some.inj hf
  exact grTv hx hb hr hlocks hP hK hD hS dX3_needMapAndWords_33 (by omega) (by omega)
set_option maxHeartbeats 4000000 in
set_option maxRecDepth 100000 in
theorem c_wh_needTextualKey (l : Launch) (hl0 : l.stackTraces = false) (G : va_G) (cL cZ : ClassId) (Q : Nat → Nat) (A : Nat → Nat) (z : Hs) (sz : Nat) (p0 : Int32) (p1 : Int32) (O0 : (String ⊕ Unit)) (hf : wh_needTextualKey z p0 p1 = some O0) : vx_Met l yX3_needTextualKey vX3_needTextualKey { frames := 8, cells := 1, slots := 6, locals := 200 } (gPx txC G vwCl (ct cL cZ) [.ref (Q 0), .int p0, .int p1] (cw cL cZ Q A z) sz) (qTv G vwCl (ct cL cZ) (cw cL cZ Q A z) sz O0) (xT G vwCl (ct cL cZ) (cw cL cZ Q A z) sz O0) 1 6 (va_A (cw cL cZ Q A z) sz) := by
  refine gMetx (by decide) rfl (Nat.le_of_ble_eq_true rfl) ?_
  intro p e s m below meth c ls C hE hK hP hD hT hsz hl
  subst hsz
  obtain ⟨hx, hb, hr, hml, hown, hts, hlocks⟩ := id C
  have FX : CallFix p m c cX3_needTextualKey 3 s _ vX3_needTextualKey RX3 := ⟨hx, hb, hml, hown, hts⟩
  have hA : ∀ q9 : Nat, s.heap.size ≤ q9 → va_A (cw cL cZ Q A z) s.heap.size q9 := fun q9 h => Or.inr h
  have hS : va_S (va_A (cw cL cZ Q A z) s.heap.size) s.heap s.heap [] := va_S.rf
  have hl : lv_has ls 3 [(0, .ref (Q 0)), (1, .int p0), (2, .int p1)] := hl
  unfold wh_needTextualKey at hf
  refine lv_aload_n hx hb dX3_needTextualKey_0 rfl (lv_at hl 0 rfl) ?_
  refine va_get (D := G) (ci := 3) (v := .ref (Q 3)) (C := RX3) (T := TX3) (N := 3) hx hb hts (fun w h => .tail _ (wl_X3 w h)) hown hK hP 0 rfl rfl 2 (by decide) (hts _ (.tail _ wd_293)) (fun _ h9 => h9) rfl dX3_needTextualKey_1 ?_
  refine lv_aload_n hx hb dX3_needTextualKey_4 rfl (lv_at hl 0 rfl) ?_
  refine va_get (D := G) (ci := 3) (v := .ref (Q 1)) (C := RX3) (T := TX3) (N := 3) hx hb hts (fun w h => .tail _ (wl_X3 w h)) hown hK hP 0 rfl rfl 0 (by decide) (hts _ (.tail _ wd_269)) (fun _ h9 => h9) rfl dX3_needTextualKey_5 ?_
  refine lv_iload_n hx hb dX3_needTextualKey_8 rfl (lv_at hl 1 rfl) ?_
  obtain ⟨r1, ho1, hf⟩ := of_b0 hf
  refine gcRi (gV FX [.int p0] (c_hp_handleAt l G cL cZ Q A z _ p0 _ ho1) (cwV 1 hts (gi_V wd_298 wd_14 wd_15 wd_7 wd_16) rfl rfl rfl hdV_X0_handleAt ⟨Nat.le_of_ble_eq_true rfl, Nat.le_of_ble_eq_true rfl⟩) hK hP hD 1 rfl rfl rfl hl.1 (Nat.le_of_ble_eq_true rfl) dX3_needTextualKey_9 ⟨by show _ ≤ 1; omega, by show _ ≤ 6; omega⟩) hS hD hA (fun H locs hP hS => ?_)
  refine lv_aload_n hx hb dX3_needTextualKey_12 rfl (lv_at hl 0 rfl) ?_
  refine lv_iload_n hx hb dX3_needTextualKey_13 rfl (lv_at hl 2 rfl) ?_
  obtain ⟨r2, ho2, hf⟩ := of_b0 hf
  refine gcRi (gV FX [.int p1] (c_wh_rowWord l G cL cZ Q A z _ p1 _ ho2) (cwV 1 hts (gi_V wd_352 wd_353 wd_354 wd_273 wd_355) rfl rfl rfl hdV_X3_rowWord ⟨Nat.le_of_ble_eq_true rfl, Nat.le_of_ble_eq_true rfl⟩) hK hP hD 0 rfl rfl rfl hl.1 (Nat.le_of_ble_eq_true rfl) dX3_needTextualKey_14 ⟨by show _ ≤ 1; omega, by show _ ≤ 6; omega⟩) hS hD hA (fun H locs hP hS => ?_)
  obtain ⟨r3, ho3, hf⟩ := of_b0 hf
  refine gcRi (gV FX [.int r1, .int r2] (c_mp_hasTextualKey l G cL cZ Q A z _ r1 r2 _ ho3) (cwV 2 hts (gi_V wd_365 wd_366 wd_367 wd_166 wd_368) rfl rfl rfl hdV_X1_hasTextualKey ⟨Nat.le_of_ble_eq_true rfl, Nat.le_of_ble_eq_true rfl⟩) hK hP hD 3 rfl rfl rfl hl.1 (Nat.le_of_ble_eq_true rfl) dX3_needTextualKey_17 ⟨by show _ ≤ 1; omega, by show _ ≤ 6; omega⟩) hS hD hA (fun H locs hP hS => ?_)
  refine lv_if_ne (tgt := 33) hx hb dX3_needTextualKey_20 (by decide) (fun c4 => ?_) (fun c4 => ?_)
  · have hf := (if_neg c4).symm.trans hf
    obtain rfl := Option.some.inj hf
    exact grTv hx hb hr hlocks hP hK hD hS dX3_needTextualKey_33 (by omega) (by omega)
  · have hf := (if_pos c4).symm.trans hf
    obtain rfl := Option.some.inj hf
    exact gthr0 (cls := "java/lang/UnsupportedOperationException") (names := ["java/lang/RuntimeException", "java/lang/Exception"]) (text := "a textual word is neither a text nor nil") hx hb hl0 hown hts (by decide) (by decide) (.tail _ wd_299) (.tail _ wd_300) (by decide +kernel) (fun w h => .tail _ (tha_2 w h)) tht_2 (by decide +kernel) thg_2_82 hT hS (hl.1.trans hml.symm) dX3_needTextualKey_23 dX3_needTextualKey_26 dX3_needTextualKey_27 dX3_needTextualKey_29 dX3_needTextualKey_32 hE (Nat.lt_of_succ_le (Nat.le_of_ble_eq_true rfl)) (Nat.le_of_ble_eq_true rfl) (by show _ ≤ 1; omega) (by show _ ≤ 6; omega) hlocks (gqT hP hK hD hS) hS.2.2 (by omega) (by omega)
set_option maxHeartbeats 4000000 in
set_option maxRecDepth 100000 in
theorem c_wh_put (l : Launch) (hl0 : l.stackTraces = false) (G : va_G) (cL cZ : ClassId) (Q : Nat → Nat) (A : Nat → Nat) (z : Hs) (sz : Nat) (p0 : Int32) (p1 : Int32) (c0 : Nat) (O0 : Hs × (String ⊕ Int32)) (hf : wh_put z p0 p1 = some (c0, O0)) : vx_Met l yX3_put vX3_put { frames := 11, cells := 12, slots := 42 + c0, locals := 268 } (gPx txC G vwCl (ct cL cZ) [.ref (Q 0), .int p0, .int p1] (cw cL cZ Q A z) sz) (qXi G vwCl (ct cL cZ) (cw cL cZ Q A z) sz (cw cL cZ Q) O0) (xX G vwCl (ct cL cZ) (cw cL cZ Q A z) sz (cw cL cZ Q) O0) 12 (42 + c0) (va_A (cw cL cZ Q A z) sz) := by
  refine gMetx (by decide) rfl (Nat.le_of_ble_eq_true rfl) ?_
  intro p e s m below meth c ls C hE hK hP hD hT hsz hl
  subst hsz
  obtain ⟨hx, hb, hr, hml, hown, hts, hlocks⟩ := id C
  have FX : CallFix p m c cX3_put 3 s _ vX3_put RX3 := ⟨hx, hb, hml, hown, hts⟩
  have hA : ∀ q9 : Nat, s.heap.size ≤ q9 → va_A (cw cL cZ Q A z) s.heap.size q9 := fun q9 h => Or.inr h
  have hS : va_S (va_A (cw cL cZ Q A z) s.heap.size) s.heap s.heap [] := va_S.rf
  have hl : lv_has ls 3 [(0, .ref (Q 0)), (1, .int p0), (2, .int p1)] := hl
  unfold wh_put at hf
  refine lv_aload_n hx hb dX3_put_0 rfl (lv_at hl 0 rfl) ?_
  refine lv_iload_n hx hb dX3_put_1 rfl (lv_at hl 1 rfl) ?_
  refine lv_iload_n hx hb dX3_put_2 rfl (lv_at hl 2 rfl) ?_
  rcases of_bt hf with ⟨e9, ho1, hj⟩ | ⟨o9, ho1, hf⟩
  · obtain ⟨hc0, hj⟩ := of_pair hj
    subst hj
    exact goutX (gVx FX [.int p0, .int p1] (c_wh_needMapAndWords l hl0 G cL cZ Q A z _ p0 p1 _ ho1) (cwV 2 hts (gi_V wd_377 wd_378 wd_379 wd_273 wd_380) rfl rfl rfl hdV_X3_needMapAndWords ⟨Nat.le_of_ble_eq_true rfl, Nat.le_of_ble_eq_true rfl⟩) hK hP hD hT hS hA 0 rfl rfl rfl hl.1 (Nat.le_of_ble_eq_true rfl) dX3_put_3 ⟨by show _ ≤ 12; omega, by show _ ≤ 42 + c0; omega⟩) (noTv) hS hD hK hE hlocks (by omega) (by omega)
  refine gcTv (gVx FX [.int p0, .int p1] (c_wh_needMapAndWords l hl0 G cL cZ Q A z _ p0 p1 _ ho1) (cwV 2 hts (gi_V wd_377 wd_378 wd_379 wd_273 wd_380) rfl rfl rfl hdV_X3_needMapAndWords ⟨Nat.le_of_ble_eq_true rfl, Nat.le_of_ble_eq_true rfl⟩) hK hP hD hT hS hA 0 rfl rfl rfl hl.1 (Nat.le_of_ble_eq_true rfl) dX3_put_3 ⟨by show _ ≤ 12; omega, by show _ ≤ 42 + c0; omega⟩) hS hD hA (fun H locs hP hS => ?_)
  refine lv_aload_n hx hb dX3_put_6 rfl (lv_at hl 0 rfl) ?_
  refine lv_iload_n hx hb dX3_put_7 rfl (lv_at hl 1 rfl) ?_
  refine lv_iload_n hx hb dX3_put_8 rfl (lv_at hl 2 rfl) ?_
  rcases of_bt hf with ⟨e9, ho2, hj⟩ | ⟨o9, ho2, hf⟩
  · obtain ⟨hc0, hj⟩ := of_pair hj
    subst hj
    exact goutX (gVx FX [.int p0, .int p1] (c_wh_needTextualKey l hl0 G cL cZ Q A z _ p0 p1 _ ho2) (cwV 2 hts (gi_V wd_373 wd_374 wd_375 wd_273 wd_376) rfl rfl rfl hdV_X3_needTextualKey ⟨Nat.le_of_ble_eq_true rfl, Nat.le_of_ble_eq_true rfl⟩) hK hP hD hT hS hA 0 rfl rfl rfl hl.1 (Nat.le_of_ble_eq_true rfl) dX3_put_9 ⟨by show _ ≤ 12; omega, by show _ ≤ 42 + c0; omega⟩) (noTv) hS hD hK hE hlocks (by omega) (by omega)
  refine gcTv (gVx FX [.int p0, .int p1] (c_wh_needTextualKey l hl0 G cL cZ Q A z _ p0 p1 _ ho2) (cwV 2 hts (gi_V wd_373 wd_374 wd_375 wd_273 wd_376) rfl rfl rfl hdV_X3_needTextualKey ⟨Nat.le_of_ble_eq_true rfl, Nat.le_of_ble_eq_true rfl⟩) hK hP hD hT hS hA 0 rfl rfl rfl hl.1 (Nat.le_of_ble_eq_true rfl) dX3_put_9 ⟨by show _ ≤ 12; omega, by show _ ≤ 42 + c0; omega⟩) hS hD hA (fun H locs hP hS => ?_)
  refine lv_aload_n hx hb dX3_put_12 rfl (lv_at hl 0 rfl) ?_
  refine va_get (D := G) (ci := 3) (v := .ref (Q 3)) (C := RX3) (T := TX3) (N := 3) hx hb hts (fun w h => .tail _ (wl_X3 w h)) hown hK hP 0 rfl rfl 2 (by decide) (hts _ (.tail _ wd_293)) (fun _ h9 => h9) rfl dX3_put_13 ?_
  refine lv_aload_n hx hb dX3_put_16 rfl (lv_at hl 0 rfl) ?_
  refine va_get (D := G) (ci := 3) (v := .ref (Q 1)) (C := RX3) (T := TX3) (N := 3) hx hb hts (fun w h => .tail _ (wl_X3 w h)) hown hK hP 0 rfl rfl 0 (by decide) (hts _ (.tail _ wd_269)) (fun _ h9 => h9) rfl dX3_put_17 ?_
  refine lv_iload_n hx hb dX3_put_20 rfl (lv_at hl 1 rfl) ?_
  obtain ⟨r3, ho3, hf⟩ := of_b0 hf
  refine gcRi (gV FX [.int p0] (c_hp_handleAt l G cL cZ Q A z _ p0 _ ho3) (cwV 1 hts (gi_V wd_298 wd_14 wd_15 wd_7 wd_16) rfl rfl rfl hdV_X0_handleAt ⟨Nat.le_of_ble_eq_true rfl, Nat.le_of_ble_eq_true rfl⟩) hK hP hD 1 rfl rfl rfl hl.1 (Nat.le_of_ble_eq_true rfl) dX3_put_21 ⟨by show _ ≤ 12; omega, by show _ ≤ 42 + c0; omega⟩) hS hD hA (fun H locs hP hS => ?_)
  refine lv_aload_n hx hb dX3_put_24 rfl (lv_at hl 0 rfl) ?_
  refine va_get (D := G) (ci := 3) (v := .ref (Q 1)) (C := RX3) (T := TX3) (N := 3) hx hb hts (fun w h => .tail _ (wl_X3 w h)) hown hK hP 0 rfl rfl 0 (by decide) (hts _ (.tail _ wd_269)) (fun _ h9 => h9) rfl dX3_put_25 ?_
  refine lv_iload_n hx hb dX3_put_28 rfl (lv_at hl 2 rfl) ?_
  obtain ⟨r4, ho4, hf⟩ := of_b0 hf
  refine gcRi (gV FX [.int p1] (c_hp_handleAt l G cL cZ Q A z _ p1 _ ho4) (cwV 1 hts (gi_V wd_298 wd_14 wd_15 wd_7 wd_16) rfl rfl rfl hdV_X0_handleAt ⟨Nat.le_of_ble_eq_true rfl, Nat.le_of_ble_eq_true rfl⟩) hK hP hD 1 rfl rfl rfl hl.1 (Nat.le_of_ble_eq_true rfl) dX3_put_29 ⟨by show _ ≤ 12; omega, by show _ ≤ 42 + c0; omega⟩) hS hD hA (fun H locs hP hS => ?_)
  refine lv_aload_n hx hb dX3_put_32 rfl (lv_at hl 0 rfl) ?_
  refine va_get (D := G) (ci := 3) (v := .ref (Q 1)) (C := RX3) (T := TX3) (N := 3) hx hb hts (fun w h => .tail _ (wl_X3 w h)) hown hK hP 0 rfl rfl 0 (by decide) (hts _ (.tail _ wd_269)) (fun _ h9 => h9) rfl dX3_put_33 ?_
  refine lv_iload_n hx hb dX3_put_36 rfl (lv_at hl 2 rfl) ?_
  obtain ⟨r5, ho5, hf⟩ := of_b0 hf
  refine gcRi (gV FX [.int p1] (c_hp_placeAt l G cL cZ Q A z _ p1 _ ho5) (cwV 1 hts (gi_V wd_338 wd_339 wd_340 wd_7 wd_341) rfl rfl rfl hdV_X0_placeAt ⟨Nat.le_of_ble_eq_true rfl, Nat.le_of_ble_eq_true rfl⟩) hK hP hD 1 rfl rfl rfl hl.1 (Nat.le_of_ble_eq_true rfl) dX3_put_37 ⟨by show _ ≤ 12; omega, by show _ ≤ 42 + c0; omega⟩) hS hD hA (fun H locs hP hS => ?_)
  rcases of_bcwt hf with ⟨k6, z6, e9, ho6, hj⟩ | ⟨k6, z6, r6, d6, ho6, hf, ek6⟩
  · obtain ⟨hc0, hj⟩ := of_pair hj
    subst hj
    exact goutXX (gVx FX [.int r3, .int r4, .int r5] (c_mp_enter l hl0 G cL cZ Q A z _ r3 r4 r5 k6 _ ho6) (cwV 3 hts (gi_V wd_369 wd_370 wd_371 wd_166 wd_372) rfl rfl rfl hdV_X1_enter ⟨Nat.le_of_ble_eq_true rfl, Nat.le_of_ble_eq_true rfl⟩) hK hP hD hT hS hA 3 rfl rfl rfl hl.1 (Nat.le_of_ble_eq_true rfl) dX3_put_40 ⟨by show _ ≤ 12; omega, by show _ ≤ 42 + c0; omega⟩) (noXi) hS hD hK hE hlocks (by omega) (by omega)
  refine gcXi (gVx FX [.int r3, .int r4, .int r5] (c_mp_enter l hl0 G cL cZ Q A z _ r3 r4 r5 k6 _ ho6) (cwV 3 hts (gi_V wd_369 wd_370 wd_371 wd_166 wd_372) rfl rfl rfl hdV_X1_enter ⟨Nat.le_of_ble_eq_true rfl, Nat.le_of_ble_eq_true rfl⟩) hK hP hD hT hS hA 3 rfl rfl rfl hl.1 (Nat.le_of_ble_eq_true rfl) dX3_put_40 ⟨by show _ ≤ 12; omega, by show _ ≤ 42 + c0; omega⟩) hS hD hA (fun A H locs hP hD hS => ?_)
  obtain ⟨hc0, hj0⟩ := of_some2 hf
  subst hj0
  exact grXi hx hb hr hlocks hP hK hD hS dX3_put_43 (by omega) (by omega)
set_option maxHeartbeats 4000000 in
set_option maxRecDepth 100000 in
theorem c_wh_get (l : Launch) (hl0 : l.stackTraces = false) (G : va_G) (cL cZ : ClassId) (Q : Nat → Nat) (A : Nat → Nat) (z : Hs) (sz : Nat) (p0 : Int32) (p1 : Int32) (O0 : Hs × (String ⊕ Int32)) (hf : wh_get z p0 p1 = some O0) : vx_Met l yX3_get vX3_get { frames := 10, cells := 6, slots := 36, locals := 245 } (gPx txC G vwCl (ct cL cZ) [.ref (Q 0), .int p0, .int p1] (cw cL cZ Q A z) sz) (qXi G vwCl (ct cL cZ) (cw cL cZ Q A z) sz (cw cL cZ Q) O0) (xX G vwCl (ct cL cZ) (cw cL cZ Q A z) sz (cw cL cZ Q) O0) 6 36 (va_A (cw cL cZ Q A z) sz) := by
  refine gMetx (by decide) rfl (Nat.le_of_ble_eq_true rfl) ?_
  intro p e s m below meth c ls C hE hK hP hD hT hsz hl
  subst hsz
  obtain ⟨hx, hb, hr, hml, hown, hts, hlocks⟩ := id C
  have FX : CallFix p m c cX3_get 3 s _ vX3_get RX3 := ⟨hx, hb, hml, hown, hts⟩
  have hA : ∀ q9 : Nat, s.heap.size ≤ q9 → va_A (cw cL cZ Q A z) s.heap.size q9 := fun q9 h => Or.inr h
  have hS : va_S (va_A (cw cL cZ Q A z) s.heap.size) s.heap s.heap [] := va_S.rf
  have hl : lv_has ls 3 [(0, .ref (Q 0)), (1, .int p0), (2, .int p1)] := hl
  unfold wh_get at hf
  refine lv_aload_n hx hb dX3_get_0 rfl (lv_at hl 0 rfl) ?_
  refine lv_iload_n hx hb dX3_get_1 rfl (lv_at hl 1 rfl) ?_
  refine lv_iload_n hx hb dX3_get_2 rfl (lv_at hl 2 rfl) ?_
  rcases of_bt hf with ⟨e9, ho1, hj⟩ | ⟨o9, ho1, hf⟩
  · subst hj
    exact goutX (gVx FX [.int p0, .int p1] (c_wh_needMapAndWords l hl0 G cL cZ Q A z _ p0 p1 _ ho1) (cwV 2 hts (gi_V wd_377 wd_378 wd_379 wd_273 wd_380) rfl rfl rfl hdV_X3_needMapAndWords ⟨Nat.le_of_ble_eq_true rfl, Nat.le_of_ble_eq_true rfl⟩) hK hP hD hT hS hA 0 rfl rfl rfl hl.1 (Nat.le_of_ble_eq_true rfl) dX3_get_3 ⟨by show _ ≤ 6; omega, by show _ ≤ 36; omega⟩) (noTv) hS hD hK hE hlocks (by omega) (by omega)
  refine gcTv (gVx FX [.int p0, .int p1] (c_wh_needMapAndWords l hl0 G cL cZ Q A z _ p0 p1 _ ho1) (cwV 2 hts (gi_V wd_377 wd_378 wd_379 wd_273 wd_380) rfl rfl rfl hdV_X3_needMapAndWords ⟨Nat.le_of_ble_eq_true rfl, Nat.le_of_ble_eq_true rfl⟩) hK hP hD hT hS hA 0 rfl rfl rfl hl.1 (Nat.le_of_ble_eq_true rfl) dX3_get_3 ⟨by show _ ≤ 6; omega, by show _ ≤ 36; omega⟩) hS hD hA (fun H locs hP hS => ?_)
  refine lv_aload_n hx hb dX3_get_6 rfl (lv_at hl 0 rfl) ?_
  refine lv_iload_n hx hb dX3_get_7 rfl (lv_at hl 1 rfl) ?_
  refine lv_iload_n hx hb dX3_get_8 rfl (lv_at hl 2 rfl) ?_
  rcases of_bt hf with ⟨e9, ho2, hj⟩ | ⟨o9, ho2, hf⟩
  · subst hj
    exact goutX (gVx FX [.int p0, .int p1] (c_wh_needTextualKey l hl0 G cL cZ Q A z _ p0 p1 _ ho2) (cwV 2 hts (gi_V wd_373 wd_374 wd_375 wd_273 wd_376) rfl rfl rfl hdV_X3_needTextualKey ⟨Nat.le_of_ble_eq_true rfl, Nat.le_of_ble_eq_true rfl⟩) hK hP hD hT hS hA 0 rfl rfl rfl hl.1 (Nat.le_of_ble_eq_true rfl) dX3_get_9 ⟨by show _ ≤ 6; omega, by show _ ≤ 36; omega⟩) (noTv) hS hD hK hE hlocks (by omega) (by omega)
  refine gcTv (gVx FX [.int p0, .int p1] (c_wh_needTextualKey l hl0 G cL cZ Q A z _ p0 p1 _ ho2) (cwV 2 hts (gi_V wd_373 wd_374 wd_375 wd_273 wd_376) rfl rfl rfl hdV_X3_needTextualKey ⟨Nat.le_of_ble_eq_true rfl, Nat.le_of_ble_eq_true rfl⟩) hK hP hD hT hS hA 0 rfl rfl rfl hl.1 (Nat.le_of_ble_eq_true rfl) dX3_get_9 ⟨by show _ ≤ 6; omega, by show _ ≤ 36; omega⟩) hS hD hA (fun H locs hP hS => ?_)
  refine lv_aload_n hx hb dX3_get_12 rfl (lv_at hl 0 rfl) ?_
  refine va_get (D := G) (ci := 3) (v := .ref (Q 3)) (C := RX3) (T := TX3) (N := 3) hx hb hts (fun w h => .tail _ (wl_X3 w h)) hown hK hP 0 rfl rfl 2 (by decide) (hts _ (.tail _ wd_293)) (fun _ h9 => h9) rfl dX3_get_13 ?_
  refine lv_aload_n hx hb dX3_get_16 rfl (lv_at hl 0 rfl) ?_
  refine va_get (D := G) (ci := 3) (v := .ref (Q 1)) (C := RX3) (T := TX3) (N := 3) hx hb hts (fun w h => .tail _ (wl_X3 w h)) hown hK hP 0 rfl rfl 0 (by decide) (hts _ (.tail _ wd_269)) (fun _ h9 => h9) rfl dX3_get_17 ?_
  refine lv_iload_n hx hb dX3_get_20 rfl (lv_at hl 1 rfl) ?_
  obtain ⟨r3, ho3, hf⟩ := of_b0 hf
  refine gcRi (gV FX [.int p0] (c_hp_handleAt l G cL cZ Q A z _ p0 _ ho3) (cwV 1 hts (gi_V wd_298 wd_14 wd_15 wd_7 wd_16) rfl rfl rfl hdV_X0_handleAt ⟨Nat.le_of_ble_eq_true rfl, Nat.le_of_ble_eq_true rfl⟩) hK hP hD 1 rfl rfl rfl hl.1 (Nat.le_of_ble_eq_true rfl) dX3_get_21 ⟨by show _ ≤ 6; omega, by show _ ≤ 36; omega⟩) hS hD hA (fun H locs hP hS => ?_)
  refine lv_aload_n hx hb dX3_get_24 rfl (lv_at hl 0 rfl) ?_
  refine lv_iload_n hx hb dX3_get_25 rfl (lv_at hl 2 rfl) ?_
  obtain ⟨r4, ho4, hf⟩ := of_b0 hf
  refine gcRi (gV FX [.int p1] (c_wh_rowWord l G cL cZ Q A z _ p1 _ ho4) (cwV 1 hts (gi_V wd_352 wd_353 wd_354 wd_273 wd_355) rfl rfl rfl hdV_X3_rowWord ⟨Nat.le_of_ble_eq_true rfl, Nat.le_of_ble_eq_true rfl⟩) hK hP hD 0 rfl rfl rfl hl.1 (Nat.le_of_ble_eq_true rfl) dX3_get_26 ⟨by show _ ≤ 6; omega, by show _ ≤ 36; omega⟩) hS hD hA (fun H locs hP hS => ?_)
  obtain ⟨z5, r5, ho5, hf⟩ := of_bw hf
  refine gcWi (gV FX [.int r3, .int r4] (c_mp_fetch l G cL cZ Q A z _ r3 r4 _ ho5) (cwV 2 hts (gi_V wd_381 wd_382 wd_383 wd_166 wd_384) rfl rfl rfl hdV_X1_fetch ⟨Nat.le_of_ble_eq_true rfl, Nat.le_of_ble_eq_true rfl⟩) hK hP hD 3 rfl rfl rfl hl.1 (Nat.le_of_ble_eq_true rfl) dX3_get_29 ⟨by show _ ≤ 6; omega, by show _ ≤ 36; omega⟩) hS hD hA (fun A H locs hP hD hS => ?_)
  obtain rfl := Option.some.inj hf
  exact grXi hx hb hr hlocks hP hK hD hS dX3_get_32 (by omega) (by omega)
set_option maxHeartbeats 4000000 in
set_option maxRecDepth 100000 in
theorem c_wh_remove (l : Launch) (hl0 : l.stackTraces = false) (G : va_G) (cL cZ : ClassId) (Q : Nat → Nat) (A : Nat → Nat) (z : Hs) (sz : Nat) (p0 : Int32) (p1 : Int32) (O0 : Hs × (String ⊕ Int32)) (hf : wh_remove z p0 p1 = some O0) : vx_Met l yX3_remove vX3_remove { frames := 10, cells := 6, slots := 36, locals := 245 } (gPx txC G vwCl (ct cL cZ) [.ref (Q 0), .int p0, .int p1] (cw cL cZ Q A z) sz) (qXi G vwCl (ct cL cZ) (cw cL cZ Q A z) sz (cw cL cZ Q) O0) (xX G vwCl (ct cL cZ) (cw cL cZ Q A z) sz (cw cL cZ Q) O0) 6 36 (va_A (cw cL cZ Q A z) sz) := by
  refine gMetx (by decide) rfl (Nat.le_of_ble_eq_true rfl) ?_
  intro p e s m below meth c ls C hE hK hP hD hT hsz hl
  subst hsz
  obtain ⟨hx, hb, hr, hml, hown, hts, hlocks⟩ := id C
  have FX : CallFix p m c cX3_remove 3 s _ vX3_remove RX3 := ⟨hx, hb, hml, hown, hts⟩
  have hA : ∀ q9 : Nat, s.heap.size ≤ q9 → va_A (cw cL cZ Q A z) s.heap.size q9 := fun q9 h => Or.inr h
  have hS : va_S (va_A (cw cL cZ Q A z) s.heap.size) s.heap s.heap [] := va_S.rf
  have hl : lv_has ls 3 [(0, .ref (Q 0)), (1, .int p0), (2, .int p1)] := hl
  unfold wh_remove at hf
  refine lv_aload_n hx hb dX3_remove_0 rfl (lv_at hl 0 rfl) ?_
  refine lv_iload_n hx hb dX3_remove_1 rfl (lv_at hl 1 rfl) ?_
  refine lv_iload_n hx hb dX3_remove_2 rfl (lv_at hl 2 rfl) ?_
  rcases of_bt hf with ⟨e9, ho1, hj⟩ | ⟨o9, ho1, hf⟩
  · subst hj
    exact goutX (gVx FX [.int p0, .int p1] (c_wh_needMapAndWords l hl0 G cL cZ Q A z _ p0 p1 _ ho1) (cwV 2 hts (gi_V wd_377 wd_378 wd_379 wd_273 wd_380) rfl rfl rfl hdV_X3_needMapAndWords ⟨Nat.le_of_ble_eq_true rfl, Nat.le_of_ble_eq_true rfl⟩) hK hP hD hT hS hA 0 rfl rfl rfl hl.1 (Nat.le_of_ble_eq_true rfl) dX3_remove_3 ⟨by show _ ≤ 6; omega, by show _ ≤ 36; omega⟩) (noTv) hS hD hK hE hlocks (by omega) (by omega)
  refine gcTv (gVx FX [.int p0, .int p1] (c_wh_needMapAndWords l hl0 G cL cZ Q A z _ p0 p1 _ ho1) (cwV 2 hts (gi_V wd_377 wd_378 wd_379 wd_273 wd_380) rfl rfl rfl hdV_X3_needMapAndWords ⟨Nat.le_of_ble_eq_true rfl, Nat.le_of_ble_eq_true rfl⟩) hK hP hD hT hS hA 0 rfl rfl rfl hl.1 (Nat.le_of_ble_eq_true rfl) dX3_remove_3 ⟨by show _ ≤ 6; omega, by show _ ≤ 36; omega⟩) hS hD hA (fun H locs hP hS => ?_)
  refine lv_aload_n hx hb dX3_remove_6 rfl (lv_at hl 0 rfl) ?_
  refine lv_iload_n hx hb dX3_remove_7 rfl (lv_at hl 1 rfl) ?_
  refine lv_iload_n hx hb dX3_remove_8 rfl (lv_at hl 2 rfl) ?_
  rcases of_bt hf with ⟨e9, ho2, hj⟩ | ⟨o9, ho2, hf⟩
  · subst hj
    exact goutX (gVx FX [.int p0, .int p1] (c_wh_needTextualKey l hl0 G cL cZ Q A z _ p0 p1 _ ho2) (cwV 2 hts (gi_V wd_373 wd_374 wd_375 wd_273 wd_376) rfl rfl rfl hdV_X3_needTextualKey ⟨Nat.le_of_ble_eq_true rfl, Nat.le_of_ble_eq_true rfl⟩) hK hP hD hT hS hA 0 rfl rfl rfl hl.1 (Nat.le_of_ble_eq_true rfl) dX3_remove_9 ⟨by show _ ≤ 6; omega, by show _ ≤ 36; omega⟩) (noTv) hS hD hK hE hlocks (by omega) (by omega)
  refine gcTv (gVx FX [.int p0, .int p1] (c_wh_needTextualKey l hl0 G cL cZ Q A z _ p0 p1 _ ho2) (cwV 2 hts (gi_V wd_373 wd_374 wd_375 wd_273 wd_376) rfl rfl rfl hdV_X3_needTextualKey ⟨Nat.le_of_ble_eq_true rfl, Nat.le_of_ble_eq_true rfl⟩) hK hP hD hT hS hA 0 rfl rfl rfl hl.1 (Nat.le_of_ble_eq_true rfl) dX3_remove_9 ⟨by show _ ≤ 6; omega, by show _ ≤ 36; omega⟩) hS hD hA (fun H locs hP hS => ?_)
  refine lv_aload_n hx hb dX3_remove_12 rfl (lv_at hl 0 rfl) ?_
  refine va_get (D := G) (ci := 3) (v := .ref (Q 3)) (C := RX3) (T := TX3) (N := 3) hx hb hts (fun w h => .tail _ (wl_X3 w h)) hown hK hP 0 rfl rfl 2 (by decide) (hts _ (.tail _ wd_293)) (fun _ h9 => h9) rfl dX3_remove_13 ?_
  refine lv_aload_n hx hb dX3_remove_16 rfl (lv_at hl 0 rfl) ?_
  refine va_get (D := G) (ci := 3) (v := .ref (Q 1)) (C := RX3) (T := TX3) (N := 3) hx hb hts (fun w h => .tail _ (wl_X3 w h)) hown hK hP 0 rfl rfl 0 (by decide) (hts _ (.tail _ wd_269)) (fun _ h9 => h9) rfl dX3_remove_17 ?_
  refine lv_iload_n hx hb dX3_remove_20 rfl (lv_at hl 1 rfl) ?_
  obtain ⟨r3, ho3, hf⟩ := of_b0 hf
  refine gcRi (gV FX [.int p0] (c_hp_handleAt l G cL cZ Q A z _ p0 _ ho3) (cwV 1 hts (gi_V wd_298 wd_14 wd_15 wd_7 wd_16) rfl rfl rfl hdV_X0_handleAt ⟨Nat.le_of_ble_eq_true rfl, Nat.le_of_ble_eq_true rfl⟩) hK hP hD 1 rfl rfl rfl hl.1 (Nat.le_of_ble_eq_true rfl) dX3_remove_21 ⟨by show _ ≤ 6; omega, by show _ ≤ 36; omega⟩) hS hD hA (fun H locs hP hS => ?_)
  refine lv_aload_n hx hb dX3_remove_24 rfl (lv_at hl 0 rfl) ?_
  refine lv_iload_n hx hb dX3_remove_25 rfl (lv_at hl 2 rfl) ?_
  obtain ⟨r4, ho4, hf⟩ := of_b0 hf
  refine gcRi (gV FX [.int p1] (c_wh_rowWord l G cL cZ Q A z _ p1 _ ho4) (cwV 1 hts (gi_V wd_352 wd_353 wd_354 wd_273 wd_355) rfl rfl rfl hdV_X3_rowWord ⟨Nat.le_of_ble_eq_true rfl, Nat.le_of_ble_eq_true rfl⟩) hK hP hD 0 rfl rfl rfl hl.1 (Nat.le_of_ble_eq_true rfl) dX3_remove_26 ⟨by show _ ≤ 6; omega, by show _ ≤ 36; omega⟩) hS hD hA (fun H locs hP hS => ?_)
  obtain ⟨z5, r5, ho5, hf⟩ := of_bw hf
  refine gcWi (gV FX [.int r3, .int r4] (c_mp_erase l G cL cZ Q A z _ r3 r4 _ ho5) (cwV 2 hts (gi_V wd_385 wd_386 wd_387 wd_166 wd_388) rfl rfl rfl hdV_X1_erase ⟨Nat.le_of_ble_eq_true rfl, Nat.le_of_ble_eq_true rfl⟩) hK hP hD 3 rfl rfl rfl hl.1 (Nat.le_of_ble_eq_true rfl) dX3_remove_29 ⟨by show _ ≤ 6; omega, by show _ ≤ 36; omega⟩) hS hD hA (fun A H locs hP hD hS => ?_)
  obtain rfl := Option.some.inj hf
  exact grXi hx hb hr hlocks hP hK hD hS dX3_remove_32 (by omega) (by omega)
set_option maxHeartbeats 4000000 in
set_option maxRecDepth 100000 in
theorem c_wh_next (l : Launch) (hl0 : l.stackTraces = false) (G : va_G) (cL cZ : ClassId) (Q : Nat → Nat) (A : Nat → Nat) (z : Hs) (sz : Nat) (p0 : Int32) (p1 : Int32) (O0 : (String ⊕ Int32)) (hf : wh_next z p0 p1 = some O0) : vx_Met l yX3_next vX3_next { frames := 9, cells := 2, slots := 12, locals := 221 } (gPx txC G vwCl (ct cL cZ) [.ref (Q 0), .int p0, .int p1] (cw cL cZ Q A z) sz) (qTi G vwCl (ct cL cZ) (cw cL cZ Q A z) sz O0) (xT G vwCl (ct cL cZ) (cw cL cZ Q A z) sz O0) 2 12 (va_A (cw cL cZ Q A z) sz) := by
  refine gMetx (by decide) rfl (Nat.le_of_ble_eq_true rfl) ?_
  intro p e s m below meth c ls C hE hK hP hD hT hsz hl
  subst hsz
  obtain ⟨hx, hb, hr, hml, hown, hts, hlocks⟩ := id C
  have FX : CallFix p m c cX3_next 4 s _ vX3_next RX3 := ⟨hx, hb, hml, hown, hts⟩
  have hA : ∀ q9 : Nat, s.heap.size ≤ q9 → va_A (cw cL cZ Q A z) s.heap.size q9 := fun q9 h => Or.inr h
  have hS : va_S (va_A (cw cL cZ Q A z) s.heap.size) s.heap s.heap [] := va_S.rf
  have hl : lv_has ls 4 [(0, .ref (Q 0)), (1, .int p0), (2, .int p1)] := hl
  unfold wh_next at hf
  refine lv_iload_n hx hb dX3_next_0 rfl (lv_at hl 1 rfl) ?_
  rcases of_bt hf with ⟨e9, ho1, hj⟩ | ⟨o9, ho1, hf⟩
  · subst hj
    exact goutT (gSx FX [.int p0] (c_wh_needRegister l hl0 G cL cZ Q A z _ p0 _ ho1) (cwS 1 hts (gi_S wd_271 wd_272 wd_273 wd_274) rfl rfl rfl hdS_X3_needRegister ⟨Nat.le_of_ble_eq_true rfl, Nat.le_of_ble_eq_true rfl⟩) hK hP hD hT hS hA rfl hl.1 (Nat.le_of_ble_eq_true rfl) dX3_next_1 ⟨by show _ ≤ 2; omega, by show _ ≤ 12; omega⟩) (noTv) hS hD hK hE hlocks (by omega) (by omega)
  refine gcTv (gSx FX [.int p0] (c_wh_needRegister l hl0 G cL cZ Q A z _ p0 _ ho1) (cwS 1 hts (gi_S wd_271 wd_272 wd_273 wd_274) rfl rfl rfl hdS_X3_needRegister ⟨Nat.le_of_ble_eq_true rfl, Nat.le_of_ble_eq_true rfl⟩) hK hP hD hT hS hA rfl hl.1 (Nat.le_of_ble_eq_true rfl) dX3_next_1 ⟨by show _ ≤ 2; omega, by show _ ≤ 12; omega⟩) hS hD hA (fun H locs hP hS => ?_)
  refine lv_aload_n hx hb dX3_next_4 rfl (lv_at hl 0 rfl) ?_
  refine va_get (D := G) (ci := 3) (v := .ref (Q 3)) (C := RX3) (T := TX3) (N := 3) hx hb hts (fun w h => .tail _ (wl_X3 w h)) hown hK hP 0 rfl rfl 2 (by decide) (hts _ (.tail _ wd_293)) (fun _ h9 => h9) rfl dX3_next_5 ?_
  refine lv_aload_n hx hb dX3_next_8 rfl (lv_at hl 0 rfl) ?_
  refine lv_iload_n hx hb dX3_next_9 rfl (lv_at hl 1 rfl) ?_
  rcases of_bt hf with ⟨e9, ho2, hj⟩ | ⟨r2, ho2, hf⟩
  · subst hj
    exact goutT (gVx FX [.int p0] (c_wh_mapIn l hl0 G cL cZ Q A z _ p0 _ ho2) (cwV 1 hts (gi_V wd_361 wd_362 wd_363 wd_273 wd_364) rfl rfl rfl hdV_X3_mapIn ⟨Nat.le_of_ble_eq_true rfl, Nat.le_of_ble_eq_true rfl⟩) hK hP hD hT hS hA 0 rfl rfl rfl hl.1 (Nat.le_of_ble_eq_true rfl) dX3_next_10 ⟨by show _ ≤ 2; omega, by show _ ≤ 12; omega⟩) (noTi) hS hD hK hE hlocks (by omega) (by omega)
  refine gcTi (gVx FX [.int p0] (c_wh_mapIn l hl0 G cL cZ Q A z _ p0 _ ho2) (cwV 1 hts (gi_V wd_361 wd_362 wd_363 wd_273 wd_364) rfl rfl rfl hdV_X3_mapIn ⟨Nat.le_of_ble_eq_true rfl, Nat.le_of_ble_eq_true rfl⟩) hK hP hD hT hS hA 0 rfl rfl rfl hl.1 (Nat.le_of_ble_eq_true rfl) dX3_next_10 ⟨by show _ ≤ 2; omega, by show _ ≤ 12; omega⟩) hS hD hA (fun H locs hP hS => ?_)
  refine lv_iload_n hx hb dX3_next_13 rfl (lv_at hl 2 rfl) ?_
  obtain ⟨r3, ho3, hf⟩ := of_b0 hf
  refine gcRi (gV FX [.int r2, .int p1] (c_mp_slotFrom l G cL cZ Q A z _ r2 p1 _ ho3) (cwV 2 hts (gi_V wd_390 wd_391 wd_392 wd_166 wd_393) rfl rfl rfl hdV_X1_slotFrom ⟨Nat.le_of_ble_eq_true rfl, Nat.le_of_ble_eq_true rfl⟩) hK hP hD 3 rfl rfl rfl hl.1 (Nat.le_of_ble_eq_true rfl) dX3_next_14 ⟨by show _ ≤ 2; omega, by show _ ≤ 12; omega⟩) hS hD hA (fun H locs hP hS => ?_)
  refine lv_istore_n (lv' := [(3, .int r3), (0, .ref (Q 0)), (1, .int p0), (2, .int p1)]) hx hb dX3_next_17 rfl hl (by decide) rfl (fun ls hl => ?_)
  refine lv_iload_n hx hb dX3_next_18 rfl (lv_at hl 0 rfl) ?_
  refine lv_iconst (v := (-1)) hx hb dX3_next_19 (by decide) ?_
  refine lv_icmp_ne (tgt := 27) hx hb dX3_next_20 (by decide) (fun c4 => ?_) (fun c4 => ?_)
  · have hf := (if_neg c4).symm.trans hf
    refine lv_aload_n hx hb dX3_next_27 rfl (lv_at hl 1 rfl) ?_
    refine va_get (D := G) (ci := 3) (v := .ref (Q 3)) (C := RX3) (T := TX3) (N := 3) hx hb hts (fun w h => .tail _ (wl_X3 w h)) hown hK hP 0 rfl rfl 2 (by decide) (hts _ (.tail _ wd_293)) (fun _ h9 => h9) rfl dX3_next_28 ?_
    refine lv_iload_n hx hb dX3_next_31 rfl (lv_at hl 0 rfl) ?_
    obtain ⟨r5, ho5, hf⟩ := of_b0 hf
    refine gcRi (gV FX [.int r3] (c_mp_orderIn l G cL cZ Q A z _ r3 _ ho5) (cwV 1 hts (gi_V wd_389 wd_225 wd_226 wd_166 wd_227) rfl rfl rfl hdV_X1_orderIn ⟨Nat.le_of_ble_eq_true rfl, Nat.le_of_ble_eq_true rfl⟩) hK hP hD 3 rfl rfl rfl hl.1 (Nat.le_of_ble_eq_true rfl) dX3_next_32 ⟨by show _ ≤ 2; omega, by show _ ≤ 12; omega⟩) hS hD hA (fun H locs hP hS => ?_)
    obtain rfl := Option.some.inj hf
    exact grTi hx hb hr hlocks hP hK hD hS dX3_next_35 (by omega) (by omega)
  · have hf := (if_pos c4).symm.trans hf
    refine lv_iconst (v := (-1)) hx hb dX3_next_23 (by decide) ?_
    refine lv_goto (tgt := 35) hx hb dX3_next_24 (by decide) ?_
    obtain rfl := Option.some.inj hf
    exact grTi hx hb hr hlocks hP hK hD hS dX3_next_35 (by omega) (by omega)
set_option maxHeartbeats 4000000 in
set_option maxRecDepth 100000 in
theorem c_wh_entry (l : Launch) (hl0 : l.stackTraces = false) (G : va_G) (cL cZ : ClassId) (Q : Nat → Nat) (A : Nat → Nat) (z : Hs) (sz : Nat) (p0 : Int32) (p1 : Int32) (p2 : Int32) (O0 : Hs × (String ⊕ Unit)) (hf : wh_entry z p0 p1 p2 = some O0) : vx_Met l yX3_entry vX3_entry { frames := 10, cells := 6, slots := 36, locals := 245 } (gPx txC G vwCl (ct cL cZ) [.ref (Q 0), .int p0, .int p1, .int p2] (cw cL cZ Q A z) sz) (qXv G vwCl (ct cL cZ) (cw cL cZ Q A z) sz (cw cL cZ Q) O0) (xX G vwCl (ct cL cZ) (cw cL cZ Q A z) sz (cw cL cZ Q) O0) 6 36 (va_A (cw cL cZ Q A z) sz) := by
  refine gMetx (by decide) rfl (Nat.le_of_ble_eq_true rfl) ?_
  intro p e s m below meth c ls C hE hK hP hD hT hsz hl
  subst hsz
  obtain ⟨hx, hb, hr, hml, hown, hts, hlocks⟩ := id C
  have FX : CallFix p m c cX3_entry 6 s _ vX3_entry RX3 := ⟨hx, hb, hml, hown, hts⟩
  have hA : ∀ q9 : Nat, s.heap.size ≤ q9 → va_A (cw cL cZ Q A z) s.heap.size q9 := fun q9 h => Or.inr h
  have hS : va_S (va_A (cw cL cZ Q A z) s.heap.size) s.heap s.heap [] := va_S.rf
  have hl : lv_has ls 6 [(0, .ref (Q 0)), (1, .int p0), (2, .int p1), (3, .int p2)] := hl
  unfold wh_entry at hf
  refine lv_aload_n hx hb dX3_entry_0 rfl (lv_at hl 0 rfl) ?_
  refine lv_iload_n hx hb dX3_entry_1 rfl (lv_at hl 1 rfl) ?_
  refine lv_iload_n hx hb dX3_entry_2 rfl (lv_at hl 3 rfl) ?_
  rcases of_bt hf with ⟨e9, ho1, hj⟩ | ⟨o9, ho1, hf⟩
  · subst hj
    exact goutX (gVx FX [.int p0, .int p2] (c_wh_needMapAndWords l hl0 G cL cZ Q A z _ p0 p2 _ ho1) (cwV 2 hts (gi_V wd_377 wd_378 wd_379 wd_273 wd_380) rfl rfl rfl hdV_X3_needMapAndWords ⟨Nat.le_of_ble_eq_true rfl, Nat.le_of_ble_eq_true rfl⟩) hK hP hD hT hS hA 0 rfl rfl rfl hl.1 (Nat.le_of_ble_eq_true rfl) dX3_entry_3 ⟨by show _ ≤ 6; omega, by show _ ≤ 36; omega⟩) (noTv) hS hD hK hE hlocks (by omega) (by omega)
  refine gcTv (gVx FX [.int p0, .int p2] (c_wh_needMapAndWords l hl0 G cL cZ Q A z _ p0 p2 _ ho1) (cwV 2 hts (gi_V wd_377 wd_378 wd_379 wd_273 wd_380) rfl rfl rfl hdV_X3_needMapAndWords ⟨Nat.le_of_ble_eq_true rfl, Nat.le_of_ble_eq_true rfl⟩) hK hP hD hT hS hA 0 rfl rfl rfl hl.1 (Nat.le_of_ble_eq_true rfl) dX3_entry_3 ⟨by show _ ≤ 6; omega, by show _ ≤ 36; omega⟩) hS hD hA (fun H locs hP hS => ?_)
  refine lv_aload_n hx hb dX3_entry_6 rfl (lv_at hl 0 rfl) ?_
  refine va_get (D := G) (ci := 3) (v := .ref (Q 1)) (C := RX3) (T := TX3) (N := 3) hx hb hts (fun w h => .tail _ (wl_X3 w h)) hown hK hP 0 rfl rfl 0 (by decide) (hts _ (.tail _ wd_269)) (fun _ h9 => h9) rfl dX3_entry_7 ?_
  refine lv_iload_n hx hb dX3_entry_10 rfl (lv_at hl 1 rfl) ?_
  obtain ⟨r2, ho2, hf⟩ := of_b0 hf
  refine gcRi (gV FX [.int p0] (c_hp_handleAt l G cL cZ Q A z _ p0 _ ho2) (cwV 1 hts (gi_V wd_298 wd_14 wd_15 wd_7 wd_16) rfl rfl rfl hdV_X0_handleAt ⟨Nat.le_of_ble_eq_true rfl, Nat.le_of_ble_eq_true rfl⟩) hK hP hD 1 rfl rfl rfl hl.1 (Nat.le_of_ble_eq_true rfl) dX3_entry_11 ⟨by show _ ≤ 6; omega, by show _ ≤ 36; omega⟩) hS hD hA (fun H locs hP hS => ?_)
  refine lv_istore (lv' := [(4, .int r2), (0, .ref (Q 0)), (1, .int p0), (2, .int p1), (3, .int p2)]) hx hb dX3_entry_14 hl (by decide) rfl (fun ls hl => ?_)
  refine lv_aload_n hx hb dX3_entry_16 rfl (lv_at hl 1 rfl) ?_
  refine va_get (D := G) (ci := 3) (v := .ref (Q 3)) (C := RX3) (T := TX3) (N := 3) hx hb hts (fun w h => .tail _ (wl_X3 w h)) hown hK hP 0 rfl rfl 2 (by decide) (hts _ (.tail _ wd_293)) (fun _ h9 => h9) rfl dX3_entry_17 ?_
  refine lv_iload hx hb dX3_entry_20 (lv_at hl 0 rfl) ?_
  refine lv_iload_n hx hb dX3_entry_22 rfl (lv_at hl 3 rfl) ?_
  obtain ⟨r3, ho3, hf⟩ := of_b0 hf
  refine gcRi (gV FX [.int r2, .int p1] (c_mp_slotFrom l G cL cZ Q A z _ r2 p1 _ ho3) (cwV 2 hts (gi_V wd_390 wd_391 wd_392 wd_166 wd_393) rfl rfl rfl hdV_X1_slotFrom ⟨Nat.le_of_ble_eq_true rfl, Nat.le_of_ble_eq_true rfl⟩) hK hP hD 3 rfl rfl rfl hl.1 (Nat.le_of_ble_eq_true rfl) dX3_entry_23 ⟨by show _ ≤ 6; omega, by show _ ≤ 36; omega⟩) hS hD hA (fun H locs hP hS => ?_)
  refine lv_istore (lv' := [(5, .int r3), (4, .int r2), (0, .ref (Q 0)), (1, .int p0), (2, .int p1), (3, .int p2)]) hx hb dX3_entry_26 hl (by decide) rfl (fun ls hl => ?_)
  refine lv_iload hx hb dX3_entry_28 (lv_at hl 0 rfl) ?_
  refine lv_iconst (v := (-1)) hx hb dX3_entry_30 (by decide) ?_
  refine lv_icmp_eq (tgt := 47) hx hb dX3_entry_31 (by decide) (fun c4 => ?_) (fun c4 => ?_)
  · have hf := (if_pos c4).symm.trans hf
    obtain rfl := Option.some.inj hf
    exact gthrN (text := "no entry with this order") hx hb hl0 hown hts (.tail _ wd_394) (.tail _ wd_395) (by decide +kernel) (fun w h => .tail _ (nsa_0 w h)) nst_0 nsg_0 hT hS (hl.1.trans hml.symm) dX3_entry_47 dX3_entry_50 dX3_entry_51 dX3_entry_53 dX3_entry_56 hE (Nat.lt_of_succ_le (Nat.le_of_ble_eq_true rfl)) (Nat.le_of_ble_eq_true rfl) (by show _ ≤ 6; omega) (by show _ ≤ 36; omega) hlocks (gqX hP hK hD hS) hS.2.2 (by omega) (by omega)
  · have hf := (if_neg c4).symm.trans hf
    refine lv_aload_n hx hb dX3_entry_34 rfl (lv_at hl 2 rfl) ?_
    refine va_get (D := G) (ci := 3) (v := .ref (Q 3)) (C := RX3) (T := TX3) (N := 3) hx hb hts (fun w h => .tail _ (wl_X3 w h)) hown hK hP 0 rfl rfl 2 (by decide) (hts _ (.tail _ wd_293)) (fun _ h9 => h9) rfl dX3_entry_35 ?_
    refine lv_iload hx hb dX3_entry_38 (lv_at hl 0 rfl) ?_
    obtain ⟨r5, ho5, hf⟩ := of_b0 hf
    refine gcRi (gV FX [.int r3] (c_mp_orderIn l G cL cZ Q A z _ r3 _ ho5) (cwV 1 hts (gi_V wd_389 wd_225 wd_226 wd_166 wd_227) rfl rfl rfl hdV_X1_orderIn ⟨Nat.le_of_ble_eq_true rfl, Nat.le_of_ble_eq_true rfl⟩) hK hP hD 3 rfl rfl rfl hl.1 (Nat.le_of_ble_eq_true rfl) dX3_entry_40 ⟨by show _ ≤ 6; omega, by show _ ≤ 36; omega⟩) hS hD hA (fun H locs hP hS => ?_)
    refine lv_iload_n hx hb dX3_entry_43 rfl (lv_at hl 4 rfl) ?_
    refine lv_icmp_eq (tgt := 57) hx hb dX3_entry_44 (by decide) (fun c6 => ?_) (fun c6 => ?_)
    · have hf := (if_pos c6).symm.trans hf
      refine lv_aload_n hx hb dX3_entry_57 rfl (lv_at hl 2 rfl) ?_
      refine va_get (D := G) (ci := 3) (v := .ref (Q 3)) (C := RX3) (T := TX3) (N := 3) hx hb hts (fun w h => .tail _ (wl_X3 w h)) hown hK hP 0 rfl rfl 2 (by decide) (hts _ (.tail _ wd_293)) (fun _ h9 => h9) rfl dX3_entry_58 ?_
      refine lv_iload hx hb dX3_entry_61 (lv_at hl 1 rfl) ?_
      refine lv_iload hx hb dX3_entry_63 (lv_at hl 0 rfl) ?_
      refine lv_aload_n hx hb dX3_entry_65 rfl (lv_at hl 2 rfl) ?_
      refine lv_iload_n hx hb dX3_entry_66 rfl (lv_at hl 5 rfl) ?_
      obtain ⟨r7, ho7, hf⟩ := of_b0 hf
      refine gcRi (gV FX [.int p2] (c_wh_rowWord l G cL cZ Q A z _ p2 _ ho7) (cwV 1 hts (gi_V wd_352 wd_353 wd_354 wd_273 wd_355) rfl rfl rfl hdV_X3_rowWord ⟨Nat.le_of_ble_eq_true rfl, Nat.le_of_ble_eq_true rfl⟩) hK hP hD 0 rfl rfl rfl hl.1 (Nat.le_of_ble_eq_true rfl) dX3_entry_67 ⟨by show _ ≤ 6; omega, by show _ ≤ 36; omega⟩) hS hD hA (fun H locs hP hS => ?_)
      obtain ⟨z8, o9, ho8, hf⟩ := of_bw hf
      refine gcWv (gV FX [.int r2, .int r3, .int r7] (c_mp_readEntry l G cL cZ Q A z _ r2 r3 r7 _ ho8) (cwV 3 hts (gi_V wd_396 wd_397 wd_398 wd_166 wd_399) rfl rfl rfl hdV_X1_readEntry ⟨Nat.le_of_ble_eq_true rfl, Nat.le_of_ble_eq_true rfl⟩) hK hP hD 3 rfl rfl rfl hl.1 (Nat.le_of_ble_eq_true rfl) dX3_entry_70 ⟨by show _ ≤ 6; omega, by show _ ≤ 36; omega⟩) hS hD hA (fun A H locs hP hD hS => ?_)
      obtain rfl := Option.some.inj hf
      exact grXv hx hb hr hlocks hP hK hD hS dX3_entry_73 (by omega) (by omega)
    · have hf := (if_neg c6).symm.trans hf
      obtain rfl := Option.some.inj hf
      exact gthrN (text := "no entry with this order") hx hb hl0 hown hts (.tail _ wd_394) (.tail _ wd_395) (by decide +kernel) (fun w h => .tail _ (nsa_0 w h)) nst_0 nsg_0 hT hS (hl.1.trans hml.symm) dX3_entry_47 dX3_entry_50 dX3_entry_51 dX3_entry_53 dX3_entry_56 hE (Nat.lt_of_succ_le (Nat.le_of_ble_eq_true rfl)) (Nat.le_of_ble_eq_true rfl) (by show _ ≤ 6; omega) (by show _ ≤ 36; omega) hlocks (gqX hP hK hD hS) hS.2.2 (by omega) (by omega)
set_option maxHeartbeats 4000000 in
set_option maxRecDepth 100000 in
theorem c_wh_collect (l : Launch) (G : va_G) (cL cZ : ClassId) (Q : Nat → Nat) (A : Nat → Nat) (z : Hs) (sz : Nat) (O0 : Hs × Int32) (hf : wh_collect z = some O0) : Met l yX3_collect vX3_collect { frames := 4, cells := 0, slots := 0, locals := 110 } (gPc G vwCl (ct cL cZ) [.ref (Q 0)] (cw cL cZ Q A z) sz) (qWi G vwCl (ct cL cZ) (cw cL cZ Q A z) sz (cw cL cZ Q) O0) 0 0 (va_A (cw cL cZ Q A z) sz) := by
  refine gMet (by decide) rfl (Nat.le_of_ble_eq_true rfl) ?_
  intro p e s m below meth c ls C hK hP hD hsz hl
  subst hsz
  obtain ⟨hx, hb, hr, hml, hown, hts, hlocks⟩ := id C
  have FX : CallFix p m c cX3_collect 1 s _ vX3_collect RX3 := ⟨hx, hb, hml, hown, hts⟩
  have hA : ∀ q9 : Nat, s.heap.size ≤ q9 → va_A (cw cL cZ Q A z) s.heap.size q9 := fun q9 h => Or.inr h
  have hS : va_S (va_A (cw cL cZ Q A z) s.heap.size) s.heap s.heap [] := va_S.rf
  have hl : lv_has ls 1 [(0, .ref (Q 0))] := hl
  unfold wh_collect at hf
  refine lv_aload_n hx hb dX3_collect_0 rfl (lv_at hl 0 rfl) ?_
  refine va_get (D := G) (ci := 3) (v := .ref (Q 1)) (C := RX3) (T := TX3) (N := 3) hx hb hts (fun w h => .tail _ (wl_X3 w h)) hown hK hP 0 rfl rfl 0 (by decide) (hts _ (.tail _ wd_269)) (fun _ h9 => h9) rfl dX3_collect_1 ?_
  obtain ⟨z1, r1, ho1, hf⟩ := of_bw hf
  refine gcWi (gV FX [] (c_hp_collection l G cL cZ Q A z _  _ ho1) (cwV 0 hts (gi_V wd_400 wd_73 wd_74 wd_7 wd_75) rfl rfl rfl hdV_X0_collection ⟨Nat.le_of_ble_eq_true rfl, Nat.le_of_ble_eq_true rfl⟩) hK hP hD 1 rfl rfl rfl hl.1 (Nat.le_of_ble_eq_true rfl) dX3_collect_4 ⟨by show _ ≤ 0; omega, by show _ ≤ 0; omega⟩) hS hD hA (fun A H locs hP hD hS => ?_)
  obtain rfl := Option.some.inj hf
  exact grWi hx hb hr hlocks hP hK hD hS dX3_collect_7 (by omega) (by omega)
set_option maxHeartbeats 4000000 in
set_option maxRecDepth 100000 in
theorem c_wh_eager (l : Launch) (G : va_G) (cL cZ : ClassId) (Q : Nat → Nat) (A : Nat → Nat) (z : Hs) (sz : Nat) (p0 : Int32) (O0 : Hs × Unit) (hf : wh_eager z p0 = some O0) : Met l yX3_eager vX3_eager { frames := 1, cells := 0, slots := 0, locals := 21 } (gPc G vwCl (ct cL cZ) [.ref (Q 0), .int p0] (cw cL cZ Q A z) sz) (qWv G vwCl (ct cL cZ) (cw cL cZ Q A z) sz (cw cL cZ Q) O0) 0 0 (va_A (cw cL cZ Q A z) sz) := by
  refine gMet (by decide) rfl (Nat.le_of_ble_eq_true rfl) ?_
  intro p e s m below meth c ls C hK hP hD hsz hl
  subst hsz
  obtain ⟨hx, hb, hr, hml, hown, hts, hlocks⟩ := id C
  have FX : CallFix p m c cX3_eager 2 s _ vX3_eager RX3 := ⟨hx, hb, hml, hown, hts⟩
  have hA : ∀ q9 : Nat, s.heap.size ≤ q9 → va_A (cw cL cZ Q A z) s.heap.size q9 := fun q9 h => Or.inr h
  have hS : va_S (va_A (cw cL cZ Q A z) s.heap.size) s.heap s.heap [] := va_S.rf
  have hl : lv_has ls 2 [(0, .ref (Q 0)), (1, .int p0)] := hl
  unfold wh_eager at hf
  refine lv_aload_n hx hb dX3_eager_0 rfl (lv_at hl 0 rfl) ?_
  refine va_get (D := G) (ci := 3) (v := .ref (Q 1)) (C := RX3) (T := TX3) (N := 3) hx hb hts (fun w h => .tail _ (wl_X3 w h)) hown hK hP 0 rfl rfl 0 (by decide) (hts _ (.tail _ wd_269)) (fun _ h9 => h9) rfl dX3_eager_1 ?_
  refine lv_iload_n hx hb dX3_eager_4 rfl (lv_at hl 1 rfl) ?_
  obtain ⟨z1, o9, ho1, hf⟩ := of_bw hf
  refine gcWv (gV FX [.int p0] (c_hp_setEager l G cL cZ Q A z _ p0 _ ho1) (cwV 1 hts (gi_V wd_401 wd_402 wd_403 wd_7 wd_404) rfl rfl rfl hdV_X0_setEager ⟨Nat.le_of_ble_eq_true rfl, Nat.le_of_ble_eq_true rfl⟩) hK hP hD 1 rfl rfl rfl hl.1 (Nat.le_of_ble_eq_true rfl) dX3_eager_5 ⟨by show _ ≤ 0; omega, by show _ ≤ 0; omega⟩) hS hD hA (fun A H locs hP hD hS => ?_)
  obtain rfl := Option.some.inj hf
  exact grWv hx hb hr hlocks hP hK hD hS dX3_eager_8 (by omega) (by omega)
