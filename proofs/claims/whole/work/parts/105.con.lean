set_option maxHeartbeats 4000000 in
set_option maxRecDepth 100000 in
theorem c_mp_readEntry (l : Launch) (G : va_G) (cL cZ : ClassId) (Q : Nat → Nat) (A : Nat → Nat) (z : Hs) (sz : Nat) (p0 : Int32) (p1 : Int32) (p2 : Int32) (O0 : Hs × Unit) (hf : mp_readEntry z p0 p1 p2 = some O0) : Met l yX1_readEntry vX1_readEntry { frames := 3, cells := 0, slots := 0, locals := 65 } (gPc G vwCl (ct cL cZ) [.ref (Q 3), .int p0, .int p1, .int p2] (cw cL cZ Q A z) sz) (qWv G vwCl (ct cL cZ) (cw cL cZ Q A z) sz (cw cL cZ Q) O0) 0 0 (va_A (cw cL cZ Q A z) sz) := by
  refine gMet (by decide) rfl (Nat.le_of_ble_eq_true rfl) ?_
  intro p e s m below meth c ls C hK hP hD hsz hl
  subst hsz
  obtain ⟨hx, hb, hr, hml, hown, hts, hlocks⟩ := id C
  have FX : CallFix p m c cX1_readEntry 4 s _ vX1_readEntry RX1 := ⟨hx, hb, hml, hown, hts⟩
  have hA : ∀ q9 : Nat, s.heap.size ≤ q9 → va_A (cw cL cZ Q A z) s.heap.size q9 := fun q9 h => Or.inr h
  have hS : va_S (va_A (cw cL cZ Q A z) s.heap.size) s.heap s.heap [] := va_S.rf
  have hl : lv_has ls 4 [(0, .ref (Q 3)), (1, .int p0), (2, .int p1), (3, .int p2)] := hl
  unfold mp_readEntry at hf
  refine lv_aload_n hx hb dX1_readEntry_0 rfl (lv_at hl 0 rfl) ?_
  refine va_get (D := G) (ci := 1) (v := .ref (Q 1)) (C := RX1) (T := TX1) (N := 2) hx hb hts (fun w h => .tail _ (wl_X1 w h)) hown hK hP 3 rfl rfl 0 (by decide) (hts _ (.tail _ wd_159)) (fun _ h9 => h9) rfl dX1_readEntry_1 ?_
  refine lv_iload_n hx hb dX1_readEntry_4 rfl (lv_at hl 3 rfl) ?_
  refine lv_iload_n hx hb dX1_readEntry_5 rfl (lv_at hl 2 rfl) ?_
  refine lv_iconst (v := 3) hx hb dX1_readEntry_6 (by decide) ?_
  refine lv_iadd hx hb dX1_readEntry_7 ?_
  refine lv_aload_n hx hb dX1_readEntry_8 rfl (lv_at hl 0 rfl) ?_
  refine lv_iload_n hx hb dX1_readEntry_9 rfl (lv_at hl 1 rfl) ?_
  obtain ⟨r1, ho1, hf⟩ := of_b0 hf
  refine gcRi (gV FX [.int p0] (c_mp_entryWords l G cL cZ Q A z _ p0 _ ho1) (cwV 1 hts (gi_V wd_194 wd_195 wd_196 wd_166 wd_197) rfl rfl rfl hdV_X1_entryWords ⟨Nat.le_of_ble_eq_true rfl, Nat.le_of_ble_eq_true rfl⟩) hK hP hD 3 rfl rfl rfl hl.1 (Nat.le_of_ble_eq_true rfl) dX1_readEntry_10 ⟨by show _ ≤ 0; omega, by show _ ≤ 0; omega⟩) hS hD hA (fun H locs hP hS => ?_)
  obtain ⟨z2, o9, ho2, hf⟩ := of_bw hf
  refine gcWv (gV FX [.int p2, .int (p1 + 3), .int r1] (c_hp_copyWords l G cL cZ Q A z _ p2 (p1 + 3) r1 _ ho2) (cwV 3 hts (gi_V wd_236 wd_49 wd_50 wd_7 wd_51) rfl rfl rfl hdV_X0_copyWords ⟨Nat.le_of_ble_eq_true rfl, Nat.le_of_ble_eq_true rfl⟩) hK hP hD 1 rfl rfl rfl hl.1 (Nat.le_of_ble_eq_true rfl) dX1_readEntry_13 ⟨by show _ ≤ 0; omega, by show _ ≤ 0; omega⟩) hS hD hA (fun A H locs hP hD hS => ?_)
  obtain rfl := Option.some.inj hf
  exact grWv hx hb hr hlocks hP hK hD hS dX1_readEntry_16 (by omega) (by omega)
set_option maxHeartbeats 4000000 in
set_option maxRecDepth 100000 in
theorem c_wh_needRegister (l : Launch) (hl0 : l.stackTraces = false) (G : va_G) (cL cZ : ClassId) (Q : Nat → Nat) (A : Nat → Nat) (z : Hs) (sz : Nat) (p0 : Int32) (O0 : (String ⊕ Unit)) (hf : wh_needRegister z p0 = some O0) : vx_Met l yX3_needRegister vX3_needRegister { frames := 8, cells := 1, slots := 6, locals := 200 } (gPx txC G vwCl (ct cL cZ) [.int p0] (cw cL cZ Q A z) sz) (qTv G vwCl (ct cL cZ) (cw cL cZ Q A z) sz O0) (xT G vwCl (ct cL cZ) (cw cL cZ Q A z) sz O0) 1 6 (va_A (cw cL cZ Q A z) sz) := by
  refine gMetx (by decide) rfl (Nat.le_of_ble_eq_true rfl) ?_
  intro p e s m below meth c ls C hE hK hP hD hT hsz hl
  subst hsz
  obtain ⟨hx, hb, hr, hml, hown, hts, hlocks⟩ := id C
  have FX : CallFix p m c cX3_needRegister 1 s _ vX3_needRegister RX3 := ⟨hx, hb, hml, hown, hts⟩
  have hA : ∀ q9 : Nat, s.heap.size ≤ q9 → va_A (cw cL cZ Q A z) s.heap.size q9 := fun q9 h => Or.inr h
  have hS : va_S (va_A (cw cL cZ Q A z) s.heap.size) s.heap s.heap [] := va_S.rf
  have hl : lv_has ls 1 [(0, .int p0)] := hl
  unfold wh_needRegister at hf
  refine lv_iload_n hx hb dX3_needRegister_0 rfl (lv_at hl 0 rfl) ?_
  refine lv_if_lt (tgt := 10) hx hb dX3_needRegister_1 (by decide) (fun c1 => ?_) (fun c1 => ?_)
  · have hf := (if_pos c1).symm.trans hf
    obtain rfl := Option.some.inj hf
    exact gthr0 (cls := "java/lang/IllegalArgumentException") (names := ["java/lang/RuntimeException", "java/lang/Exception"]) (text := "no such register") hx hb hl0 hown hts (by decide) (by decide) (.tail _ wd_267) (.tail _ wd_268) (by decide +kernel) (fun w h => .tail _ (tha_1 w h)) tht_1 (by decide +kernel) thg_1_209 hT hS (hl.1.trans hml.symm) dX3_needRegister_10 dX3_needRegister_13 dX3_needRegister_14 dX3_needRegister_16 dX3_needRegister_19 hE (Nat.lt_of_succ_le (Nat.le_of_ble_eq_true rfl)) (Nat.le_of_ble_eq_true rfl) (by show _ ≤ 1; omega) (by show _ ≤ 6; omega) hlocks (gqT hP hK hD hS) hS.2.2 (by omega) (by omega)
  · have hf := (if_neg c1).symm.trans hf
    refine lv_iload_n hx hb dX3_needRegister_4 rfl (lv_at hl 0 rfl) ?_
    refine lv_bipush (v := 16) hx hb dX3_needRegister_5 (by decide) ?_
    refine lv_icmp_lt (tgt := 20) hx hb dX3_needRegister_7 (by decide) (fun c2 => ?_) (fun c2 => ?_)
    · have hf := (if_pos c2).symm.trans hf
      obtain rfl := Option.some.inj hf
      exact grTv hx hb hr hlocks hP hK hD hS dX3_needRegister_20 (by omega) (by omega)
    · have hf := (if_neg c2).symm.trans hf
      obtain rfl := Option.some.inj hf
      exact gthr0 (cls := "java/lang/IllegalArgumentException") (names := ["java/lang/RuntimeException", "java/lang/Exception"]) (text := "no such register") hx hb hl0 hown hts (by decide) (by decide) (.tail _ wd_267) (.tail _ wd_268) (by decide +kernel) (fun w h => .tail _ (tha_1 w h)) tht_1 (by decide +kernel) thg_1_209 hT hS (hl.1.trans hml.symm) dX3_needRegister_10 dX3_needRegister_13 dX3_needRegister_14 dX3_needRegister_16 dX3_needRegister_19 hE (Nat.lt_of_succ_le (Nat.le_of_ble_eq_true rfl)) (Nat.le_of_ble_eq_true rfl) (by show _ ≤ 1; omega) (by show _ ≤ 6; omega) hlocks (gqT hP hK hD hS) hS.2.2 (by omega) (by omega)
set_option maxHeartbeats 4000000 in
set_option maxRecDepth 100000 in
theorem c_wh_number (l : Launch) (hl0 : l.stackTraces = false) (G : va_G) (cL cZ : ClassId) (Q : Nat → Nat) (A : Nat → Nat) (z : Hs) (sz : Nat) (p0 : Int32) (p1 : Int64) (O0 : Hs × (String ⊕ Unit)) (hf : wh_number z p0 p1 = some O0) : vx_Met l yX3_number vX3_number { frames := 9, cells := 1, slots := 6, locals := 220 } (gPx txC G vwCl (ct cL cZ) [.ref (Q 0), .int p0, .long p1] (cw cL cZ Q A z) sz) (qXv G vwCl (ct cL cZ) (cw cL cZ Q A z) sz (cw cL cZ Q) O0) (xX G vwCl (ct cL cZ) (cw cL cZ Q A z) sz (cw cL cZ Q) O0) 1 6 (va_A (cw cL cZ Q A z) sz) := by
  refine gMetx (by decide) rfl (Nat.le_of_ble_eq_true rfl) ?_
  intro p e s m below meth c ls C hE hK hP hD hT hsz hl
  subst hsz
  obtain ⟨hx, hb, hr, hml, hown, hts, hlocks⟩ := id C
  have FX : CallFix p m c cX3_number 4 s _ vX3_number RX3 := ⟨hx, hb, hml, hown, hts⟩
  have hA : ∀ q9 : Nat, s.heap.size ≤ q9 → va_A (cw cL cZ Q A z) s.heap.size q9 := fun q9 h => Or.inr h
  have hS : va_S (va_A (cw cL cZ Q A z) s.heap.size) s.heap s.heap [] := va_S.rf
  have hl : lv_has ls 4 [(0, .ref (Q 0)), (1, .int p0), (2, .long p1)] := hl
  unfold wh_number at hf
  refine lv_iload_n hx hb dX3_number_0 rfl (lv_at hl 1 rfl) ?_
  rcases of_bt hf with ⟨e9, ho1, hj⟩ | ⟨o9, ho1, hf⟩
  · subst hj
    exact goutX (gSx FX [.int p0] (c_wh_needRegister l hl0 G cL cZ Q A z _ p0 _ ho1) (cwS 1 hts (gi_S wd_271 wd_272 wd_273 wd_274) rfl rfl rfl hdS_X3_needRegister ⟨Nat.le_of_ble_eq_true rfl, Nat.le_of_ble_eq_true rfl⟩) hK hP hD hT hS hA rfl hl.1 (Nat.le_of_ble_eq_true rfl) dX3_number_1 ⟨by show _ ≤ 1; omega, by show _ ≤ 6; omega⟩) (noTv) hS hD hK hE hlocks (by omega) (by omega)
  refine gcTv (gSx FX [.int p0] (c_wh_needRegister l hl0 G cL cZ Q A z _ p0 _ ho1) (cwS 1 hts (gi_S wd_271 wd_272 wd_273 wd_274) rfl rfl rfl hdS_X3_needRegister ⟨Nat.le_of_ble_eq_true rfl, Nat.le_of_ble_eq_true rfl⟩) hK hP hD hT hS hA rfl hl.1 (Nat.le_of_ble_eq_true rfl) dX3_number_1 ⟨by show _ ≤ 1; omega, by show _ ≤ 6; omega⟩) hS hD hA (fun H locs hP hS => ?_)
  refine lv_aload_n hx hb dX3_number_4 rfl (lv_at hl 0 rfl) ?_
  refine va_get (D := G) (ci := 3) (v := .ref (Q 1)) (C := RX3) (T := TX3) (N := 3) hx hb hts (fun w h => .tail _ (wl_X3 w h)) hown hK hP 0 rfl rfl 0 (by decide) (hts _ (.tail _ wd_269)) (fun _ h9 => h9) rfl dX3_number_5 ?_
  refine lv_iload_n hx hb dX3_number_8 rfl (lv_at hl 1 rfl) ?_
  refine lv_lload_n hx hb dX3_number_9 rfl (lv_at hl 2 rfl) ?_
  obtain ⟨z2, o9, ho2, hf⟩ := of_bw hf
  refine gcWv (gV FX [.int p0, .long p1] (c_hp_setNumber l G cL cZ Q A z _ p0 p1 _ ho2) (cwV 2 hts (gi_V wd_270 wd_127 wd_128 wd_7 wd_129) rfl rfl rfl hdV_X0_setNumber ⟨Nat.le_of_ble_eq_true rfl, Nat.le_of_ble_eq_true rfl⟩) hK hP hD 1 rfl rfl rfl hl.1 (Nat.le_of_ble_eq_true rfl) dX3_number_10 ⟨by show _ ≤ 1; omega, by show _ ≤ 6; omega⟩) hS hD hA (fun A H locs hP hD hS => ?_)
  obtain rfl := Option.some.inj hf
  exact grXv hx hb hr hlocks hP hK hD hS dX3_number_13 (by omega) (by omega)
set_option maxHeartbeats 4000000 in
set_option maxRecDepth 100000 in
theorem c_wh_nil (l : Launch) (hl0 : l.stackTraces = false) (G : va_G) (cL cZ : ClassId) (Q : Nat → Nat) (A : Nat → Nat) (z : Hs) (sz : Nat) (p0 : Int32) (O0 : Hs × (String ⊕ Unit)) (hf : wh_nil z p0 = some O0) : vx_Met l yX3_nil vX3_nil { frames := 9, cells := 1, slots := 6, locals := 220 } (gPx txC G vwCl (ct cL cZ) [.ref (Q 0), .int p0] (cw cL cZ Q A z) sz) (qXv G vwCl (ct cL cZ) (cw cL cZ Q A z) sz (cw cL cZ Q) O0) (xX G vwCl (ct cL cZ) (cw cL cZ Q A z) sz (cw cL cZ Q) O0) 1 6 (va_A (cw cL cZ Q A z) sz) := by
  refine gMetx (by decide) rfl (Nat.le_of_ble_eq_true rfl) ?_
  intro p e s m below meth c ls C hE hK hP hD hT hsz hl
  subst hsz
  obtain ⟨hx, hb, hr, hml, hown, hts, hlocks⟩ := id C
  have FX : CallFix p m c cX3_nil 2 s _ vX3_nil RX3 := ⟨hx, hb, hml, hown, hts⟩
  have hA : ∀ q9 : Nat, s.heap.size ≤ q9 → va_A (cw cL cZ Q A z) s.heap.size q9 := fun q9 h => Or.inr h
  have hS : va_S (va_A (cw cL cZ Q A z) s.heap.size) s.heap s.heap [] := va_S.rf
  have hl : lv_has ls 2 [(0, .ref (Q 0)), (1, .int p0)] := hl
  unfold wh_nil at hf
  refine lv_iload_n hx hb dX3_nil_0 rfl (lv_at hl 1 rfl) ?_
  rcases of_bt hf with ⟨e9, ho1, hj⟩ | ⟨o9, ho1, hf⟩
  · subst hj
    exact goutX (gSx FX [.int p0] (c_wh_needRegister l hl0 G cL cZ Q A z _ p0 _ ho1) (cwS 1 hts (gi_S wd_271 wd_272 wd_273 wd_274) rfl rfl rfl hdS_X3_needRegister ⟨Nat.le_of_ble_eq_true rfl, Nat.le_of_ble_eq_true rfl⟩) hK hP hD hT hS hA rfl hl.1 (Nat.le_of_ble_eq_true rfl) dX3_nil_1 ⟨by show _ ≤ 1; omega, by show _ ≤ 6; omega⟩) (noTv) hS hD hK hE hlocks (by omega) (by omega)
  refine gcTv (gSx FX [.int p0] (c_wh_needRegister l hl0 G cL cZ Q A z _ p0 _ ho1) (cwS 1 hts (gi_S wd_271 wd_272 wd_273 wd_274) rfl rfl rfl hdS_X3_needRegister ⟨Nat.le_of_ble_eq_true rfl, Nat.le_of_ble_eq_true rfl⟩) hK hP hD hT hS hA rfl hl.1 (Nat.le_of_ble_eq_true rfl) dX3_nil_1 ⟨by show _ ≤ 1; omega, by show _ ≤ 6; omega⟩) hS hD hA (fun H locs hP hS => ?_)
  refine lv_aload_n hx hb dX3_nil_4 rfl (lv_at hl 0 rfl) ?_
  refine va_get (D := G) (ci := 3) (v := .ref (Q 1)) (C := RX3) (T := TX3) (N := 3) hx hb hts (fun w h => .tail _ (wl_X3 w h)) hown hK hP 0 rfl rfl 0 (by decide) (hts _ (.tail _ wd_269)) (fun _ h9 => h9) rfl dX3_nil_5 ?_
  refine lv_iload_n hx hb dX3_nil_8 rfl (lv_at hl 1 rfl) ?_
  refine lv_iconst (v := 0) hx hb dX3_nil_9 (by decide) ?_
  refine lv_iconst (v := 0) hx hb dX3_nil_10 (by decide) ?_
  obtain ⟨z2, o9, ho2, hf⟩ := of_bw hf
  refine gcWv (gV FX [.int p0, .int 0, .int 0] (c_hp_setReference l G cL cZ Q A z _ p0 0 0 _ ho2) (cwV 3 hts (gi_V wd_275 wd_173 wd_174 wd_7 wd_175) rfl rfl rfl hdV_X0_setReference ⟨Nat.le_of_ble_eq_true rfl, Nat.le_of_ble_eq_true rfl⟩) hK hP hD 1 rfl rfl rfl hl.1 (Nat.le_of_ble_eq_true rfl) dX3_nil_11 ⟨by show _ ≤ 1; omega, by show _ ≤ 6; omega⟩) hS hD hA (fun A H locs hP hD hS => ?_)
  obtain rfl := Option.some.inj hf
  exact grXv hx hb hr hlocks hP hK hD hS dX3_nil_14 (by omega) (by omega)
set_option maxHeartbeats 4000000 in
set_option maxRecDepth 100000 in
theorem c_wh_move (l : Launch) (hl0 : l.stackTraces = false) (G : va_G) (cL cZ : ClassId) (Q : Nat → Nat) (A : Nat → Nat) (z : Hs) (sz : Nat) (p0 : Int32) (p1 : Int32) (O0 : Hs × (String ⊕ Unit)) (hf : wh_move z p0 p1 = some O0) : vx_Met l yX3_move vX3_move { frames := 9, cells := 2, slots := 12, locals := 220 } (gPx txC G vwCl (ct cL cZ) [.ref (Q 0), .int p0, .int p1] (cw cL cZ Q A z) sz) (qXv G vwCl (ct cL cZ) (cw cL cZ Q A z) sz (cw cL cZ Q) O0) (xX G vwCl (ct cL cZ) (cw cL cZ Q A z) sz (cw cL cZ Q) O0) 2 12 (va_A (cw cL cZ Q A z) sz) := by
  refine gMetx (by decide) rfl (Nat.le_of_ble_eq_true rfl) ?_
  intro p e s m below meth c ls C hE hK hP hD hT hsz hl
  subst hsz
  obtain ⟨hx, hb, hr, hml, hown, hts, hlocks⟩ := id C
  have FX : CallFix p m c cX3_move 3 s _ vX3_move RX3 := ⟨hx, hb, hml, hown, hts⟩
  have hA : ∀ q9 : Nat, s.heap.size ≤ q9 → va_A (cw cL cZ Q A z) s.heap.size q9 := fun q9 h => Or.inr h
  have hS : va_S (va_A (cw cL cZ Q A z) s.heap.size) s.heap s.heap [] := va_S.rf
  have hl : lv_has ls 3 [(0, .ref (Q 0)), (1, .int p0), (2, .int p1)] := hl
  unfold wh_move at hf
  refine lv_iload_n hx hb dX3_move_0 rfl (lv_at hl 1 rfl) ?_
  rcases of_bt hf with ⟨e9, ho1, hj⟩ | ⟨o9, ho1, hf⟩
  · subst hj
    exact goutX (gSx FX [.int p0] (c_wh_needRegister l hl0 G cL cZ Q A z _ p0 _ ho1) (cwS 1 hts (gi_S wd_271 wd_272 wd_273 wd_274) rfl rfl rfl hdS_X3_needRegister ⟨Nat.le_of_ble_eq_true rfl, Nat.le_of_ble_eq_true rfl⟩) hK hP hD hT hS hA rfl hl.1 (Nat.le_of_ble_eq_true rfl) dX3_move_1 ⟨by show _ ≤ 2; omega, by show _ ≤ 12; omega⟩) (noTv) hS hD hK hE hlocks (by omega) (by omega)
  refine gcTv (gSx FX [.int p0] (c_wh_needRegister l hl0 G cL cZ Q A z _ p0 _ ho1) (cwS 1 hts (gi_S wd_271 wd_272 wd_273 wd_274) rfl rfl rfl hdS_X3_needRegister ⟨Nat.le_of_ble_eq_true rfl, Nat.le_of_ble_eq_true rfl⟩) hK hP hD hT hS hA rfl hl.1 (Nat.le_of_ble_eq_true rfl) dX3_move_1 ⟨by show _ ≤ 2; omega, by show _ ≤ 12; omega⟩) hS hD hA (fun H locs hP hS => ?_)
  refine lv_iload_n hx hb dX3_move_4 rfl (lv_at hl 2 rfl) ?_
  rcases of_bt hf with ⟨e9, ho2, hj⟩ | ⟨o9, ho2, hf⟩
  · subst hj
    exact goutX (gSx FX [.int p1] (c_wh_needRegister l hl0 G cL cZ Q A z _ p1 _ ho2) (cwS 1 hts (gi_S wd_271 wd_272 wd_273 wd_274) rfl rfl rfl hdS_X3_needRegister ⟨Nat.le_of_ble_eq_true rfl, Nat.le_of_ble_eq_true rfl⟩) hK hP hD hT hS hA rfl hl.1 (Nat.le_of_ble_eq_true rfl) dX3_move_5 ⟨by show _ ≤ 2; omega, by show _ ≤ 12; omega⟩) (noTv) hS hD hK hE hlocks (by omega) (by omega)
  refine gcTv (gSx FX [.int p1] (c_wh_needRegister l hl0 G cL cZ Q A z _ p1 _ ho2) (cwS 1 hts (gi_S wd_271 wd_272 wd_273 wd_274) rfl rfl rfl hdS_X3_needRegister ⟨Nat.le_of_ble_eq_true rfl, Nat.le_of_ble_eq_true rfl⟩) hK hP hD hT hS hA rfl hl.1 (Nat.le_of_ble_eq_true rfl) dX3_move_5 ⟨by show _ ≤ 2; omega, by show _ ≤ 12; omega⟩) hS hD hA (fun H locs hP hS => ?_)
  refine lv_aload_n hx hb dX3_move_8 rfl (lv_at hl 0 rfl) ?_
  refine va_get (D := G) (ci := 3) (v := .ref (Q 1)) (C := RX3) (T := TX3) (N := 3) hx hb hts (fun w h => .tail _ (wl_X3 w h)) hown hK hP 0 rfl rfl 0 (by decide) (hts _ (.tail _ wd_269)) (fun _ h9 => h9) rfl dX3_move_9 ?_
  refine lv_iload_n hx hb dX3_move_12 rfl (lv_at hl 1 rfl) ?_
  refine lv_iload_n hx hb dX3_move_13 rfl (lv_at hl 2 rfl) ?_
  obtain ⟨z3, o9, ho3, hf⟩ := of_bw hf
  refine gcWv (gV FX [.int p0, .int p1] (c_hp_setWord l G cL cZ Q A z _ p0 p1 _ ho3) (cwV 2 hts (gi_V wd_276 wd_277 wd_278 wd_7 wd_279) rfl rfl rfl hdV_X0_setWord ⟨Nat.le_of_ble_eq_true rfl, Nat.le_of_ble_eq_true rfl⟩) hK hP hD 1 rfl rfl rfl hl.1 (Nat.le_of_ble_eq_true rfl) dX3_move_14 ⟨by show _ ≤ 2; omega, by show _ ≤ 12; omega⟩) hS hD hA (fun A H locs hP hD hS => ?_)
  obtain rfl := Option.some.inj hf
  exact grXv hx hb hr hlocks hP hK hD hS dX3_move_17 (by omega) (by omega)
set_option maxHeartbeats 4000000 in
set_option maxRecDepth 100000 in
theorem c_wh_needWithin (l : Launch) (hl0 : l.stackTraces = false) (G : va_G) (cL cZ : ClassId) (Q : Nat → Nat) (A : Nat → Nat) (z : Hs) (sz : Nat) (p0 : Int32) (p1 : Int32) (p2 : Int32) (O0 : (String ⊕ Unit)) (hf : wh_needWithin z p0 p1 p2 = some O0) : vx_Met l yX3_needWithin vX3_needWithin { frames := 8, cells := 1, slots := 6, locals := 200 } (gPx txC G vwCl (ct cL cZ) [.int p0, .int p1, .int p2] (cw cL cZ Q A z) sz) (qTv G vwCl (ct cL cZ) (cw cL cZ Q A z) sz O0) (xT G vwCl (ct cL cZ) (cw cL cZ Q A z) sz O0) 1 6 (va_A (cw cL cZ Q A z) sz) := by
  refine gMetx (by decide) rfl (Nat.le_of_ble_eq_true rfl) ?_
  intro p e s m below meth c ls C hE hK hP hD hT hsz hl
  subst hsz
  obtain ⟨hx, hb, hr, hml, hown, hts, hlocks⟩ := id C
  have FX : CallFix p m c cX3_needWithin 3 s _ vX3_needWithin RX3 := ⟨hx, hb, hml, hown, hts⟩
  have hA : ∀ q9 : Nat, s.heap.size ≤ q9 → va_A (cw cL cZ Q A z) s.heap.size q9 := fun q9 h => Or.inr h
  have hS : va_S (va_A (cw cL cZ Q A z) s.heap.size) s.heap s.heap [] := va_S.rf
  have hl : lv_has ls 3 [(0, .int p0), (1, .int p1), (2, .int p2)] := hl
  unfold wh_needWithin at hf
  refine lv_iload_n hx hb dX3_needWithin_0 rfl (lv_at hl 0 rfl) ?_
  refine lv_iload_n hx hb dX3_needWithin_1 rfl (lv_at hl 1 rfl) ?_
  refine lv_icmp_lt (tgt := 10) hx hb dX3_needWithin_2 (by decide) (fun c1 => ?_) (fun c1 => ?_)
  · have hf := (if_pos c1).symm.trans hf
    obtain rfl := Option.some.inj hf
    exact gthr0 (cls := "java/lang/IllegalArgumentException") (names := ["java/lang/RuntimeException", "java/lang/Exception"]) (text := "out of range") hx hb hl0 hown hts (by decide) (by decide) (.tail _ wd_267) (.tail _ wd_268) (by decide +kernel) (fun w h => .tail _ (tha_1 w h)) tht_1 (by decide +kernel) thg_1_209 hT hS (hl.1.trans hml.symm) dX3_needWithin_10 dX3_needWithin_13 dX3_needWithin_14 dX3_needWithin_16 dX3_needWithin_19 hE (Nat.lt_of_succ_le (Nat.le_of_ble_eq_true rfl)) (Nat.le_of_ble_eq_true rfl) (by show _ ≤ 1; omega) (by show _ ≤ 6; omega) hlocks (gqT hP hK hD hS) hS.2.2 (by omega) (by omega)
  · have hf := (if_neg c1).symm.trans hf
    refine lv_iload_n hx hb dX3_needWithin_5 rfl (lv_at hl 0 rfl) ?_
    refine lv_iload_n hx hb dX3_needWithin_6 rfl (lv_at hl 2 rfl) ?_
    refine lv_icmp_le (tgt := 20) hx hb dX3_needWithin_7 (by decide) (fun c2 => ?_) (fun c2 => ?_)
    · have hf := (if_pos c2).symm.trans hf
      obtain rfl := Option.some.inj hf
      exact grTv hx hb hr hlocks hP hK hD hS dX3_needWithin_20 (by omega) (by omega)
    · have hf := (if_neg c2).symm.trans hf
      obtain rfl := Option.some.inj hf
      exact gthr0 (cls := "java/lang/IllegalArgumentException") (names := ["java/lang/RuntimeException", "java/lang/Exception"]) (text := "out of range") hx hb hl0 hown hts (by decide) (by decide) (.tail _ wd_267) (.tail _ wd_268) (by decide +kernel) (fun w h => .tail _ (tha_1 w h)) tht_1 (by decide +kernel) thg_1_209 hT hS (hl.1.trans hml.symm) dX3_needWithin_10 dX3_needWithin_13 dX3_needWithin_14 dX3_needWithin_16 dX3_needWithin_19 hE (Nat.lt_of_succ_le (Nat.le_of_ble_eq_true rfl)) (Nat.le_of_ble_eq_true rfl) (by show _ ≤ 1; omega) (by show _ ≤ 6; omega) hlocks (gqT hP hK hD hS) hS.2.2 (by omega) (by omega)
set_option maxHeartbeats 4000000 in
set_option maxRecDepth 100000 in
theorem c_wh_hold (l : Launch) (G : va_G) (cL cZ : ClassId) (Q : Nat → Nat) (A : Nat → Nat) (z : Hs) (sz : Nat) (p0 : Int32) (p1 : Int32) (O0 : Hs × Int32) (hf : wh_hold z p0 p1 = some O0) : Met l yX3_hold vX3_hold { frames := 2, cells := 0, slots := 0, locals := 42 } (gPc G vwCl (ct cL cZ) [.ref (Q 0), .int p0, .int p1] (cw cL cZ Q A z) sz) (qWi G vwCl (ct cL cZ) (cw cL cZ Q A z) sz (cw cL cZ Q) O0) 0 0 (va_A (cw cL cZ Q A z) sz) := by
  refine gMet (by decide) rfl (Nat.le_of_ble_eq_true rfl) ?_
  intro p e s m below meth c ls C hK hP hD hsz hl
  subst hsz
  obtain ⟨hx, hb, hr, hml, hown, hts, hlocks⟩ := id C
  have FX : CallFix p m c cX3_hold 3 s _ vX3_hold RX3 := ⟨hx, hb, hml, hown, hts⟩
  have hA : ∀ q9 : Nat, s.heap.size ≤ q9 → va_A (cw cL cZ Q A z) s.heap.size q9 := fun q9 h => Or.inr h
  have hS : va_S (va_A (cw cL cZ Q A z) s.heap.size) s.heap s.heap [] := va_S.rf
  have hl : lv_has ls 3 [(0, .ref (Q 0)), (1, .int p0), (2, .int p1)] := hl
  unfold wh_hold at hf
  refine lv_aload_n hx hb dX3_hold_0 rfl (lv_at hl 0 rfl) ?_
  refine va_get (D := G) (ci := 3) (v := .ref (Q 1)) (C := RX3) (T := TX3) (N := 3) hx hb hts (fun w h => .tail _ (wl_X3 w h)) hown hK hP 0 rfl rfl 0 (by decide) (hts _ (.tail _ wd_269)) (fun _ h9 => h9) rfl dX3_hold_1 ?_
  refine lv_iload_n hx hb dX3_hold_4 rfl (lv_at hl 1 rfl) ?_
  refine lv_iload_n hx hb dX3_hold_5 rfl (lv_at hl 2 rfl) ?_
  refine lv_iconst (v := 0) hx hb dX3_hold_6 (by decide) ?_
  obtain ⟨z1, o9, ho1, hf⟩ := of_bw hf
  refine gcWv (gV FX [.int p0, .int p1, .int 0] (c_hp_setReference l G cL cZ Q A z _ p0 p1 0 _ ho1) (cwV 3 hts (gi_V wd_275 wd_173 wd_174 wd_7 wd_175) rfl rfl rfl hdV_X0_setReference ⟨Nat.le_of_ble_eq_true rfl, Nat.le_of_ble_eq_true rfl⟩) hK hP hD 1 rfl rfl rfl hl.1 (Nat.le_of_ble_eq_true rfl) dX3_hold_7 ⟨by show _ ≤ 0; omega, by show _ ≤ 0; omega⟩) hS hD hA (fun A H locs hP hD hS => ?_)
  refine lv_aload_n hx hb dX3_hold_10 rfl (lv_at hl 0 rfl) ?_
  refine va_get (D := G) (ci := 3) (v := .ref (Q 1)) (C := RX3) (T := TX3) (N := 3) hx hb hts (fun w h => .tail _ (wl_X3 w h)) hown hK hP 0 rfl rfl 0 (by decide) (hts _ (.tail _ wd_269)) (fun _ h9 => h9) rfl dX3_hold_11 ?_
  refine lv_iload_n hx hb dX3_hold_14 rfl (lv_at hl 2 rfl) ?_
  obtain ⟨r2, ho2, hf⟩ := of_b0 hf
  refine gcRi (gV FX [.int p1] (c_hp_serial l G cL cZ Q A z1 _ p1 _ ho2) (cwV 1 hts (gi_V wd_280 wd_281 wd_282 wd_7 wd_283) rfl rfl rfl hdV_X0_serial ⟨Nat.le_of_ble_eq_true rfl, Nat.le_of_ble_eq_true rfl⟩) hK hP hD 1 rfl rfl rfl hl.1 (Nat.le_of_ble_eq_true rfl) dX3_hold_15 ⟨by show _ ≤ 0; omega, by show _ ≤ 0; omega⟩) hS hD hA (fun H locs hP hS => ?_)
  obtain rfl := Option.some.inj hf
  exact grWi hx hb hr hlocks hP hK hD hS dX3_hold_18 (by omega) (by omega)
set_option maxHeartbeats 4000000 in
set_option maxRecDepth 100000 in
theorem c_wh_make (l : Launch) (hl0 : l.stackTraces = false) (G : va_G) (cL cZ : ClassId) (Q : Nat → Nat) (A : Nat → Nat) (z : Hs) (sz : Nat) (p0 : Int32) (p1 : Int32) (c0 : Nat) (O0 : Hs × (String ⊕ Int32)) (hf : wh_make z p0 p1 = some (c0, O0)) : vx_Met l yX3_make vX3_make { frames := 10, cells := 8, slots := 18 + c0, locals := 243 } (gPx txC G vwCl (ct cL cZ) [.ref (Q 0), .int p0, .int p1] (cw cL cZ Q A z) sz) (qXi G vwCl (ct cL cZ) (cw cL cZ Q A z) sz (cw cL cZ Q) O0) (xX G vwCl (ct cL cZ) (cw cL cZ Q A z) sz (cw cL cZ Q) O0) 8 (18 + c0) (va_A (cw cL cZ Q A z) sz) := by
  refine gMetx (by decide) rfl (Nat.le_of_ble_eq_true rfl) ?_
  intro p e s m below meth c ls C hE hK hP hD hT hsz hl
  subst hsz
  obtain ⟨hx, hb, hr, hml, hown, hts, hlocks⟩ := id C
  have FX : CallFix p m c cX3_make 3 s _ vX3_make RX3 := ⟨hx, hb, hml, hown, hts⟩
  have hA : ∀ q9 : Nat, s.heap.size ≤ q9 → va_A (cw cL cZ Q A z) s.heap.size q9 := fun q9 h => Or.inr h
  have hS : va_S (va_A (cw cL cZ Q A z) s.heap.size) s.heap s.heap [] := va_S.rf
  have hl : lv_has ls 3 [(0, .ref (Q 0)), (1, .int p0), (2, .int p1)] := hl
  unfold wh_make at hf
  refine lv_iload_n hx hb dX3_make_0 rfl (lv_at hl 1 rfl) ?_
  rcases of_bt hf with ⟨e9, ho1, hj⟩ | ⟨o9, ho1, hf⟩
  · obtain ⟨hc0, hj⟩ := of_pair hj
    subst hj
    exact goutX (gSx FX [.int p0] (c_wh_needRegister l hl0 G cL cZ Q A z _ p0 _ ho1) (cwS 1 hts (gi_S wd_271 wd_272 wd_273 wd_274) rfl rfl rfl hdS_X3_needRegister ⟨Nat.le_of_ble_eq_true rfl, Nat.le_of_ble_eq_true rfl⟩) hK hP hD hT hS hA rfl hl.1 (Nat.le_of_ble_eq_true rfl) dX3_make_1 ⟨by show _ ≤ 8; omega, by show _ ≤ 18 + c0; omega⟩) (noTv) hS hD hK hE hlocks (by omega) (by omega)
  refine gcTv (gSx FX [.int p0] (c_wh_needRegister l hl0 G cL cZ Q A z _ p0 _ ho1) (cwS 1 hts (gi_S wd_271 wd_272 wd_273 wd_274) rfl rfl rfl hdS_X3_needRegister ⟨Nat.le_of_ble_eq_true rfl, Nat.le_of_ble_eq_true rfl⟩) hK hP hD hT hS hA rfl hl.1 (Nat.le_of_ble_eq_true rfl) dX3_make_1 ⟨by show _ ≤ 8; omega, by show _ ≤ 18 + c0; omega⟩) hS hD hA (fun H locs hP hS => ?_)
  refine lv_iload_n hx hb dX3_make_4 rfl (lv_at hl 2 rfl) ?_
  refine lv_iconst (v := 0) hx hb dX3_make_5 (by decide) ?_
  refine lv_sipush (v := 4096) hx hb dX3_make_6 (by decide) ?_
  rcases of_bt hf with ⟨e9, ho2, hj⟩ | ⟨o9, ho2, hf⟩
  · obtain ⟨hc0, hj⟩ := of_pair hj
    subst hj
    exact goutX (gSx FX [.int p1, .int 0, .int 4096] (c_wh_needWithin l hl0 G cL cZ Q A z _ p1 0 4096 _ ho2) (cwS 3 hts (gi_S wd_289 wd_290 wd_273 wd_291) rfl rfl rfl hdS_X3_needWithin ⟨Nat.le_of_ble_eq_true rfl, Nat.le_of_ble_eq_true rfl⟩) hK hP hD hT hS hA rfl hl.1 (Nat.le_of_ble_eq_true rfl) dX3_make_9 ⟨by show _ ≤ 8; omega, by show _ ≤ 18 + c0; omega⟩) (noTv) hS hD hK hE hlocks (by omega) (by omega)
  refine gcTv (gSx FX [.int p1, .int 0, .int 4096] (c_wh_needWithin l hl0 G cL cZ Q A z _ p1 0 4096 _ ho2) (cwS 3 hts (gi_S wd_289 wd_290 wd_273 wd_291) rfl rfl rfl hdS_X3_needWithin ⟨Nat.le_of_ble_eq_true rfl, Nat.le_of_ble_eq_true rfl⟩) hK hP hD hT hS hA rfl hl.1 (Nat.le_of_ble_eq_true rfl) dX3_make_9 ⟨by show _ ≤ 8; omega, by show _ ≤ 18 + c0; omega⟩) hS hD hA (fun H locs hP hS => ?_)
  refine lv_aload_n hx hb dX3_make_12 rfl (lv_at hl 0 rfl) ?_
  refine lv_iload_n hx hb dX3_make_13 rfl (lv_at hl 1 rfl) ?_
  refine lv_aload_n hx hb dX3_make_14 rfl (lv_at hl 0 rfl) ?_
  refine va_get (D := G) (ci := 3) (v := .ref (Q 1)) (C := RX3) (T := TX3) (N := 3) hx hb hts (fun w h => .tail _ (wl_X3 w h)) hown hK hP 0 rfl rfl 0 (by decide) (hts _ (.tail _ wd_269)) (fun _ h9 => h9) rfl dX3_make_15 ?_
  refine lv_iconst (v := 2) hx hb dX3_make_18 (by decide) ?_
  refine lv_iload_n hx hb dX3_make_19 rfl (lv_at hl 2 rfl) ?_
  rcases of_bcwt hf with ⟨k3, z3, e9, ho3, hj⟩ | ⟨k3, z3, r3, d3, ho3, hf, ek3⟩
  · obtain ⟨hc0, hj⟩ := of_pair hj
    subst hj
    exact goutXX (gVx FX [.int 2, .int p1] (c_hp_claim l hl0 G cL cZ Q A z _ 2 p1 k3 _ ho3) (cwV 2 hts (gi_V wd_288 wd_149 wd_150 wd_7 wd_151) rfl rfl rfl hdV_X0_claim ⟨Nat.le_of_ble_eq_true rfl, Nat.le_of_ble_eq_true rfl⟩) hK hP hD hT hS hA 1 rfl rfl rfl hl.1 (Nat.le_of_ble_eq_true rfl) dX3_make_20 ⟨by show _ ≤ 8; omega, by show _ ≤ 18 + c0; omega⟩) (noXi) hS hD hK hE hlocks (by omega) (by omega)
  refine gcXi (gVx FX [.int 2, .int p1] (c_hp_claim l hl0 G cL cZ Q A z _ 2 p1 k3 _ ho3) (cwV 2 hts (gi_V wd_288 wd_149 wd_150 wd_7 wd_151) rfl rfl rfl hdV_X0_claim ⟨Nat.le_of_ble_eq_true rfl, Nat.le_of_ble_eq_true rfl⟩) hK hP hD hT hS hA 1 rfl rfl rfl hl.1 (Nat.le_of_ble_eq_true rfl) dX3_make_20 ⟨by show _ ≤ 8; omega, by show _ ≤ 18 + c0; omega⟩) hS hD hA (fun A H locs hP hD hS => ?_)
  obtain ⟨z4, r4, ho4, hf⟩ := of_bw hf
  refine gcWi (gV FX [.int p0, .int r3] (c_wh_hold l G cL cZ Q A z3 _ p0 r3 _ ho4) (cwV 2 hts (gi_V wd_284 wd_285 wd_286 wd_273 wd_287) rfl rfl rfl hdV_X3_hold ⟨Nat.le_of_ble_eq_true rfl, Nat.le_of_ble_eq_true rfl⟩) hK hP hD 0 rfl rfl rfl hl.1 (Nat.le_of_ble_eq_true rfl) dX3_make_23 ⟨by show _ ≤ 8; omega, by show _ ≤ 18 + c0; omega⟩) hS hD hA (fun A H locs hP hD hS => ?_)
  obtain ⟨hc0, hj0⟩ := of_some2 hf
  subst hj0
  exact grXi hx hb hr hlocks hP hK hD hS dX3_make_26 (by omega) (by omega)
set_option maxHeartbeats 4000000 in
set_option maxRecDepth 100000 in
theorem c_wh_text (l : Launch) (hl0 : l.stackTraces = false) (G : va_G) (cL cZ : ClassId) (Q : Nat → Nat) (A : Nat → Nat) (z : Hs) (sz : Nat) (p0 : Int32) (p1 : Int32) (c0 : Nat) (O0 : Hs × (String ⊕ Int32)) (hf : wh_text z p0 p1 = some (c0, O0)) : vx_Met l yX3_text vX3_text { frames := 10, cells := 8, slots := 18 + c0, locals := 243 } (gPx txC G vwCl (ct cL cZ) [.ref (Q 0), .int p0, .int p1] (cw cL cZ Q A z) sz) (qXi G vwCl (ct cL cZ) (cw cL cZ Q A z) sz (cw cL cZ Q) O0) (xX G vwCl (ct cL cZ) (cw cL cZ Q A z) sz (cw cL cZ Q) O0) 8 (18 + c0) (va_A (cw cL cZ Q A z) sz) := by
  refine gMetx (by decide) rfl (Nat.le_of_ble_eq_true rfl) ?_
  intro p e s m below meth c ls C hE hK hP hD hT hsz hl
  subst hsz
  obtain ⟨hx, hb, hr, hml, hown, hts, hlocks⟩ := id C
  have FX : CallFix p m c cX3_text 3 s _ vX3_text RX3 := ⟨hx, hb, hml, hown, hts⟩
  have hA : ∀ q9 : Nat, s.heap.size ≤ q9 → va_A (cw cL cZ Q A z) s.heap.size q9 := fun q9 h => Or.inr h
  have hS : va_S (va_A (cw cL cZ Q A z) s.heap.size) s.heap s.heap [] := va_S.rf
  have hl : lv_has ls 3 [(0, .ref (Q 0)), (1, .int p0), (2, .int p1)] := hl
  unfold wh_text at hf
  refine lv_iload_n hx hb dX3_text_0 rfl (lv_at hl 1 rfl) ?_
  rcases of_bt hf with ⟨e9, ho1, hj⟩ | ⟨o9, ho1, hf⟩
  · obtain ⟨hc0, hj⟩ := of_pair hj
    subst hj
    exact goutX (gSx FX [.int p0] (c_wh_needRegister l hl0 G cL cZ Q A z _ p0 _ ho1) (cwS 1 hts (gi_S wd_271 wd_272 wd_273 wd_274) rfl rfl rfl hdS_X3_needRegister ⟨Nat.le_of_ble_eq_true rfl, Nat.le_of_ble_eq_true rfl⟩) hK hP hD hT hS hA rfl hl.1 (Nat.le_of_ble_eq_true rfl) dX3_text_1 ⟨by show _ ≤ 8; omega, by show _ ≤ 18 + c0; omega⟩) (noTv) hS hD hK hE hlocks (by omega) (by omega)
  refine gcTv (gSx FX [.int p0] (c_wh_needRegister l hl0 G cL cZ Q A z _ p0 _ ho1) (cwS 1 hts (gi_S wd_271 wd_272 wd_273 wd_274) rfl rfl rfl hdS_X3_needRegister ⟨Nat.le_of_ble_eq_true rfl, Nat.le_of_ble_eq_true rfl⟩) hK hP hD hT hS hA rfl hl.1 (Nat.le_of_ble_eq_true rfl) dX3_text_1 ⟨by show _ ≤ 8; omega, by show _ ≤ 18 + c0; omega⟩) hS hD hA (fun H locs hP hS => ?_)
  refine lv_iload_n hx hb dX3_text_4 rfl (lv_at hl 2 rfl) ?_
  refine lv_iconst (v := 0) hx hb dX3_text_5 (by decide) ?_
  refine lv_ldc (v := 32768) hx hb hown (hts _ (.tail _ wd_292)) dX3_text_6 ?_
  rcases of_bt hf with ⟨e9, ho2, hj⟩ | ⟨o9, ho2, hf⟩
  · obtain ⟨hc0, hj⟩ := of_pair hj
    subst hj
    exact goutX (gSx FX [.int p1, .int 0, .int 32768] (c_wh_needWithin l hl0 G cL cZ Q A z _ p1 0 32768 _ ho2) (cwS 3 hts (gi_S wd_289 wd_290 wd_273 wd_291) rfl rfl rfl hdS_X3_needWithin ⟨Nat.le_of_ble_eq_true rfl, Nat.le_of_ble_eq_true rfl⟩) hK hP hD hT hS hA rfl hl.1 (Nat.le_of_ble_eq_true rfl) dX3_text_8 ⟨by show _ ≤ 8; omega, by show _ ≤ 18 + c0; omega⟩) (noTv) hS hD hK hE hlocks (by omega) (by omega)
  refine gcTv (gSx FX [.int p1, .int 0, .int 32768] (c_wh_needWithin l hl0 G cL cZ Q A z _ p1 0 32768 _ ho2) (cwS 3 hts (gi_S wd_289 wd_290 wd_273 wd_291) rfl rfl rfl hdS_X3_needWithin ⟨Nat.le_of_ble_eq_true rfl, Nat.le_of_ble_eq_true rfl⟩) hK hP hD hT hS hA rfl hl.1 (Nat.le_of_ble_eq_true rfl) dX3_text_8 ⟨by show _ ≤ 8; omega, by show _ ≤ 18 + c0; omega⟩) hS hD hA (fun H locs hP hS => ?_)
  refine lv_aload_n hx hb dX3_text_11 rfl (lv_at hl 0 rfl) ?_
  refine lv_iload_n hx hb dX3_text_12 rfl (lv_at hl 1 rfl) ?_
  refine lv_aload_n hx hb dX3_text_13 rfl (lv_at hl 0 rfl) ?_
  refine va_get (D := G) (ci := 3) (v := .ref (Q 1)) (C := RX3) (T := TX3) (N := 3) hx hb hts (fun w h => .tail _ (wl_X3 w h)) hown hK hP 0 rfl rfl 0 (by decide) (hts _ (.tail _ wd_269)) (fun _ h9 => h9) rfl dX3_text_14 ?_
  refine lv_iconst (v := 3) hx hb dX3_text_17 (by decide) ?_
  refine lv_iload_n hx hb dX3_text_18 rfl (lv_at hl 2 rfl) ?_
  rcases of_bcwt hf with ⟨k3, z3, e9, ho3, hj⟩ | ⟨k3, z3, r3, d3, ho3, hf, ek3⟩
  · obtain ⟨hc0, hj⟩ := of_pair hj
    subst hj
    exact goutXX (gVx FX [.int 3, .int p1] (c_hp_claim l hl0 G cL cZ Q A z _ 3 p1 k3 _ ho3) (cwV 2 hts (gi_V wd_288 wd_149 wd_150 wd_7 wd_151) rfl rfl rfl hdV_X0_claim ⟨Nat.le_of_ble_eq_true rfl, Nat.le_of_ble_eq_true rfl⟩) hK hP hD hT hS hA 1 rfl rfl rfl hl.1 (Nat.le_of_ble_eq_true rfl) dX3_text_19 ⟨by show _ ≤ 8; omega, by show _ ≤ 18 + c0; omega⟩) (noXi) hS hD hK hE hlocks (by omega) (by omega)
  refine gcXi (gVx FX [.int 3, .int p1] (c_hp_claim l hl0 G cL cZ Q A z _ 3 p1 k3 _ ho3) (cwV 2 hts (gi_V wd_288 wd_149 wd_150 wd_7 wd_151) rfl rfl rfl hdV_X0_claim ⟨Nat.le_of_ble_eq_true rfl, Nat.le_of_ble_eq_true rfl⟩) hK hP hD hT hS hA 1 rfl rfl rfl hl.1 (Nat.le_of_ble_eq_true rfl) dX3_text_19 ⟨by show _ ≤ 8; omega, by show _ ≤ 18 + c0; omega⟩) hS hD hA (fun A H locs hP hD hS => ?_)
  obtain ⟨z4, r4, ho4, hf⟩ := of_bw hf
  refine gcWi (gV FX [.int p0, .int r3] (c_wh_hold l G cL cZ Q A z3 _ p0 r3 _ ho4) (cwV 2 hts (gi_V wd_284 wd_285 wd_286 wd_273 wd_287) rfl rfl rfl hdV_X3_hold ⟨Nat.le_of_ble_eq_true rfl, Nat.le_of_ble_eq_true rfl⟩) hK hP hD 0 rfl rfl rfl hl.1 (Nat.le_of_ble_eq_true rfl) dX3_text_22 ⟨by show _ ≤ 8; omega, by show _ ≤ 18 + c0; omega⟩) hS hD hA (fun A H locs hP hD hS => ?_)
  obtain ⟨hc0, hj0⟩ := of_some2 hf
  subst hj0
  exact grXi hx hb hr hlocks hP hK hD hS dX3_text_25 (by omega) (by omega)
set_option maxHeartbeats 4000000 in
set_option maxRecDepth 100000 in
theorem c_wh_map (l : Launch) (hl0 : l.stackTraces = false) (G : va_G) (cL cZ : ClassId) (Q : Nat → Nat) (A : Nat → Nat) (z : Hs) (sz : Nat) (p0 : Int32) (p1 : Int32) (p2 : Int32) (p3 : Int32) (c0 : Nat) (O0 : Hs × (String ⊕ Int32)) (hf : wh_map z p0 p1 p2 p3 = some (c0, O0)) : vx_Met l yX3_map vX3_map { frames := 10, cells := 15, slots := 30 + c0, locals := 246 } (gPx txC G vwCl (ct cL cZ) [.ref (Q 0), .int p0, .int p1, .int p2, .int p3] (cw cL cZ Q A z) sz) (qXi G vwCl (ct cL cZ) (cw cL cZ Q A z) sz (cw cL cZ Q) O0) (xX G vwCl (ct cL cZ) (cw cL cZ Q A z) sz (cw cL cZ Q) O0) 15 (30 + c0) (va_A (cw cL cZ Q A z) sz) := by
  refine gMetx (by decide) rfl (Nat.le_of_ble_eq_true rfl) ?_
  intro p e s m below meth c ls C hE hK hP hD hT hsz hl
  subst hsz
  obtain ⟨hx, hb, hr, hml, hown, hts, hlocks⟩ := id C
  have FX : CallFix p m c cX3_map 5 s _ vX3_map RX3 := ⟨hx, hb, hml, hown, hts⟩
  have hA : ∀ q9 : Nat, s.heap.size ≤ q9 → va_A (cw cL cZ Q A z) s.heap.size q9 := fun q9 h => Or.inr h
  have hS : va_S (va_A (cw cL cZ Q A z) s.heap.size) s.heap s.heap [] := va_S.rf
  have hl : lv_has ls 5 [(0, .ref (Q 0)), (1, .int p0), (2, .int p1), (3, .int p2), (4, .int p3)] := hl
  unfold wh_map at hf
  refine lv_iload_n hx hb dX3_map_0 rfl (lv_at hl 1 rfl) ?_
  rcases of_bt hf with ⟨e9, ho1, hj⟩ | ⟨o9, ho1, hf⟩
  · obtain ⟨hc0, hj⟩ := of_pair hj
    subst hj
    exact goutX (gSx FX [.int p0] (c_wh_needRegister l hl0 G cL cZ Q A z _ p0 _ ho1) (cwS 1 hts (gi_S wd_271 wd_272 wd_273 wd_274) rfl rfl rfl hdS_X3_needRegister ⟨Nat.le_of_ble_eq_true rfl, Nat.le_of_ble_eq_true rfl⟩) hK hP hD hT hS hA rfl hl.1 (Nat.le_of_ble_eq_true rfl) dX3_map_1 ⟨by show _ ≤ 15; omega, by show _ ≤ 30 + c0; omega⟩) (noTv) hS hD hK hE hlocks (by omega) (by omega)
  refine gcTv (gSx FX [.int p0] (c_wh_needRegister l hl0 G cL cZ Q A z _ p0 _ ho1) (cwS 1 hts (gi_S wd_271 wd_272 wd_273 wd_274) rfl rfl rfl hdS_X3_needRegister ⟨Nat.le_of_ble_eq_true rfl, Nat.le_of_ble_eq_true rfl⟩) hK hP hD hT hS hA rfl hl.1 (Nat.le_of_ble_eq_true rfl) dX3_map_1 ⟨by show _ ≤ 15; omega, by show _ ≤ 30 + c0; omega⟩) hS hD hA (fun H locs hP hS => ?_)
  refine lv_iload_n hx hb dX3_map_4 rfl (lv_at hl 2 rfl) ?_
  refine lv_iconst (v := 1) hx hb dX3_map_5 (by decide) ?_
  refine lv_iconst (v := 4) hx hb dX3_map_6 (by decide) ?_
  rcases of_bt hf with ⟨e9, ho2, hj⟩ | ⟨o9, ho2, hf⟩
  · obtain ⟨hc0, hj⟩ := of_pair hj
    subst hj
    exact goutX (gSx FX [.int p1, .int 1, .int 4] (c_wh_needWithin l hl0 G cL cZ Q A z _ p1 1 4 _ ho2) (cwS 3 hts (gi_S wd_289 wd_290 wd_273 wd_291) rfl rfl rfl hdS_X3_needWithin ⟨Nat.le_of_ble_eq_true rfl, Nat.le_of_ble_eq_true rfl⟩) hK hP hD hT hS hA rfl hl.1 (Nat.le_of_ble_eq_true rfl) dX3_map_7 ⟨by show _ ≤ 15; omega, by show _ ≤ 30 + c0; omega⟩) (noTv) hS hD hK hE hlocks (by omega) (by omega)
  refine gcTv (gSx FX [.int p1, .int 1, .int 4] (c_wh_needWithin l hl0 G cL cZ Q A z _ p1 1 4 _ ho2) (cwS 3 hts (gi_S wd_289 wd_290 wd_273 wd_291) rfl rfl rfl hdS_X3_needWithin ⟨Nat.le_of_ble_eq_true rfl, Nat.le_of_ble_eq_true rfl⟩) hK hP hD hT hS hA rfl hl.1 (Nat.le_of_ble_eq_true rfl) dX3_map_7 ⟨by show _ ≤ 15; omega, by show _ ≤ 30 + c0; omega⟩) hS hD hA (fun H locs hP hS => ?_)
  refine lv_iload_n hx hb dX3_map_10 rfl (lv_at hl 3 rfl) ?_
  refine lv_iconst (v := 0) hx hb dX3_map_11 (by decide) ?_
  refine lv_iconst (v := 4) hx hb dX3_map_12 (by decide) ?_
  rcases of_bt hf with ⟨e9, ho3, hj⟩ | ⟨o9, ho3, hf⟩
  · obtain ⟨hc0, hj⟩ := of_pair hj
    subst hj
    exact goutX (gSx FX [.int p2, .int 0, .int 4] (c_wh_needWithin l hl0 G cL cZ Q A z _ p2 0 4 _ ho3) (cwS 3 hts (gi_S wd_289 wd_290 wd_273 wd_291) rfl rfl rfl hdS_X3_needWithin ⟨Nat.le_of_ble_eq_true rfl, Nat.le_of_ble_eq_true rfl⟩) hK hP hD hT hS hA rfl hl.1 (Nat.le_of_ble_eq_true rfl) dX3_map_13 ⟨by show _ ≤ 15; omega, by show _ ≤ 30 + c0; omega⟩) (noTv) hS hD hK hE hlocks (by omega) (by omega)
  refine gcTv (gSx FX [.int p2, .int 0, .int 4] (c_wh_needWithin l hl0 G cL cZ Q A z _ p2 0 4 _ ho3) (cwS 3 hts (gi_S wd_289 wd_290 wd_273 wd_291) rfl rfl rfl hdS_X3_needWithin ⟨Nat.le_of_ble_eq_true rfl, Nat.le_of_ble_eq_true rfl⟩) hK hP hD hT hS hA rfl hl.1 (Nat.le_of_ble_eq_true rfl) dX3_map_13 ⟨by show _ ≤ 15; omega, by show _ ≤ 30 + c0; omega⟩) hS hD hA (fun H locs hP hS => ?_)
  refine lv_iload hx hb dX3_map_16 (lv_at hl 4 rfl) ?_
  refine lv_iconst (v := 0) hx hb dX3_map_18 (by decide) ?_
  refine lv_iconst (v := 1) hx hb dX3_map_19 (by decide) ?_
  refine lv_iload_n hx hb dX3_map_20 rfl (lv_at hl 2 rfl) ?_
  refine lv_ishl hx hb dX3_map_21 ?_
  refine lv_iconst (v := 1) hx hb dX3_map_22 (by decide) ?_
  refine lv_isub hx hb dX3_map_23 ?_
  rcases of_bt hf with ⟨e9, ho4, hj⟩ | ⟨o9, ho4, hf⟩
  · obtain ⟨hc0, hj⟩ := of_pair hj
    subst hj
    exact goutX (gSx FX [.int p3, .int 0, .int (((1 : Int32) <<< (p1 &&& 31)) - 1)] (c_wh_needWithin l hl0 G cL cZ Q A z _ p3 0 (((1 : Int32) <<< (p1 &&& 31)) - 1) _ ho4) (cwS 3 hts (gi_S wd_289 wd_290 wd_273 wd_291) rfl rfl rfl hdS_X3_needWithin ⟨Nat.le_of_ble_eq_true rfl, Nat.le_of_ble_eq_true rfl⟩) hK hP hD hT hS hA rfl hl.1 (Nat.le_of_ble_eq_true rfl) dX3_map_24 ⟨by show _ ≤ 15; omega, by show _ ≤ 30 + c0; omega⟩) (noTv) hS hD hK hE hlocks (by omega) (by omega)
  refine gcTv (gSx FX [.int p3, .int 0, .int (((1 : Int32) <<< (p1 &&& 31)) - 1)] (c_wh_needWithin l hl0 G cL cZ Q A z _ p3 0 (((1 : Int32) <<< (p1 &&& 31)) - 1) _ ho4) (cwS 3 hts (gi_S wd_289 wd_290 wd_273 wd_291) rfl rfl rfl hdS_X3_needWithin ⟨Nat.le_of_ble_eq_true rfl, Nat.le_of_ble_eq_true rfl⟩) hK hP hD hT hS hA rfl hl.1 (Nat.le_of_ble_eq_true rfl) dX3_map_24 ⟨by show _ ≤ 15; omega, by show _ ≤ 30 + c0; omega⟩) hS hD hA (fun H locs hP hS => ?_)
  refine lv_aload_n hx hb dX3_map_27 rfl (lv_at hl 0 rfl) ?_
  refine lv_iload_n hx hb dX3_map_28 rfl (lv_at hl 1 rfl) ?_
  refine lv_aload_n hx hb dX3_map_29 rfl (lv_at hl 0 rfl) ?_
  refine va_get (D := G) (ci := 3) (v := .ref (Q 3)) (C := RX3) (T := TX3) (N := 3) hx hb hts (fun w h => .tail _ (wl_X3 w h)) hown hK hP 0 rfl rfl 2 (by decide) (hts _ (.tail _ wd_293)) (fun _ h9 => h9) rfl dX3_map_30 ?_
  refine lv_iload_n hx hb dX3_map_33 rfl (lv_at hl 2 rfl) ?_
  refine lv_iload_n hx hb dX3_map_34 rfl (lv_at hl 3 rfl) ?_
  refine lv_iload hx hb dX3_map_35 (lv_at hl 4 rfl) ?_
  rcases of_bcwt hf with ⟨k5, z5, e9, ho5, hj⟩ | ⟨k5, z5, r5, d5, ho5, hf, ek5⟩
  · obtain ⟨hc0, hj⟩ := of_pair hj
    subst hj
    exact goutXX (gVx FX [.int p1, .int p2, .int p3] (c_mp_newMap l hl0 G cL cZ Q A z _ p1 p2 p3 k5 _ ho5) (cwV 3 hts (gi_V wd_294 wd_295 wd_296 wd_166 wd_297) rfl rfl rfl hdV_X1_newMap ⟨Nat.le_of_ble_eq_true rfl, Nat.le_of_ble_eq_true rfl⟩) hK hP hD hT hS hA 3 rfl rfl rfl hl.1 (Nat.le_of_ble_eq_true rfl) dX3_map_37 ⟨by show _ ≤ 15; omega, by show _ ≤ 30 + c0; omega⟩) (noXi) hS hD hK hE hlocks (by omega) (by omega)
  refine gcXi (gVx FX [.int p1, .int p2, .int p3] (c_mp_newMap l hl0 G cL cZ Q A z _ p1 p2 p3 k5 _ ho5) (cwV 3 hts (gi_V wd_294 wd_295 wd_296 wd_166 wd_297) rfl rfl rfl hdV_X1_newMap ⟨Nat.le_of_ble_eq_true rfl, Nat.le_of_ble_eq_true rfl⟩) hK hP hD hT hS hA 3 rfl rfl rfl hl.1 (Nat.le_of_ble_eq_true rfl) dX3_map_37 ⟨by show _ ≤ 15; omega, by show _ ≤ 30 + c0; omega⟩) hS hD hA (fun A H locs hP hD hS => ?_)
  obtain ⟨z6, r6, ho6, hf⟩ := of_bw hf
  refine gcWi (gV FX [.int p0, .int r5] (c_wh_hold l G cL cZ Q A z5 _ p0 r5 _ ho6) (cwV 2 hts (gi_V wd_284 wd_285 wd_286 wd_273 wd_287) rfl rfl rfl hdV_X3_hold ⟨Nat.le_of_ble_eq_true rfl, Nat.le_of_ble_eq_true rfl⟩) hK hP hD 0 rfl rfl rfl hl.1 (Nat.le_of_ble_eq_true rfl) dX3_map_40 ⟨by show _ ≤ 15; omega, by show _ ≤ 30 + c0; omega⟩) hS hD hA (fun A H locs hP hD hS => ?_)
  obtain ⟨hc0, hj0⟩ := of_some2 hf
  subst hj0
  exact grXi hx hb hr hlocks hP hK hD hS dX3_map_43 (by omega) (by omega)
set_option maxHeartbeats 4000000 in
set_option maxRecDepth 100000 in
theorem c_wh_textIn (l : Launch) (hl0 : l.stackTraces = false) (G : va_G) (cL cZ : ClassId) (Q : Nat → Nat) (A : Nat → Nat) (z : Hs) (sz : Nat) (p0 : Int32) (O0 : (String ⊕ Int32)) (hf : wh_textIn z p0 = some O0) : vx_Met l yX3_textIn vX3_textIn { frames := 8, cells := 1, slots := 6, locals := 200 } (gPx txC G vwCl (ct cL cZ) [.ref (Q 0), .int p0] (cw cL cZ Q A z) sz) (qTi G vwCl (ct cL cZ) (cw cL cZ Q A z) sz O0) (xT G vwCl (ct cL cZ) (cw cL cZ Q A z) sz O0) 1 6 (va_A (cw cL cZ Q A z) sz) := by
  refine gMetx (by decide) rfl (Nat.le_of_ble_eq_true rfl) ?_
  intro p e s m below meth c ls C hE hK hP hD hT hsz hl
  subst hsz
  obtain ⟨hx, hb, hr, hml, hown, hts, hlocks⟩ := id C
  have FX : CallFix p m c cX3_textIn 3 s _ vX3_textIn RX3 := ⟨hx, hb, hml, hown, hts⟩
  have hA : ∀ q9 : Nat, s.heap.size ≤ q9 → va_A (cw cL cZ Q A z) s.heap.size q9 := fun q9 h => Or.inr h
  have hS : va_S (va_A (cw cL cZ Q A z) s.heap.size) s.heap s.heap [] := va_S.rf
  have hl : lv_has ls 3 [(0, .ref (Q 0)), (1, .int p0)] := hl
  unfold wh_textIn at hf
  refine lv_aload_n hx hb dX3_textIn_0 rfl (lv_at hl 0 rfl) ?_
  refine va_get (D := G) (ci := 3) (v := .ref (Q 1)) (C := RX3) (T := TX3) (N := 3) hx hb hts (fun w h => .tail _ (wl_X3 w h)) hown hK hP 0 rfl rfl 0 (by decide) (hts _ (.tail _ wd_269)) (fun _ h9 => h9) rfl dX3_textIn_1 ?_
  refine lv_iload_n hx hb dX3_textIn_4 rfl (lv_at hl 1 rfl) ?_
  obtain ⟨r1, ho1, hf⟩ := of_b0 hf
  refine gcRi (gV FX [.int p0] (c_hp_kindAt l G cL cZ Q A z _ p0 _ ho1) (cwV 1 hts (gi_V wd_301 wd_187 wd_188 wd_7 wd_189) rfl rfl rfl hdV_X0_kindAt ⟨Nat.le_of_ble_eq_true rfl, Nat.le_of_ble_eq_true rfl⟩) hK hP hD 1 rfl rfl rfl hl.1 (Nat.le_of_ble_eq_true rfl) dX3_textIn_5 ⟨by show _ ≤ 1; omega, by show _ ≤ 6; omega⟩) hS hD hA (fun H locs hP hS => ?_)
  refine lv_istore_n (lv' := [(2, .int r1), (0, .ref (Q 0)), (1, .int p0)]) hx hb dX3_textIn_8 rfl hl (by decide) rfl (fun ls hl => ?_)
  refine lv_iload_n hx hb dX3_textIn_9 rfl (lv_at hl 0 rfl) ?_
  refine lv_iconst (v := 3) hx hb dX3_textIn_10 (by decide) ?_
  refine lv_icmp_eq (tgt := 29) hx hb dX3_textIn_11 (by decide) (fun c2 => ?_) (fun c2 => ?_)
  · have hf := (if_pos c2).symm.trans hf
    refine lv_aload_n hx hb dX3_textIn_29 rfl (lv_at hl 1 rfl) ?_
    refine va_get (D := G) (ci := 3) (v := .ref (Q 1)) (C := RX3) (T := TX3) (N := 3) hx hb hts (fun w h => .tail _ (wl_X3 w h)) hown hK hP 0 rfl rfl 0 (by decide) (hts _ (.tail _ wd_269)) (fun _ h9 => h9) rfl dX3_textIn_30 ?_
    refine lv_iload_n hx hb dX3_textIn_33 rfl (lv_at hl 2 rfl) ?_
    obtain ⟨r3, ho3, hf⟩ := of_b0 hf
    refine gcRi (gV FX [.int p0] (c_hp_handleAt l G cL cZ Q A z _ p0 _ ho3) (cwV 1 hts (gi_V wd_298 wd_14 wd_15 wd_7 wd_16) rfl rfl rfl hdV_X0_handleAt ⟨Nat.le_of_ble_eq_true rfl, Nat.le_of_ble_eq_true rfl⟩) hK hP hD 1 rfl rfl rfl hl.1 (Nat.le_of_ble_eq_true rfl) dX3_textIn_34 ⟨by show _ ≤ 1; omega, by show _ ≤ 6; omega⟩) hS hD hA (fun H locs hP hS => ?_)
    obtain rfl := Option.some.inj hf
    exact grTi hx hb hr hlocks hP hK hD hS dX3_textIn_37 (by omega) (by omega)
  · have hf := (if_neg c2).symm.trans hf
    refine lv_iload_n hx hb dX3_textIn_14 rfl (lv_at hl 0 rfl) ?_
    refine lv_iconst (v := 1) hx hb dX3_textIn_15 (by decide) ?_
    refine lv_icmp_eq (tgt := 29) hx hb dX3_textIn_16 (by decide) (fun c4 => ?_) (fun c4 => ?_)
    · have hf := (if_pos c4).symm.trans hf
      refine lv_aload_n hx hb dX3_textIn_29 rfl (lv_at hl 1 rfl) ?_
      refine va_get (D := G) (ci := 3) (v := .ref (Q 1)) (C := RX3) (T := TX3) (N := 3) hx hb hts (fun w h => .tail _ (wl_X3 w h)) hown hK hP 0 rfl rfl 0 (by decide) (hts _ (.tail _ wd_269)) (fun _ h9 => h9) rfl dX3_textIn_30 ?_
      refine lv_iload_n hx hb dX3_textIn_33 rfl (lv_at hl 2 rfl) ?_
      obtain ⟨r5, ho5, hf⟩ := of_b0 hf
      refine gcRi (gV FX [.int p0] (c_hp_handleAt l G cL cZ Q A z _ p0 _ ho5) (cwV 1 hts (gi_V wd_298 wd_14 wd_15 wd_7 wd_16) rfl rfl rfl hdV_X0_handleAt ⟨Nat.le_of_ble_eq_true rfl, Nat.le_of_ble_eq_true rfl⟩) hK hP hD 1 rfl rfl rfl hl.1 (Nat.le_of_ble_eq_true rfl) dX3_textIn_34 ⟨by show _ ≤ 1; omega, by show _ ≤ 6; omega⟩) hS hD hA (fun H locs hP hS => ?_)
      obtain rfl := Option.some.inj hf
      exact grTi hx hb hr hlocks hP hK hD hS dX3_textIn_37 (by omega) (by omega)
    · have hf := (if_neg c4).symm.trans hf
      obtain rfl := Option.some.inj hf
      exact gthr0 (cls := "java/lang/UnsupportedOperationException") (names := ["java/lang/RuntimeException", "java/lang/Exception"]) (text := "neither a text nor nil") hx hb hl0 hown hts (by decide) (by decide) (.tail _ wd_299) (.tail _ wd_300) (by decide +kernel) (fun w h => .tail _ (tha_2 w h)) tht_2 (by decide +kernel) thg_2_82 hT hS (hl.1.trans hml.symm) dX3_textIn_19 dX3_textIn_22 dX3_textIn_23 dX3_textIn_25 dX3_textIn_28 hE (Nat.lt_of_succ_le (Nat.le_of_ble_eq_true rfl)) (Nat.le_of_ble_eq_true rfl) (by show _ ≤ 1; omega) (by show _ ≤ 6; omega) hlocks (gqT hP hK hD hS) hS.2.2 (by omega) (by omega)
set_option maxHeartbeats 4000000 in
set_option maxRecDepth 100000 in
theorem c_wh_join (l : Launch) (hl0 : l.stackTraces = false) (G : va_G) (cL cZ : ClassId) (Q : Nat → Nat) (A : Nat → Nat) (z : Hs) (sz : Nat) (p0 : Int32) (p1 : Int32) (p2 : Int32) (c0 : Nat) (O0 : Hs × (String ⊕ Int32)) (hf : wh_join z p0 p1 p2 = some (c0, O0)) : vx_Met l yX3_join vX3_join { frames := 11, cells := 11, slots := 36 + c0, locals := 269 } (gPx txC G vwCl (ct cL cZ) [.ref (Q 0), .int p0, .int p1, .int p2] (cw cL cZ Q A z) sz) (qXi G vwCl (ct cL cZ) (cw cL cZ Q A z) sz (cw cL cZ Q) O0) (xX G vwCl (ct cL cZ) (cw cL cZ Q A z) sz (cw cL cZ Q) O0) 11 (36 + c0) (va_A (cw cL cZ Q A z) sz) := by
  refine gMetx (by decide) rfl (Nat.le_of_ble_eq_true rfl) ?_
  intro p e s m below meth c ls C hE hK hP hD hT hsz hl
  subst hsz
  obtain ⟨hx, hb, hr, hml, hown, hts, hlocks⟩ := id C
  have FX : CallFix p m c cX3_join 6 s _ vX3_join RX3 := ⟨hx, hb, hml, hown, hts⟩
  have hA : ∀ q9 : Nat, s.heap.size ≤ q9 → va_A (cw cL cZ Q A z) s.heap.size q9 := fun q9 h => Or.inr h
  have hS : va_S (va_A (cw cL cZ Q A z) s.heap.size) s.heap s.heap [] := va_S.rf
  have hl : lv_has ls 6 [(0, .ref (Q 0)), (1, .int p0), (2, .int p1), (3, .int p2)] := hl
  unfold wh_join at hf
  refine lv_iload_n hx hb dX3_join_0 rfl (lv_at hl 1 rfl) ?_
  rcases of_bt hf with ⟨e9, ho1, hj⟩ | ⟨o9, ho1, hf⟩
  · obtain ⟨hc0, hj⟩ := of_pair hj
    subst hj
    exact goutX (gSx FX [.int p0] (c_wh_needRegister l hl0 G cL cZ Q A z _ p0 _ ho1) (cwS 1 hts (gi_S wd_271 wd_272 wd_273 wd_274) rfl rfl rfl hdS_X3_needRegister ⟨Nat.le_of_ble_eq_true rfl, Nat.le_of_ble_eq_true rfl⟩) hK hP hD hT hS hA rfl hl.1 (Nat.le_of_ble_eq_true rfl) dX3_join_1 ⟨by show _ ≤ 11; omega, by show _ ≤ 36 + c0; omega⟩) (noTv) hS hD hK hE hlocks (by omega) (by omega)
  refine gcTv (gSx FX [.int p0] (c_wh_needRegister l hl0 G cL cZ Q A z _ p0 _ ho1) (cwS 1 hts (gi_S wd_271 wd_272 wd_273 wd_274) rfl rfl rfl hdS_X3_needRegister ⟨Nat.le_of_ble_eq_true rfl, Nat.le_of_ble_eq_true rfl⟩) hK hP hD hT hS hA rfl hl.1 (Nat.le_of_ble_eq_true rfl) dX3_join_1 ⟨by show _ ≤ 11; omega, by show _ ≤ 36 + c0; omega⟩) hS hD hA (fun H locs hP hS => ?_)
  refine lv_iload_n hx hb dX3_join_4 rfl (lv_at hl 2 rfl) ?_
  rcases of_bt hf with ⟨e9, ho2, hj⟩ | ⟨o9, ho2, hf⟩
  · obtain ⟨hc0, hj⟩ := of_pair hj
    subst hj
    exact goutX (gSx FX [.int p1] (c_wh_needRegister l hl0 G cL cZ Q A z _ p1 _ ho2) (cwS 1 hts (gi_S wd_271 wd_272 wd_273 wd_274) rfl rfl rfl hdS_X3_needRegister ⟨Nat.le_of_ble_eq_true rfl, Nat.le_of_ble_eq_true rfl⟩) hK hP hD hT hS hA rfl hl.1 (Nat.le_of_ble_eq_true rfl) dX3_join_5 ⟨by show _ ≤ 11; omega, by show _ ≤ 36 + c0; omega⟩) (noTv) hS hD hK hE hlocks (by omega) (by omega)
  refine gcTv (gSx FX [.int p1] (c_wh_needRegister l hl0 G cL cZ Q A z _ p1 _ ho2) (cwS 1 hts (gi_S wd_271 wd_272 wd_273 wd_274) rfl rfl rfl hdS_X3_needRegister ⟨Nat.le_of_ble_eq_true rfl, Nat.le_of_ble_eq_true rfl⟩) hK hP hD hT hS hA rfl hl.1 (Nat.le_of_ble_eq_true rfl) dX3_join_5 ⟨by show _ ≤ 11; omega, by show _ ≤ 36 + c0; omega⟩) hS hD hA (fun H locs hP hS => ?_)
  refine lv_iload_n hx hb dX3_join_8 rfl (lv_at hl 3 rfl) ?_
  rcases of_bt hf with ⟨e9, ho3, hj⟩ | ⟨o9, ho3, hf⟩
  · obtain ⟨hc0, hj⟩ := of_pair hj
    subst hj
    exact goutX (gSx FX [.int p2] (c_wh_needRegister l hl0 G cL cZ Q A z _ p2 _ ho3) (cwS 1 hts (gi_S wd_271 wd_272 wd_273 wd_274) rfl rfl rfl hdS_X3_needRegister ⟨Nat.le_of_ble_eq_true rfl, Nat.le_of_ble_eq_true rfl⟩) hK hP hD hT hS hA rfl hl.1 (Nat.le_of_ble_eq_true rfl) dX3_join_9 ⟨by show _ ≤ 11; omega, by show _ ≤ 36 + c0; omega⟩) (noTv) hS hD hK hE hlocks (by omega) (by omega)
  refine gcTv (gSx FX [.int p2] (c_wh_needRegister l hl0 G cL cZ Q A z _ p2 _ ho3) (cwS 1 hts (gi_S wd_271 wd_272 wd_273 wd_274) rfl rfl rfl hdS_X3_needRegister ⟨Nat.le_of_ble_eq_true rfl, Nat.le_of_ble_eq_true rfl⟩) hK hP hD hT hS hA rfl hl.1 (Nat.le_of_ble_eq_true rfl) dX3_join_9 ⟨by show _ ≤ 11; omega, by show _ ≤ 36 + c0; omega⟩) hS hD hA (fun H locs hP hS => ?_)
  refine lv_aload_n hx hb dX3_join_12 rfl (lv_at hl 0 rfl) ?_
  refine lv_iload_n hx hb dX3_join_13 rfl (lv_at hl 2 rfl) ?_
  rcases of_bt hf with ⟨e9, ho4, hj⟩ | ⟨r4, ho4, hf⟩
  · obtain ⟨hc0, hj⟩ := of_pair hj
    subst hj
    exact goutX (gVx FX [.int p1] (c_wh_textIn l hl0 G cL cZ Q A z _ p1 _ ho4) (cwV 1 hts (gi_V wd_308 wd_309 wd_310 wd_273 wd_311) rfl rfl rfl hdV_X3_textIn ⟨Nat.le_of_ble_eq_true rfl, Nat.le_of_ble_eq_true rfl⟩) hK hP hD hT hS hA 0 rfl rfl rfl hl.1 (Nat.le_of_ble_eq_true rfl) dX3_join_14 ⟨by show _ ≤ 11; omega, by show _ ≤ 36 + c0; omega⟩) (noTi) hS hD hK hE hlocks (by omega) (by omega)
  refine gcTi (gVx FX [.int p1] (c_wh_textIn l hl0 G cL cZ Q A z _ p1 _ ho4) (cwV 1 hts (gi_V wd_308 wd_309 wd_310 wd_273 wd_311) rfl rfl rfl hdV_X3_textIn ⟨Nat.le_of_ble_eq_true rfl, Nat.le_of_ble_eq_true rfl⟩) hK hP hD hT hS hA 0 rfl rfl rfl hl.1 (Nat.le_of_ble_eq_true rfl) dX3_join_14 ⟨by show _ ≤ 11; omega, by show _ ≤ 36 + c0; omega⟩) hS hD hA (fun H locs hP hS => ?_)
  refine lv_istore (lv' := [(4, .int r4), (0, .ref (Q 0)), (1, .int p0), (2, .int p1), (3, .int p2)]) hx hb dX3_join_17 hl (by decide) rfl (fun ls hl => ?_)
  refine lv_aload_n hx hb dX3_join_19 rfl (lv_at hl 1 rfl) ?_
  refine lv_iload_n hx hb dX3_join_20 rfl (lv_at hl 4 rfl) ?_
  rcases of_bt hf with ⟨e9, ho5, hj⟩ | ⟨r5, ho5, hf⟩
  · obtain ⟨hc0, hj⟩ := of_pair hj
    subst hj
    exact goutX (gVx FX [.int p2] (c_wh_textIn l hl0 G cL cZ Q A z _ p2 _ ho5) (cwV 1 hts (gi_V wd_308 wd_309 wd_310 wd_273 wd_311) rfl rfl rfl hdV_X3_textIn ⟨Nat.le_of_ble_eq_true rfl, Nat.le_of_ble_eq_true rfl⟩) hK hP hD hT hS hA 0 rfl rfl rfl hl.1 (Nat.le_of_ble_eq_true rfl) dX3_join_21 ⟨by show _ ≤ 11; omega, by show _ ≤ 36 + c0; omega⟩) (noTi) hS hD hK hE hlocks (by omega) (by omega)
  refine gcTi (gVx FX [.int p2] (c_wh_textIn l hl0 G cL cZ Q A z _ p2 _ ho5) (cwV 1 hts (gi_V wd_308 wd_309 wd_310 wd_273 wd_311) rfl rfl rfl hdV_X3_textIn ⟨Nat.le_of_ble_eq_true rfl, Nat.le_of_ble_eq_true rfl⟩) hK hP hD hT hS hA 0 rfl rfl rfl hl.1 (Nat.le_of_ble_eq_true rfl) dX3_join_21 ⟨by show _ ≤ 11; omega, by show _ ≤ 36 + c0; omega⟩) hS hD hA (fun H locs hP hS => ?_)
  refine lv_istore (lv' := [(5, .int r5), (4, .int r4), (0, .ref (Q 0)), (1, .int p0), (2, .int p1), (3, .int p2)]) hx hb dX3_join_24 hl (by decide) rfl (fun ls hl => ?_)
  refine lv_aload_n hx hb dX3_join_26 rfl (lv_at hl 2 rfl) ?_
  refine va_get (D := G) (ci := 3) (v := .ref (Q 1)) (C := RX3) (T := TX3) (N := 3) hx hb hts (fun w h => .tail _ (wl_X3 w h)) hown hK hP 0 rfl rfl 0 (by decide) (hts _ (.tail _ wd_269)) (fun _ h9 => h9) rfl dX3_join_27 ?_
  refine lv_iload hx hb dX3_join_30 (lv_at hl 1 rfl) ?_
  obtain ⟨r6, ho6, hf⟩ := of_b0 hf
  refine gcRi (gV FX [.int r4] (c_hp_length l G cL cZ Q A z _ r4 _ ho6) (cwV 1 hts (gi_V wd_307 wd_61 wd_62 wd_7 wd_63) rfl rfl rfl hdV_X0_length ⟨Nat.le_of_ble_eq_true rfl, Nat.le_of_ble_eq_true rfl⟩) hK hP hD 1 rfl rfl rfl hl.1 (Nat.le_of_ble_eq_true rfl) dX3_join_32 ⟨by show _ ≤ 11; omega, by show _ ≤ 36 + c0; omega⟩) hS hD hA (fun H locs hP hS => ?_)
  refine lv_aload_n hx hb dX3_join_35 rfl (lv_at hl 2 rfl) ?_
  refine va_get (D := G) (ci := 3) (v := .ref (Q 1)) (C := RX3) (T := TX3) (N := 3) hx hb hts (fun w h => .tail _ (wl_X3 w h)) hown hK hP 0 rfl rfl 0 (by decide) (hts _ (.tail _ wd_269)) (fun _ h9 => h9) rfl dX3_join_36 ?_
  refine lv_iload hx hb dX3_join_39 (lv_at hl 0 rfl) ?_
  obtain ⟨r7, ho7, hf⟩ := of_b0 hf
  refine gcRi (gV FX [.int r5] (c_hp_length l G cL cZ Q A z _ r5 _ ho7) (cwV 1 hts (gi_V wd_307 wd_61 wd_62 wd_7 wd_63) rfl rfl rfl hdV_X0_length ⟨Nat.le_of_ble_eq_true rfl, Nat.le_of_ble_eq_true rfl⟩) hK hP hD 1 rfl rfl rfl hl.1 (Nat.le_of_ble_eq_true rfl) dX3_join_41 ⟨by show _ ≤ 11; omega, by show _ ≤ 36 + c0; omega⟩) hS hD hA (fun H locs hP hS => ?_)
  refine lv_iadd hx hb dX3_join_44 ?_
  refine lv_ldc (v := 32768) hx hb hown (hts _ (.tail _ wd_292)) dX3_join_45 ?_
  refine lv_icmp_le (tgt := 60) hx hb dX3_join_47 (by decide) (fun c8 => ?_) (fun c8 => ?_)
  · have hf := (if_pos c8).symm.trans hf
    refine lv_aload_n hx hb dX3_join_60 rfl (lv_at hl 2 rfl) ?_
    refine lv_iload_n hx hb dX3_join_61 rfl (lv_at hl 3 rfl) ?_
    refine lv_aload_n hx hb dX3_join_62 rfl (lv_at hl 2 rfl) ?_
    refine va_get (D := G) (ci := 3) (v := .ref (Q 2)) (C := RX3) (T := TX3) (N := 3) hx hb hts (fun w h => .tail _ (wl_X3 w h)) hown hK hP 0 rfl rfl 1 (by decide) (hts _ (.tail _ wd_302)) (fun _ h9 => h9) rfl dX3_join_63 ?_
    refine lv_iload hx hb dX3_join_66 (lv_at hl 1 rfl) ?_
    refine lv_iload hx hb dX3_join_68 (lv_at hl 0 rfl) ?_
    rcases of_bcwt hf with ⟨k9, z9, e9, ho9, hj⟩ | ⟨k9, z9, r9, d9, ho9, hf, ek9⟩
    · obtain ⟨hc0, hj⟩ := of_pair hj
      subst hj
      exact goutXX (gVx FX [.int r4, .int r5] (c_tx_joined l hl0 G cL cZ Q A z _ r4 r5 k9 _ ho9) (cwV 2 hts (gi_V wd_303 wd_304 wd_305 wd_117 wd_306) rfl rfl rfl hdV_X2_joined ⟨Nat.le_of_ble_eq_true rfl, Nat.le_of_ble_eq_true rfl⟩) hK hP hD hT hS hA 2 rfl rfl rfl hl.1 (Nat.le_of_ble_eq_true rfl) dX3_join_70 ⟨by show _ ≤ 11; omega, by show _ ≤ 36 + c0; omega⟩) (noXi) hS hD hK hE hlocks (by omega) (by omega)
    refine gcXi (gVx FX [.int r4, .int r5] (c_tx_joined l hl0 G cL cZ Q A z _ r4 r5 k9 _ ho9) (cwV 2 hts (gi_V wd_303 wd_304 wd_305 wd_117 wd_306) rfl rfl rfl hdV_X2_joined ⟨Nat.le_of_ble_eq_true rfl, Nat.le_of_ble_eq_true rfl⟩) hK hP hD hT hS hA 2 rfl rfl rfl hl.1 (Nat.le_of_ble_eq_true rfl) dX3_join_70 ⟨by show _ ≤ 11; omega, by show _ ≤ 36 + c0; omega⟩) hS hD hA (fun A H locs hP hD hS => ?_)
    obtain ⟨z10, r10, ho10, hf⟩ := of_bw hf
    refine gcWi (gV FX [.int p0, .int r9] (c_wh_hold l G cL cZ Q A z9 _ p0 r9 _ ho10) (cwV 2 hts (gi_V wd_284 wd_285 wd_286 wd_273 wd_287) rfl rfl rfl hdV_X3_hold ⟨Nat.le_of_ble_eq_true rfl, Nat.le_of_ble_eq_true rfl⟩) hK hP hD 0 rfl rfl rfl hl.1 (Nat.le_of_ble_eq_true rfl) dX3_join_73 ⟨by show _ ≤ 11; omega, by show _ ≤ 36 + c0; omega⟩) hS hD hA (fun A H locs hP hD hS => ?_)
    obtain ⟨hc0, hj0⟩ := of_some2 hf
    subst hj0
    exact grXi hx hb hr hlocks hP hK hD hS dX3_join_76 (by omega) (by omega)
  · have hf := (if_neg c8).symm.trans hf
    obtain ⟨hc0, hj0⟩ := of_some2 hf
    subst hj0
    exact gthr0 (cls := "java/lang/UnsupportedOperationException") (names := ["java/lang/RuntimeException", "java/lang/Exception"]) (text := "the joined text is too long") hx hb hl0 hown hts (by decide) (by decide) (.tail _ wd_299) (.tail _ wd_300) (by decide +kernel) (fun w h => .tail _ (tha_2 w h)) tht_2 (by decide +kernel) thg_2_82 hT hS (hl.1.trans hml.symm) dX3_join_50 dX3_join_53 dX3_join_54 dX3_join_56 dX3_join_59 hE (Nat.lt_of_succ_le (Nat.le_of_ble_eq_true rfl)) (Nat.le_of_ble_eq_true rfl) (by show _ ≤ 11; omega) (by show _ ≤ 36 + c0; omega) hlocks (gqX hP hK hD hS) hS.2.2 (by omega) (by omega)
set_option maxHeartbeats 4000000 in
set_option maxRecDepth 100000 in
theorem c_wh_part (l : Launch) (hl0 : l.stackTraces = false) (G : va_G) (cL cZ : ClassId) (Q : Nat → Nat) (A : Nat → Nat) (z : Hs) (sz : Nat) (p0 : Int32) (p1 : Int32) (p2 : Int32) (p3 : Int32) (c0 : Nat) (O0 : Hs × (String ⊕ Int32)) (hf : wh_part z p0 p1 p2 p3 = some (c0, O0)) : vx_Met l yX3_part vX3_part { frames := 11, cells := 9, slots := 24 + c0, locals := 270 } (gPx txC G vwCl (ct cL cZ) [.ref (Q 0), .int p0, .int p1, .int p2, .int p3] (cw cL cZ Q A z) sz) (qXi G vwCl (ct cL cZ) (cw cL cZ Q A z) sz (cw cL cZ Q) O0) (xX G vwCl (ct cL cZ) (cw cL cZ Q A z) sz (cw cL cZ Q) O0) 9 (24 + c0) (va_A (cw cL cZ Q A z) sz) := by
  refine gMetx (by decide) rfl (Nat.le_of_ble_eq_true rfl) ?_
  intro p e s m below meth c ls C hE hK hP hD hT hsz hl
  subst hsz
  obtain ⟨hx, hb, hr, hml, hown, hts, hlocks⟩ := id C
  have FX : CallFix p m c cX3_part 6 s _ vX3_part RX3 := ⟨hx, hb, hml, hown, hts⟩
  have hA : ∀ q9 : Nat, s.heap.size ≤ q9 → va_A (cw cL cZ Q A z) s.heap.size q9 := fun q9 h => Or.inr h
  have hS : va_S (va_A (cw cL cZ Q A z) s.heap.size) s.heap s.heap [] := va_S.rf
  have hl : lv_has ls 6 [(0, .ref (Q 0)), (1, .int p0), (2, .int p1), (3, .int p2), (4, .int p3)] := hl
  unfold wh_part at hf
  refine lv_iload_n hx hb dX3_part_0 rfl (lv_at hl 1 rfl) ?_
  rcases of_bt hf with ⟨e9, ho1, hj⟩ | ⟨o9, ho1, hf⟩
  · obtain ⟨hc0, hj⟩ := of_pair hj
    subst hj
    exact goutX (gSx FX [.int p0] (c_wh_needRegister l hl0 G cL cZ Q A z _ p0 _ ho1) (cwS 1 hts (gi_S wd_271 wd_272 wd_273 wd_274) rfl rfl rfl hdS_X3_needRegister ⟨Nat.le_of_ble_eq_true rfl, Nat.le_of_ble_eq_true rfl⟩) hK hP hD hT hS hA rfl hl.1 (Nat.le_of_ble_eq_true rfl) dX3_part_1 ⟨by show _ ≤ 9; omega, by show _ ≤ 24 + c0; omega⟩) (noTv) hS hD hK hE hlocks (by omega) (by omega)
  refine gcTv (gSx FX [.int p0] (c_wh_needRegister l hl0 G cL cZ Q A z _ p0 _ ho1) (cwS 1 hts (gi_S wd_271 wd_272 wd_273 wd_274) rfl rfl rfl hdS_X3_needRegister ⟨Nat.le_of_ble_eq_true rfl, Nat.le_of_ble_eq_true rfl⟩) hK hP hD hT hS hA rfl hl.1 (Nat.le_of_ble_eq_true rfl) dX3_part_1 ⟨by show _ ≤ 9; omega, by show _ ≤ 24 + c0; omega⟩) hS hD hA (fun H locs hP hS => ?_)
  refine lv_iload_n hx hb dX3_part_4 rfl (lv_at hl 2 rfl) ?_
  rcases of_bt hf with ⟨e9, ho2, hj⟩ | ⟨o9, ho2, hf⟩
  · obtain ⟨hc0, hj⟩ := of_pair hj
    subst hj
    exact goutX (gSx FX [.int p1] (c_wh_needRegister l hl0 G cL cZ Q A z _ p1 _ ho2) (cwS 1 hts (gi_S wd_271 wd_272 wd_273 wd_274) rfl rfl rfl hdS_X3_needRegister ⟨Nat.le_of_ble_eq_true rfl, Nat.le_of_ble_eq_true rfl⟩) hK hP hD hT hS hA rfl hl.1 (Nat.le_of_ble_eq_true rfl) dX3_part_5 ⟨by show _ ≤ 9; omega, by show _ ≤ 24 + c0; omega⟩) (noTv) hS hD hK hE hlocks (by omega) (by omega)
  refine gcTv (gSx FX [.int p1] (c_wh_needRegister l hl0 G cL cZ Q A z _ p1 _ ho2) (cwS 1 hts (gi_S wd_271 wd_272 wd_273 wd_274) rfl rfl rfl hdS_X3_needRegister ⟨Nat.le_of_ble_eq_true rfl, Nat.le_of_ble_eq_true rfl⟩) hK hP hD hT hS hA rfl hl.1 (Nat.le_of_ble_eq_true rfl) dX3_part_5 ⟨by show _ ≤ 9; omega, by show _ ≤ 24 + c0; omega⟩) hS hD hA (fun H locs hP hS => ?_)
  refine lv_aload_n hx hb dX3_part_8 rfl (lv_at hl 0 rfl) ?_
  refine lv_iload_n hx hb dX3_part_9 rfl (lv_at hl 2 rfl) ?_
  rcases of_bt hf with ⟨e9, ho3, hj⟩ | ⟨r3, ho3, hf⟩
  · obtain ⟨hc0, hj⟩ := of_pair hj
    subst hj
    exact goutX (gVx FX [.int p1] (c_wh_textIn l hl0 G cL cZ Q A z _ p1 _ ho3) (cwV 1 hts (gi_V wd_308 wd_309 wd_310 wd_273 wd_311) rfl rfl rfl hdV_X3_textIn ⟨Nat.le_of_ble_eq_true rfl, Nat.le_of_ble_eq_true rfl⟩) hK hP hD hT hS hA 0 rfl rfl rfl hl.1 (Nat.le_of_ble_eq_true rfl) dX3_part_10 ⟨by show _ ≤ 9; omega, by show _ ≤ 24 + c0; omega⟩) (noTi) hS hD hK hE hlocks (by omega) (by omega)
  refine gcTi (gVx FX [.int p1] (c_wh_textIn l hl0 G cL cZ Q A z _ p1 _ ho3) (cwV 1 hts (gi_V wd_308 wd_309 wd_310 wd_273 wd_311) rfl rfl rfl hdV_X3_textIn ⟨Nat.le_of_ble_eq_true rfl, Nat.le_of_ble_eq_true rfl⟩) hK hP hD hT hS hA 0 rfl rfl rfl hl.1 (Nat.le_of_ble_eq_true rfl) dX3_part_10 ⟨by show _ ≤ 9; omega, by show _ ≤ 24 + c0; omega⟩) hS hD hA (fun H locs hP hS => ?_)
  refine lv_istore (lv' := [(5, .int r3), (0, .ref (Q 0)), (1, .int p0), (2, .int p1), (3, .int p2), (4, .int p3)]) hx hb dX3_part_13 hl (by decide) rfl (fun ls hl => ?_)
  refine lv_iload_n hx hb dX3_part_15 rfl (lv_at hl 4 rfl) ?_
  refine lv_if_lt (tgt := 39) hx hb dX3_part_16 (by decide) (fun c4 => ?_) (fun c4 => ?_)
  · have hf := (if_pos c4).symm.trans hf
    obtain ⟨hc0, hj0⟩ := of_some2 hf
    subst hj0
    exact gthr0 (cls := "java/lang/IndexOutOfBoundsException") (names := ["java/lang/RuntimeException", "java/lang/Exception"]) (text := "no such part of the text") hx hb hl0 hown hts (by decide) (by decide) (.tail _ wd_312) (.tail _ wd_313) (by decide +kernel) (fun w h => .tail _ (tha_3 w h)) tht_3 (by decide +kernel) thg_3_92 hT hS (hl.1.trans hml.symm) dX3_part_39 dX3_part_42 dX3_part_43 dX3_part_45 dX3_part_48 hE (Nat.lt_of_succ_le (Nat.le_of_ble_eq_true rfl)) (Nat.le_of_ble_eq_true rfl) (by show _ ≤ 9; omega) (by show _ ≤ 24 + c0; omega) hlocks (gqX hP hK hD hS) hS.2.2 (by omega) (by omega)
  · have hf := (if_neg c4).symm.trans hf
    refine lv_iload hx hb dX3_part_19 (lv_at hl 5 rfl) ?_
    refine lv_iload_n hx hb dX3_part_21 rfl (lv_at hl 4 rfl) ?_
    refine lv_icmp_lt (tgt := 39) hx hb dX3_part_22 (by decide) (fun c5 => ?_) (fun c5 => ?_)
    · have hf := (if_pos c5).symm.trans hf
      obtain ⟨hc0, hj0⟩ := of_some2 hf
      subst hj0
      exact gthr0 (cls := "java/lang/IndexOutOfBoundsException") (names := ["java/lang/RuntimeException", "java/lang/Exception"]) (text := "no such part of the text") hx hb hl0 hown hts (by decide) (by decide) (.tail _ wd_312) (.tail _ wd_313) (by decide +kernel) (fun w h => .tail _ (tha_3 w h)) tht_3 (by decide +kernel) thg_3_92 hT hS (hl.1.trans hml.symm) dX3_part_39 dX3_part_42 dX3_part_43 dX3_part_45 dX3_part_48 hE (Nat.lt_of_succ_le (Nat.le_of_ble_eq_true rfl)) (Nat.le_of_ble_eq_true rfl) (by show _ ≤ 9; omega) (by show _ ≤ 24 + c0; omega) hlocks (gqX hP hK hD hS) hS.2.2 (by omega) (by omega)
    · have hf := (if_neg c5).symm.trans hf
      refine lv_iload hx hb dX3_part_25 (lv_at hl 5 rfl) ?_
      refine lv_aload_n hx hb dX3_part_27 rfl (lv_at hl 1 rfl) ?_
      refine va_get (D := G) (ci := 3) (v := .ref (Q 1)) (C := RX3) (T := TX3) (N := 3) hx hb hts (fun w h => .tail _ (wl_X3 w h)) hown hK hP 0 rfl rfl 0 (by decide) (hts _ (.tail _ wd_269)) (fun _ h9 => h9) rfl dX3_part_28 ?_
      refine lv_iload hx hb dX3_part_31 (lv_at hl 0 rfl) ?_
      obtain ⟨r6, ho6, hf⟩ := of_b0 hf
      refine gcRi (gV FX [.int r3] (c_hp_length l G cL cZ Q A z _ r3 _ ho6) (cwV 1 hts (gi_V wd_307 wd_61 wd_62 wd_7 wd_63) rfl rfl rfl hdV_X0_length ⟨Nat.le_of_ble_eq_true rfl, Nat.le_of_ble_eq_true rfl⟩) hK hP hD 1 rfl rfl rfl hl.1 (Nat.le_of_ble_eq_true rfl) dX3_part_33 ⟨by show _ ≤ 9; omega, by show _ ≤ 24 + c0; omega⟩) hS hD hA (fun H locs hP hS => ?_)
      refine lv_icmp_le (tgt := 49) hx hb dX3_part_36 (by decide) (fun c7 => ?_) (fun c7 => ?_)
      · have hf := (if_pos c7).symm.trans hf
        refine lv_aload_n hx hb dX3_part_49 rfl (lv_at hl 1 rfl) ?_
        refine lv_iload_n hx hb dX3_part_50 rfl (lv_at hl 2 rfl) ?_
        refine lv_aload_n hx hb dX3_part_51 rfl (lv_at hl 1 rfl) ?_
        refine va_get (D := G) (ci := 3) (v := .ref (Q 2)) (C := RX3) (T := TX3) (N := 3) hx hb hts (fun w h => .tail _ (wl_X3 w h)) hown hK hP 0 rfl rfl 1 (by decide) (hts _ (.tail _ wd_302)) (fun _ h9 => h9) rfl dX3_part_52 ?_
        refine lv_iload hx hb dX3_part_55 (lv_at hl 0 rfl) ?_
        refine lv_iload_n hx hb dX3_part_57 rfl (lv_at hl 4 rfl) ?_
        refine lv_iload hx hb dX3_part_58 (lv_at hl 5 rfl) ?_
        rcases of_bcwt hf with ⟨k8, z8, e9, ho8, hj⟩ | ⟨k8, z8, r8, d8, ho8, hf, ek8⟩
        · obtain ⟨hc0, hj⟩ := of_pair hj
          subst hj
          exact goutXX (gVx FX [.int r3, .int p2, .int p3] (c_tx_partOf l hl0 G cL cZ Q A z _ r3 p2 p3 k8 _ ho8) (cwV 3 hts (gi_V wd_314 wd_315 wd_316 wd_117 wd_317) rfl rfl rfl hdV_X2_partOf ⟨Nat.le_of_ble_eq_true rfl, Nat.le_of_ble_eq_true rfl⟩) hK hP hD hT hS hA 2 rfl rfl rfl hl.1 (Nat.le_of_ble_eq_true rfl) dX3_part_60 ⟨by show _ ≤ 9; omega, by show _ ≤ 24 + c0; omega⟩) (noXi) hS hD hK hE hlocks (by omega) (by omega)
        refine gcXi (gVx FX [.int r3, .int p2, .int p3] (c_tx_partOf l hl0 G cL cZ Q A z _ r3 p2 p3 k8 _ ho8) (cwV 3 hts (gi_V wd_314 wd_315 wd_316 wd_117 wd_317) rfl rfl rfl hdV_X2_partOf ⟨Nat.le_of_ble_eq_true rfl, Nat.le_of_ble_eq_true rfl⟩) hK hP hD hT hS hA 2 rfl rfl rfl hl.1 (Nat.le_of_ble_eq_true rfl) dX3_part_60 ⟨by show _ ≤ 9; omega, by show _ ≤ 24 + c0; omega⟩) hS hD hA (fun A H locs hP hD hS => ?_)
        obtain ⟨z9, r9, ho9, hf⟩ := of_bw hf
        refine gcWi (gV FX [.int p0, .int r8] (c_wh_hold l G cL cZ Q A z8 _ p0 r8 _ ho9) (cwV 2 hts (gi_V wd_284 wd_285 wd_286 wd_273 wd_287) rfl rfl rfl hdV_X3_hold ⟨Nat.le_of_ble_eq_true rfl, Nat.le_of_ble_eq_true rfl⟩) hK hP hD 0 rfl rfl rfl hl.1 (Nat.le_of_ble_eq_true rfl) dX3_part_63 ⟨by show _ ≤ 9; omega, by show _ ≤ 24 + c0; omega⟩) hS hD hA (fun A H locs hP hD hS => ?_)
        obtain ⟨hc0, hj0⟩ := of_some2 hf
        subst hj0
        exact grXi hx hb hr hlocks hP hK hD hS dX3_part_66 (by omega) (by omega)
      · have hf := (if_neg c7).symm.trans hf
        obtain ⟨hc0, hj0⟩ := of_some2 hf
        subst hj0
        exact gthr0 (cls := "java/lang/IndexOutOfBoundsException") (names := ["java/lang/RuntimeException", "java/lang/Exception"]) (text := "no such part of the text") hx hb hl0 hown hts (by decide) (by decide) (.tail _ wd_312) (.tail _ wd_313) (by decide +kernel) (fun w h => .tail _ (tha_3 w h)) tht_3 (by decide +kernel) thg_3_92 hT hS (hl.1.trans hml.symm) dX3_part_39 dX3_part_42 dX3_part_43 dX3_part_45 dX3_part_48 hE (Nat.lt_of_succ_le (Nat.le_of_ble_eq_true rfl)) (Nat.le_of_ble_eq_true rfl) (by show _ ≤ 9; omega) (by show _ ≤ 24 + c0; omega) hlocks (gqX hP hK hD hS) hS.2.2 (by omega) (by omega)
set_option maxHeartbeats 4000000 in
set_option maxRecDepth 100000 in
theorem c_wh_compare (l : Launch) (hl0 : l.stackTraces = false) (G : va_G) (cL cZ : ClassId) (Q : Nat → Nat) (A : Nat → Nat) (z : Hs) (sz : Nat) (p0 : Int32) (p1 : Int32) (O0 : (String ⊕ Int32)) (hf : wh_compare z p0 p1 = some O0) : vx_Met l yX3_compare vX3_compare { frames := 9, cells := 4, slots := 24, locals := 222 } (gPx txC G vwCl (ct cL cZ) [.ref (Q 0), .int p0, .int p1] (cw cL cZ Q A z) sz) (qTi G vwCl (ct cL cZ) (cw cL cZ Q A z) sz O0) (xT G vwCl (ct cL cZ) (cw cL cZ Q A z) sz O0) 4 24 (va_A (cw cL cZ Q A z) sz) := by
  refine gMetx (by decide) rfl (Nat.le_of_ble_eq_true rfl) ?_
  intro p e s m below meth c ls C hE hK hP hD hT hsz hl
  subst hsz
  obtain ⟨hx, hb, hr, hml, hown, hts, hlocks⟩ := id C
  have FX : CallFix p m c cX3_compare 5 s _ vX3_compare RX3 := ⟨hx, hb, hml, hown, hts⟩
  have hA : ∀ q9 : Nat, s.heap.size ≤ q9 → va_A (cw cL cZ Q A z) s.heap.size q9 := fun q9 h => Or.inr h
  have hS : va_S (va_A (cw cL cZ Q A z) s.heap.size) s.heap s.heap [] := va_S.rf
  have hl : lv_has ls 5 [(0, .ref (Q 0)), (1, .int p0), (2, .int p1)] := hl
  unfold wh_compare at hf
  refine lv_iload_n hx hb dX3_compare_0 rfl (lv_at hl 1 rfl) ?_
  rcases of_bt hf with ⟨e9, ho1, hj⟩ | ⟨o9, ho1, hf⟩
  · subst hj
    exact goutT (gSx FX [.int p0] (c_wh_needRegister l hl0 G cL cZ Q A z _ p0 _ ho1) (cwS 1 hts (gi_S wd_271 wd_272 wd_273 wd_274) rfl rfl rfl hdS_X3_needRegister ⟨Nat.le_of_ble_eq_true rfl, Nat.le_of_ble_eq_true rfl⟩) hK hP hD hT hS hA rfl hl.1 (Nat.le_of_ble_eq_true rfl) dX3_compare_1 ⟨by show _ ≤ 4; omega, by show _ ≤ 24; omega⟩) (noTv) hS hD hK hE hlocks (by omega) (by omega)
  refine gcTv (gSx FX [.int p0] (c_wh_needRegister l hl0 G cL cZ Q A z _ p0 _ ho1) (cwS 1 hts (gi_S wd_271 wd_272 wd_273 wd_274) rfl rfl rfl hdS_X3_needRegister ⟨Nat.le_of_ble_eq_true rfl, Nat.le_of_ble_eq_true rfl⟩) hK hP hD hT hS hA rfl hl.1 (Nat.le_of_ble_eq_true rfl) dX3_compare_1 ⟨by show _ ≤ 4; omega, by show _ ≤ 24; omega⟩) hS hD hA (fun H locs hP hS => ?_)
  refine lv_iload_n hx hb dX3_compare_4 rfl (lv_at hl 2 rfl) ?_
  rcases of_bt hf with ⟨e9, ho2, hj⟩ | ⟨o9, ho2, hf⟩
  · subst hj
    exact goutT (gSx FX [.int p1] (c_wh_needRegister l hl0 G cL cZ Q A z _ p1 _ ho2) (cwS 1 hts (gi_S wd_271 wd_272 wd_273 wd_274) rfl rfl rfl hdS_X3_needRegister ⟨Nat.le_of_ble_eq_true rfl, Nat.le_of_ble_eq_true rfl⟩) hK hP hD hT hS hA rfl hl.1 (Nat.le_of_ble_eq_true rfl) dX3_compare_5 ⟨by show _ ≤ 4; omega, by show _ ≤ 24; omega⟩) (noTv) hS hD hK hE hlocks (by omega) (by omega)
  refine gcTv (gSx FX [.int p1] (c_wh_needRegister l hl0 G cL cZ Q A z _ p1 _ ho2) (cwS 1 hts (gi_S wd_271 wd_272 wd_273 wd_274) rfl rfl rfl hdS_X3_needRegister ⟨Nat.le_of_ble_eq_true rfl, Nat.le_of_ble_eq_true rfl⟩) hK hP hD hT hS hA rfl hl.1 (Nat.le_of_ble_eq_true rfl) dX3_compare_5 ⟨by show _ ≤ 4; omega, by show _ ≤ 24; omega⟩) hS hD hA (fun H locs hP hS => ?_)
  refine lv_aload_n hx hb dX3_compare_8 rfl (lv_at hl 0 rfl) ?_
  refine lv_iload_n hx hb dX3_compare_9 rfl (lv_at hl 1 rfl) ?_
  rcases of_bt hf with ⟨e9, ho3, hj⟩ | ⟨r3, ho3, hf⟩
  · subst hj
    exact goutT (gVx FX [.int p0] (c_wh_textIn l hl0 G cL cZ Q A z _ p0 _ ho3) (cwV 1 hts (gi_V wd_308 wd_309 wd_310 wd_273 wd_311) rfl rfl rfl hdV_X3_textIn ⟨Nat.le_of_ble_eq_true rfl, Nat.le_of_ble_eq_true rfl⟩) hK hP hD hT hS hA 0 rfl rfl rfl hl.1 (Nat.le_of_ble_eq_true rfl) dX3_compare_10 ⟨by show _ ≤ 4; omega, by show _ ≤ 24; omega⟩) (noTi) hS hD hK hE hlocks (by omega) (by omega)
  refine gcTi (gVx FX [.int p0] (c_wh_textIn l hl0 G cL cZ Q A z _ p0 _ ho3) (cwV 1 hts (gi_V wd_308 wd_309 wd_310 wd_273 wd_311) rfl rfl rfl hdV_X3_textIn ⟨Nat.le_of_ble_eq_true rfl, Nat.le_of_ble_eq_true rfl⟩) hK hP hD hT hS hA 0 rfl rfl rfl hl.1 (Nat.le_of_ble_eq_true rfl) dX3_compare_10 ⟨by show _ ≤ 4; omega, by show _ ≤ 24; omega⟩) hS hD hA (fun H locs hP hS => ?_)
  refine lv_istore_n (lv' := [(3, .int r3), (0, .ref (Q 0)), (1, .int p0), (2, .int p1)]) hx hb dX3_compare_13 rfl hl (by decide) rfl (fun ls hl => ?_)
  refine lv_aload_n hx hb dX3_compare_14 rfl (lv_at hl 1 rfl) ?_
  refine lv_iload_n hx hb dX3_compare_15 rfl (lv_at hl 3 rfl) ?_
  rcases of_bt hf with ⟨e9, ho4, hj⟩ | ⟨r4, ho4, hf⟩
  · subst hj
    exact goutT (gVx FX [.int p1] (c_wh_textIn l hl0 G cL cZ Q A z _ p1 _ ho4) (cwV 1 hts (gi_V wd_308 wd_309 wd_310 wd_273 wd_311) rfl rfl rfl hdV_X3_textIn ⟨Nat.le_of_ble_eq_true rfl, Nat.le_of_ble_eq_true rfl⟩) hK hP hD hT hS hA 0 rfl rfl rfl hl.1 (Nat.le_of_ble_eq_true rfl) dX3_compare_16 ⟨by show _ ≤ 4; omega, by show _ ≤ 24; omega⟩) (noTi) hS hD hK hE hlocks (by omega) (by omega)
  refine gcTi (gVx FX [.int p1] (c_wh_textIn l hl0 G cL cZ Q A z _ p1 _ ho4) (cwV 1 hts (gi_V wd_308 wd_309 wd_310 wd_273 wd_311) rfl rfl rfl hdV_X3_textIn ⟨Nat.le_of_ble_eq_true rfl, Nat.le_of_ble_eq_true rfl⟩) hK hP hD hT hS hA 0 rfl rfl rfl hl.1 (Nat.le_of_ble_eq_true rfl) dX3_compare_16 ⟨by show _ ≤ 4; omega, by show _ ≤ 24; omega⟩) hS hD hA (fun H locs hP hS => ?_)
  refine lv_istore (lv' := [(4, .int r4), (3, .int r3), (0, .ref (Q 0)), (1, .int p0), (2, .int p1)]) hx hb dX3_compare_19 hl (by decide) rfl (fun ls hl => ?_)
  refine lv_aload_n hx hb dX3_compare_21 rfl (lv_at hl 2 rfl) ?_
  refine va_get (D := G) (ci := 3) (v := .ref (Q 2)) (C := RX3) (T := TX3) (N := 3) hx hb hts (fun w h => .tail _ (wl_X3 w h)) hown hK hP 0 rfl rfl 1 (by decide) (hts _ (.tail _ wd_302)) (fun _ h9 => h9) rfl dX3_compare_22 ?_
  refine lv_iload_n hx hb dX3_compare_25 rfl (lv_at hl 1 rfl) ?_
  refine lv_iload hx hb dX3_compare_26 (lv_at hl 0 rfl) ?_
  obtain ⟨r5, ho5, hf⟩ := of_b0 hf
  refine gcRi (gV FX [.int r3, .int r4] (c_tx_order l G cL cZ Q A z _ r3 r4 _ ho5) (cwV 2 hts (gi_V wd_318 wd_319 wd_320 wd_117 wd_321) rfl rfl rfl hdV_X2_order ⟨Nat.le_of_ble_eq_true rfl, Nat.le_of_ble_eq_true rfl⟩) hK hP hD 2 rfl rfl rfl hl.1 (Nat.le_of_ble_eq_true rfl) dX3_compare_28 ⟨by show _ ≤ 4; omega, by show _ ≤ 24; omega⟩) hS hD hA (fun H locs hP hS => ?_)
  obtain rfl := Option.some.inj hf
  exact grTi hx hb hr hlocks hP hK hD hS dX3_compare_31 (by omega) (by omega)
set_option maxHeartbeats 4000000 in
set_option maxRecDepth 100000 in
theorem c_wh_needByte (l : Launch) (hl0 : l.stackTraces = false) (G : va_G) (cL cZ : ClassId) (Q : Nat → Nat) (A : Nat → Nat) (z : Hs) (sz : Nat) (p0 : Int32) (p1 : Int32) (O0 : (String ⊕ Unit)) (hf : wh_needByte z p0 p1 = some O0) : vx_Met l yX3_needByte vX3_needByte { frames := 8, cells := 1, slots := 6, locals := 200 } (gPx txC G vwCl (ct cL cZ) [.ref (Q 0), .int p0, .int p1] (cw cL cZ Q A z) sz) (qTv G vwCl (ct cL cZ) (cw cL cZ Q A z) sz O0) (xT G vwCl (ct cL cZ) (cw cL cZ Q A z) sz O0) 1 6 (va_A (cw cL cZ Q A z) sz) := by
  refine gMetx (by decide) rfl (Nat.le_of_ble_eq_true rfl) ?_
  intro p e s m below meth c ls C hE hK hP hD hT hsz hl
  subst hsz
  obtain ⟨hx, hb, hr, hml, hown, hts, hlocks⟩ := id C
  have FX : CallFix p m c cX3_needByte 3 s _ vX3_needByte RX3 := ⟨hx, hb, hml, hown, hts⟩
  have hA : ∀ q9 : Nat, s.heap.size ≤ q9 → va_A (cw cL cZ Q A z) s.heap.size q9 := fun q9 h => Or.inr h
  have hS : va_S (va_A (cw cL cZ Q A z) s.heap.size) s.heap s.heap [] := va_S.rf
  have hl : lv_has ls 3 [(0, .ref (Q 0)), (1, .int p0), (2, .int p1)] := hl
  unfold wh_needByte at hf
  refine lv_iload_n hx hb dX3_needByte_0 rfl (lv_at hl 2 rfl) ?_
  refine lv_if_lt (tgt := 16) hx hb dX3_needByte_1 (by decide) (fun c1 => ?_) (fun c1 => ?_)
  · have hf := (if_pos c1).symm.trans hf
    obtain rfl := Option.some.inj hf
    exact gthr0 (cls := "java/lang/IndexOutOfBoundsException") (names := ["java/lang/RuntimeException", "java/lang/Exception"]) (text := "no such byte") hx hb hl0 hown hts (by decide) (by decide) (.tail _ wd_312) (.tail _ wd_313) (by decide +kernel) (fun w h => .tail _ (tha_3 w h)) tht_3 (by decide +kernel) thg_3_92 hT hS (hl.1.trans hml.symm) dX3_needByte_16 dX3_needByte_19 dX3_needByte_20 dX3_needByte_22 dX3_needByte_25 hE (Nat.lt_of_succ_le (Nat.le_of_ble_eq_true rfl)) (Nat.le_of_ble_eq_true rfl) (by show _ ≤ 1; omega) (by show _ ≤ 6; omega) hlocks (gqT hP hK hD hS) hS.2.2 (by omega) (by omega)
  · have hf := (if_neg c1).symm.trans hf
    refine lv_iload_n hx hb dX3_needByte_4 rfl (lv_at hl 2 rfl) ?_
    refine lv_aload_n hx hb dX3_needByte_5 rfl (lv_at hl 0 rfl) ?_
    refine va_get (D := G) (ci := 3) (v := .ref (Q 1)) (C := RX3) (T := TX3) (N := 3) hx hb hts (fun w h => .tail _ (wl_X3 w h)) hown hK hP 0 rfl rfl 0 (by decide) (hts _ (.tail _ wd_269)) (fun _ h9 => h9) rfl dX3_needByte_6 ?_
    refine lv_iload_n hx hb dX3_needByte_9 rfl (lv_at hl 1 rfl) ?_
    obtain ⟨r2, ho2, hf⟩ := of_b0 hf
    refine gcRi (gV FX [.int p0] (c_hp_length l G cL cZ Q A z _ p0 _ ho2) (cwV 1 hts (gi_V wd_307 wd_61 wd_62 wd_7 wd_63) rfl rfl rfl hdV_X0_length ⟨Nat.le_of_ble_eq_true rfl, Nat.le_of_ble_eq_true rfl⟩) hK hP hD 1 rfl rfl rfl hl.1 (Nat.le_of_ble_eq_true rfl) dX3_needByte_10 ⟨by show _ ≤ 1; omega, by show _ ≤ 6; omega⟩) hS hD hA (fun H locs hP hS => ?_)
    refine lv_icmp_lt (tgt := 26) hx hb dX3_needByte_13 (by decide) (fun c3 => ?_) (fun c3 => ?_)
    · have hf := (if_pos c3).symm.trans hf
      obtain rfl := Option.some.inj hf
      exact grTv hx hb hr hlocks hP hK hD hS dX3_needByte_26 (by omega) (by omega)
    · have hf := (if_neg c3).symm.trans hf
      obtain rfl := Option.some.inj hf
      exact gthr0 (cls := "java/lang/IndexOutOfBoundsException") (names := ["java/lang/RuntimeException", "java/lang/Exception"]) (text := "no such byte") hx hb hl0 hown hts (by decide) (by decide) (.tail _ wd_312) (.tail _ wd_313) (by decide +kernel) (fun w h => .tail _ (tha_3 w h)) tht_3 (by decide +kernel) thg_3_92 hT hS (hl.1.trans hml.symm) dX3_needByte_16 dX3_needByte_19 dX3_needByte_20 dX3_needByte_22 dX3_needByte_25 hE (Nat.lt_of_succ_le (Nat.le_of_ble_eq_true rfl)) (Nat.le_of_ble_eq_true rfl) (by show _ ≤ 1; omega) (by show _ ≤ 6; omega) hlocks (gqT hP hK hD hS) hS.2.2 (by omega) (by omega)
set_option maxHeartbeats 4000000 in
set_option maxRecDepth 100000 in
theorem c_wh_byteAt (l : Launch) (hl0 : l.stackTraces = false) (G : va_G) (cL cZ : ClassId) (Q : Nat → Nat) (A : Nat → Nat) (z : Hs) (sz : Nat) (p0 : Int32) (p1 : Int32) (O0 : (String ⊕ Int32)) (hf : wh_byteAt z p0 p1 = some O0) : vx_Met l yX3_byteAt vX3_byteAt { frames := 9, cells := 3, slots := 18, locals := 222 } (gPx txC G vwCl (ct cL cZ) [.ref (Q 0), .int p0, .int p1] (cw cL cZ Q A z) sz) (qTi G vwCl (ct cL cZ) (cw cL cZ Q A z) sz O0) (xT G vwCl (ct cL cZ) (cw cL cZ Q A z) sz O0) 3 18 (va_A (cw cL cZ Q A z) sz) := by
  refine gMetx (by decide) rfl (Nat.le_of_ble_eq_true rfl) ?_
  intro p e s m below meth c ls C hE hK hP hD hT hsz hl
  subst hsz
  obtain ⟨hx, hb, hr, hml, hown, hts, hlocks⟩ := id C
  have FX : CallFix p m c cX3_byteAt 4 s _ vX3_byteAt RX3 := ⟨hx, hb, hml, hown, hts⟩
  have hA : ∀ q9 : Nat, s.heap.size ≤ q9 → va_A (cw cL cZ Q A z) s.heap.size q9 := fun q9 h => Or.inr h
  have hS : va_S (va_A (cw cL cZ Q A z) s.heap.size) s.heap s.heap [] := va_S.rf
  have hl : lv_has ls 4 [(0, .ref (Q 0)), (1, .int p0), (2, .int p1)] := hl
  unfold wh_byteAt at hf
  refine lv_iload_n hx hb dX3_byteAt_0 rfl (lv_at hl 1 rfl) ?_
  rcases of_bt hf with ⟨e9, ho1, hj⟩ | ⟨o9, ho1, hf⟩
  · subst hj
    exact goutT (gSx FX [.int p0] (c_wh_needRegister l hl0 G cL cZ Q A z _ p0 _ ho1) (cwS 1 hts (gi_S wd_271 wd_272 wd_273 wd_274) rfl rfl rfl hdS_X3_needRegister ⟨Nat.le_of_ble_eq_true rfl, Nat.le_of_ble_eq_true rfl⟩) hK hP hD hT hS hA rfl hl.1 (Nat.le_of_ble_eq_true rfl) dX3_byteAt_1 ⟨by show _ ≤ 3; omega, by show _ ≤ 18; omega⟩) (noTv) hS hD hK hE hlocks (by omega) (by omega)
  refine gcTv (gSx FX [.int p0] (c_wh_needRegister l hl0 G cL cZ Q A z _ p0 _ ho1) (cwS 1 hts (gi_S wd_271 wd_272 wd_273 wd_274) rfl rfl rfl hdS_X3_needRegister ⟨Nat.le_of_ble_eq_true rfl, Nat.le_of_ble_eq_true rfl⟩) hK hP hD hT hS hA rfl hl.1 (Nat.le_of_ble_eq_true rfl) dX3_byteAt_1 ⟨by show _ ≤ 3; omega, by show _ ≤ 18; omega⟩) hS hD hA (fun H locs hP hS => ?_)
  refine lv_aload_n hx hb dX3_byteAt_4 rfl (lv_at hl 0 rfl) ?_
  refine lv_iload_n hx hb dX3_byteAt_5 rfl (lv_at hl 1 rfl) ?_
  rcases of_bt hf with ⟨e9, ho2, hj⟩ | ⟨r2, ho2, hf⟩
  · subst hj
    exact goutT (gVx FX [.int p0] (c_wh_textIn l hl0 G cL cZ Q A z _ p0 _ ho2) (cwV 1 hts (gi_V wd_308 wd_309 wd_310 wd_273 wd_311) rfl rfl rfl hdV_X3_textIn ⟨Nat.le_of_ble_eq_true rfl, Nat.le_of_ble_eq_true rfl⟩) hK hP hD hT hS hA 0 rfl rfl rfl hl.1 (Nat.le_of_ble_eq_true rfl) dX3_byteAt_6 ⟨by show _ ≤ 3; omega, by show _ ≤ 18; omega⟩) (noTi) hS hD hK hE hlocks (by omega) (by omega)
  refine gcTi (gVx FX [.int p0] (c_wh_textIn l hl0 G cL cZ Q A z _ p0 _ ho2) (cwV 1 hts (gi_V wd_308 wd_309 wd_310 wd_273 wd_311) rfl rfl rfl hdV_X3_textIn ⟨Nat.le_of_ble_eq_true rfl, Nat.le_of_ble_eq_true rfl⟩) hK hP hD hT hS hA 0 rfl rfl rfl hl.1 (Nat.le_of_ble_eq_true rfl) dX3_byteAt_6 ⟨by show _ ≤ 3; omega, by show _ ≤ 18; omega⟩) hS hD hA (fun H locs hP hS => ?_)
  refine lv_istore_n (lv' := [(3, .int r2), (0, .ref (Q 0)), (1, .int p0), (2, .int p1)]) hx hb dX3_byteAt_9 rfl hl (by decide) rfl (fun ls hl => ?_)
  refine lv_aload_n hx hb dX3_byteAt_10 rfl (lv_at hl 1 rfl) ?_
  refine lv_iload_n hx hb dX3_byteAt_11 rfl (lv_at hl 0 rfl) ?_
  refine lv_iload_n hx hb dX3_byteAt_12 rfl (lv_at hl 3 rfl) ?_
  rcases of_bt hf with ⟨e9, ho3, hj⟩ | ⟨o9, ho3, hf⟩
  · subst hj
    exact goutT (gVx FX [.int r2, .int p1] (c_wh_needByte l hl0 G cL cZ Q A z _ r2 p1 _ ho3) (cwV 2 hts (gi_V wd_326 wd_327 wd_328 wd_273 wd_329) rfl rfl rfl hdV_X3_needByte ⟨Nat.le_of_ble_eq_true rfl, Nat.le_of_ble_eq_true rfl⟩) hK hP hD hT hS hA 0 rfl rfl rfl hl.1 (Nat.le_of_ble_eq_true rfl) dX3_byteAt_13 ⟨by show _ ≤ 3; omega, by show _ ≤ 18; omega⟩) (noTv) hS hD hK hE hlocks (by omega) (by omega)
  refine gcTv (gVx FX [.int r2, .int p1] (c_wh_needByte l hl0 G cL cZ Q A z _ r2 p1 _ ho3) (cwV 2 hts (gi_V wd_326 wd_327 wd_328 wd_273 wd_329) rfl rfl rfl hdV_X3_needByte ⟨Nat.le_of_ble_eq_true rfl, Nat.le_of_ble_eq_true rfl⟩) hK hP hD hT hS hA 0 rfl rfl rfl hl.1 (Nat.le_of_ble_eq_true rfl) dX3_byteAt_13 ⟨by show _ ≤ 3; omega, by show _ ≤ 18; omega⟩) hS hD hA (fun H locs hP hS => ?_)
  refine lv_aload_n hx hb dX3_byteAt_16 rfl (lv_at hl 1 rfl) ?_
  refine va_get (D := G) (ci := 3) (v := .ref (Q 2)) (C := RX3) (T := TX3) (N := 3) hx hb hts (fun w h => .tail _ (wl_X3 w h)) hown hK hP 0 rfl rfl 1 (by decide) (hts _ (.tail _ wd_302)) (fun _ h9 => h9) rfl dX3_byteAt_17 ?_
  refine lv_iload_n hx hb dX3_byteAt_20 rfl (lv_at hl 0 rfl) ?_
  refine lv_iload_n hx hb dX3_byteAt_21 rfl (lv_at hl 3 rfl) ?_
  obtain ⟨r4, ho4, hf⟩ := of_b0 hf
  refine gcRi (gV FX [.int r2, .int p1] (c_tx_byteOf l G cL cZ Q A z _ r2 p1 _ ho4) (cwV 2 hts (gi_V wd_322 wd_323 wd_324 wd_117 wd_325) rfl rfl rfl hdV_X2_byteOf ⟨Nat.le_of_ble_eq_true rfl, Nat.le_of_ble_eq_true rfl⟩) hK hP hD 2 rfl rfl rfl hl.1 (Nat.le_of_ble_eq_true rfl) dX3_byteAt_22 ⟨by show _ ≤ 3; omega, by show _ ≤ 18; omega⟩) hS hD hA (fun H locs hP hS => ?_)
  obtain rfl := Option.some.inj hf
  exact grTi hx hb hr hlocks hP hK hD hS dX3_byteAt_25 (by omega) (by omega)
set_option maxHeartbeats 4000000 in
set_option maxRecDepth 100000 in
theorem c_wh_setByte (l : Launch) (hl0 : l.stackTraces = false) (G : va_G) (cL cZ : ClassId) (Q : Nat → Nat) (A : Nat → Nat) (z : Hs) (sz : Nat) (p0 : Int32) (p1 : Int32) (p2 : Int32) (O0 : Hs × (String ⊕ Unit)) (hf : wh_setByte z p0 p1 p2 = some O0) : vx_Met l yX3_setByte vX3_setByte { frames := 9, cells := 3, slots := 18, locals := 222 } (gPx txC G vwCl (ct cL cZ) [.ref (Q 0), .int p0, .int p1, .int p2] (cw cL cZ Q A z) sz) (qXv G vwCl (ct cL cZ) (cw cL cZ Q A z) sz (cw cL cZ Q) O0) (xX G vwCl (ct cL cZ) (cw cL cZ Q A z) sz (cw cL cZ Q) O0) 3 18 (va_A (cw cL cZ Q A z) sz) := by
  refine gMetx (by decide) rfl (Nat.le_of_ble_eq_true rfl) ?_
  intro p e s m below meth c ls C hE hK hP hD hT hsz hl
  subst hsz
  obtain ⟨hx, hb, hr, hml, hown, hts, hlocks⟩ := id C
  have FX : CallFix p m c cX3_setByte 5 s _ vX3_setByte RX3 := ⟨hx, hb, hml, hown, hts⟩
  have hA : ∀ q9 : Nat, s.heap.size ≤ q9 → va_A (cw cL cZ Q A z) s.heap.size q9 := fun q9 h => Or.inr h
  have hS : va_S (va_A (cw cL cZ Q A z) s.heap.size) s.heap s.heap [] := va_S.rf
  have hl : lv_has ls 5 [(0, .ref (Q 0)), (1, .int p0), (2, .int p1), (3, .int p2)] := hl
  unfold wh_setByte at hf
  refine lv_iload_n hx hb dX3_setByte_0 rfl (lv_at hl 1 rfl) ?_
  rcases of_bt hf with ⟨e9, ho1, hj⟩ | ⟨o9, ho1, hf⟩
  · subst hj
    exact goutX (gSx FX [.int p0] (c_wh_needRegister l hl0 G cL cZ Q A z _ p0 _ ho1) (cwS 1 hts (gi_S wd_271 wd_272 wd_273 wd_274) rfl rfl rfl hdS_X3_needRegister ⟨Nat.le_of_ble_eq_true rfl, Nat.le_of_ble_eq_true rfl⟩) hK hP hD hT hS hA rfl hl.1 (Nat.le_of_ble_eq_true rfl) dX3_setByte_1 ⟨by show _ ≤ 3; omega, by show _ ≤ 18; omega⟩) (noTv) hS hD hK hE hlocks (by omega) (by omega)
  refine gcTv (gSx FX [.int p0] (c_wh_needRegister l hl0 G cL cZ Q A z _ p0 _ ho1) (cwS 1 hts (gi_S wd_271 wd_272 wd_273 wd_274) rfl rfl rfl hdS_X3_needRegister ⟨Nat.le_of_ble_eq_true rfl, Nat.le_of_ble_eq_true rfl⟩) hK hP hD hT hS hA rfl hl.1 (Nat.le_of_ble_eq_true rfl) dX3_setByte_1 ⟨by show _ ≤ 3; omega, by show _ ≤ 18; omega⟩) hS hD hA (fun H locs hP hS => ?_)
  refine lv_aload_n hx hb dX3_setByte_4 rfl (lv_at hl 0 rfl) ?_
  refine lv_iload_n hx hb dX3_setByte_5 rfl (lv_at hl 1 rfl) ?_
  rcases of_bt hf with ⟨e9, ho2, hj⟩ | ⟨r2, ho2, hf⟩
  · subst hj
    exact goutX (gVx FX [.int p0] (c_wh_textIn l hl0 G cL cZ Q A z _ p0 _ ho2) (cwV 1 hts (gi_V wd_308 wd_309 wd_310 wd_273 wd_311) rfl rfl rfl hdV_X3_textIn ⟨Nat.le_of_ble_eq_true rfl, Nat.le_of_ble_eq_true rfl⟩) hK hP hD hT hS hA 0 rfl rfl rfl hl.1 (Nat.le_of_ble_eq_true rfl) dX3_setByte_6 ⟨by show _ ≤ 3; omega, by show _ ≤ 18; omega⟩) (noTi) hS hD hK hE hlocks (by omega) (by omega)
  refine gcTi (gVx FX [.int p0] (c_wh_textIn l hl0 G cL cZ Q A z _ p0 _ ho2) (cwV 1 hts (gi_V wd_308 wd_309 wd_310 wd_273 wd_311) rfl rfl rfl hdV_X3_textIn ⟨Nat.le_of_ble_eq_true rfl, Nat.le_of_ble_eq_true rfl⟩) hK hP hD hT hS hA 0 rfl rfl rfl hl.1 (Nat.le_of_ble_eq_true rfl) dX3_setByte_6 ⟨by show _ ≤ 3; omega, by show _ ≤ 18; omega⟩) hS hD hA (fun H locs hP hS => ?_)
  refine lv_istore (lv' := [(4, .int r2), (0, .ref (Q 0)), (1, .int p0), (2, .int p1), (3, .int p2)]) hx hb dX3_setByte_9 hl (by decide) rfl (fun ls hl => ?_)
  refine lv_aload_n hx hb dX3_setByte_11 rfl (lv_at hl 1 rfl) ?_
  refine va_get (D := G) (ci := 3) (v := .ref (Q 1)) (C := RX3) (T := TX3) (N := 3) hx hb hts (fun w h => .tail _ (wl_X3 w h)) hown hK hP 0 rfl rfl 0 (by decide) (hts _ (.tail _ wd_269)) (fun _ h9 => h9) rfl dX3_setByte_12 ?_
  refine lv_iload hx hb dX3_setByte_15 (lv_at hl 0 rfl) ?_
  obtain ⟨r3, ho3, hf⟩ := of_b0 hf
  refine gcRi (gV FX [.int r2] (c_hp_isFrozen l G cL cZ Q A z _ r2 _ ho3) (cwV 1 hts (gi_V wd_334 wd_335 wd_336 wd_7 wd_337) rfl rfl rfl hdV_X0_isFrozen ⟨Nat.le_of_ble_eq_true rfl, Nat.le_of_ble_eq_true rfl⟩) hK hP hD 1 rfl rfl rfl hl.1 (Nat.le_of_ble_eq_true rfl) dX3_setByte_17 ⟨by show _ ≤ 3; omega, by show _ ≤ 18; omega⟩) hS hD hA (fun H locs hP hS => ?_)
  refine lv_if_eq (tgt := 33) hx hb dX3_setByte_20 (by decide) (fun c4 => ?_) (fun c4 => ?_)
  · have hf := (if_pos c4).symm.trans hf
    refine lv_aload_n hx hb dX3_setByte_33 rfl (lv_at hl 1 rfl) ?_
    refine lv_iload hx hb dX3_setByte_34 (lv_at hl 0 rfl) ?_
    refine lv_iload_n hx hb dX3_setByte_36 rfl (lv_at hl 3 rfl) ?_
    rcases of_bt hf with ⟨e9, ho5, hj⟩ | ⟨o9, ho5, hf⟩
    · subst hj
      exact goutX (gVx FX [.int r2, .int p1] (c_wh_needByte l hl0 G cL cZ Q A z _ r2 p1 _ ho5) (cwV 2 hts (gi_V wd_326 wd_327 wd_328 wd_273 wd_329) rfl rfl rfl hdV_X3_needByte ⟨Nat.le_of_ble_eq_true rfl, Nat.le_of_ble_eq_true rfl⟩) hK hP hD hT hS hA 0 rfl rfl rfl hl.1 (Nat.le_of_ble_eq_true rfl) dX3_setByte_37 ⟨by show _ ≤ 3; omega, by show _ ≤ 18; omega⟩) (noTv) hS hD hK hE hlocks (by omega) (by omega)
    refine gcTv (gVx FX [.int r2, .int p1] (c_wh_needByte l hl0 G cL cZ Q A z _ r2 p1 _ ho5) (cwV 2 hts (gi_V wd_326 wd_327 wd_328 wd_273 wd_329) rfl rfl rfl hdV_X3_needByte ⟨Nat.le_of_ble_eq_true rfl, Nat.le_of_ble_eq_true rfl⟩) hK hP hD hT hS hA 0 rfl rfl rfl hl.1 (Nat.le_of_ble_eq_true rfl) dX3_setByte_37 ⟨by show _ ≤ 3; omega, by show _ ≤ 18; omega⟩) hS hD hA (fun H locs hP hS => ?_)
    refine lv_aload_n hx hb dX3_setByte_40 rfl (lv_at hl 1 rfl) ?_
    refine va_get (D := G) (ci := 3) (v := .ref (Q 2)) (C := RX3) (T := TX3) (N := 3) hx hb hts (fun w h => .tail _ (wl_X3 w h)) hown hK hP 0 rfl rfl 1 (by decide) (hts _ (.tail _ wd_302)) (fun _ h9 => h9) rfl dX3_setByte_41 ?_
    refine lv_iload hx hb dX3_setByte_44 (lv_at hl 0 rfl) ?_
    refine lv_iload_n hx hb dX3_setByte_46 rfl (lv_at hl 3 rfl) ?_
    refine lv_iload_n hx hb dX3_setByte_47 rfl (lv_at hl 4 rfl) ?_
    obtain ⟨z6, o9, ho6, hf⟩ := of_bw hf
    refine gcWv (gV FX [.int r2, .int p1, .int p2] (c_tx_changeByte l G cL cZ Q A z _ r2 p1 p2 _ ho6) (cwV 3 hts (gi_V wd_330 wd_331 wd_332 wd_117 wd_333) rfl rfl rfl hdV_X2_changeByte ⟨Nat.le_of_ble_eq_true rfl, Nat.le_of_ble_eq_true rfl⟩) hK hP hD 2 rfl rfl rfl hl.1 (Nat.le_of_ble_eq_true rfl) dX3_setByte_48 ⟨by show _ ≤ 3; omega, by show _ ≤ 18; omega⟩) hS hD hA (fun A H locs hP hD hS => ?_)
    obtain rfl := Option.some.inj hf
    exact grXv hx hb hr hlocks hP hK hD hS dX3_setByte_51 (by omega) (by omega)
  · have hf := (if_neg c4).symm.trans hf
    obtain rfl := Option.some.inj hf
    exact gthr0 (cls := "java/lang/UnsupportedOperationException") (names := ["java/lang/RuntimeException", "java/lang/Exception"]) (text := "the text was in a key") hx hb hl0 hown hts (by decide) (by decide) (.tail _ wd_299) (.tail _ wd_300) (by decide +kernel) (fun w h => .tail _ (tha_2 w h)) tht_2 (by decide +kernel) thg_2_82 hT hS (hl.1.trans hml.symm) dX3_setByte_23 dX3_setByte_26 dX3_setByte_27 dX3_setByte_29 dX3_setByte_32 hE (Nat.lt_of_succ_le (Nat.le_of_ble_eq_true rfl)) (Nat.le_of_ble_eq_true rfl) (by show _ ≤ 3; omega) (by show _ ≤ 18; omega) hlocks (gqX hP hK hD hS) hS.2.2 (by omega) (by omega)
set_option maxHeartbeats 4000000 in
set_option maxRecDepth 100000 in
theorem c_wh_rowIn (l : Launch) (hl0 : l.stackTraces = false) (G : va_G) (cL cZ : ClassId) (Q : Nat → Nat) (A : Nat → Nat) (z : Hs) (sz : Nat) (p0 : Int32) (O0 : (String ⊕ Int32)) (hf : wh_rowIn z p0 = some O0) : vx_Met l yX3_rowIn vX3_rowIn { frames := 8, cells := 1, slots := 6, locals := 200 } (gPx txC G vwCl (ct cL cZ) [.ref (Q 0), .int p0] (cw cL cZ Q A z) sz) (qTi G vwCl (ct cL cZ) (cw cL cZ Q A z) sz O0) (xT G vwCl (ct cL cZ) (cw cL cZ Q A z) sz O0) 1 6 (va_A (cw cL cZ Q A z) sz) := by
  refine gMetx (by decide) rfl (Nat.le_of_ble_eq_true rfl) ?_
  intro p e s m below meth c ls C hE hK hP hD hT hsz hl
  subst hsz
  obtain ⟨hx, hb, hr, hml, hown, hts, hlocks⟩ := id C
  have FX : CallFix p m c cX3_rowIn 2 s _ vX3_rowIn RX3 := ⟨hx, hb, hml, hown, hts⟩
  have hA : ∀ q9 : Nat, s.heap.size ≤ q9 → va_A (cw cL cZ Q A z) s.heap.size q9 := fun q9 h => Or.inr h
  have hS : va_S (va_A (cw cL cZ Q A z) s.heap.size) s.heap s.heap [] := va_S.rf
  have hl : lv_has ls 2 [(0, .ref (Q 0)), (1, .int p0)] := hl
  unfold wh_rowIn at hf
  refine lv_aload_n hx hb dX3_rowIn_0 rfl (lv_at hl 0 rfl) ?_
  refine va_get (D := G) (ci := 3) (v := .ref (Q 1)) (C := RX3) (T := TX3) (N := 3) hx hb hts (fun w h => .tail _ (wl_X3 w h)) hown hK hP 0 rfl rfl 0 (by decide) (hts _ (.tail _ wd_269)) (fun _ h9 => h9) rfl dX3_rowIn_1 ?_
  refine lv_iload_n hx hb dX3_rowIn_4 rfl (lv_at hl 1 rfl) ?_
  obtain ⟨r1, ho1, hf⟩ := of_b0 hf
  refine gcRi (gV FX [.int p0] (c_hp_kindAt l G cL cZ Q A z _ p0 _ ho1) (cwV 1 hts (gi_V wd_301 wd_187 wd_188 wd_7 wd_189) rfl rfl rfl hdV_X0_kindAt ⟨Nat.le_of_ble_eq_true rfl, Nat.le_of_ble_eq_true rfl⟩) hK hP hD 1 rfl rfl rfl hl.1 (Nat.le_of_ble_eq_true rfl) dX3_rowIn_5 ⟨by show _ ≤ 1; omega, by show _ ≤ 6; omega⟩) hS hD hA (fun H locs hP hS => ?_)
  refine lv_iconst (v := 2) hx hb dX3_rowIn_8 (by decide) ?_
  refine lv_icmp_eq (tgt := 22) hx hb dX3_rowIn_9 (by decide) (fun c2 => ?_) (fun c2 => ?_)
  · have hf := (if_pos c2).symm.trans hf
    refine lv_aload_n hx hb dX3_rowIn_22 rfl (lv_at hl 0 rfl) ?_
    refine va_get (D := G) (ci := 3) (v := .ref (Q 1)) (C := RX3) (T := TX3) (N := 3) hx hb hts (fun w h => .tail _ (wl_X3 w h)) hown hK hP 0 rfl rfl 0 (by decide) (hts _ (.tail _ wd_269)) (fun _ h9 => h9) rfl dX3_rowIn_23 ?_
    refine lv_iload_n hx hb dX3_rowIn_26 rfl (lv_at hl 1 rfl) ?_
    obtain ⟨r3, ho3, hf⟩ := of_b0 hf
    refine gcRi (gV FX [.int p0] (c_hp_handleAt l G cL cZ Q A z _ p0 _ ho3) (cwV 1 hts (gi_V wd_298 wd_14 wd_15 wd_7 wd_16) rfl rfl rfl hdV_X0_handleAt ⟨Nat.le_of_ble_eq_true rfl, Nat.le_of_ble_eq_true rfl⟩) hK hP hD 1 rfl rfl rfl hl.1 (Nat.le_of_ble_eq_true rfl) dX3_rowIn_27 ⟨by show _ ≤ 1; omega, by show _ ≤ 6; omega⟩) hS hD hA (fun H locs hP hS => ?_)
    obtain rfl := Option.some.inj hf
    exact grTi hx hb hr hlocks hP hK hD hS dX3_rowIn_30 (by omega) (by omega)
  · have hf := (if_neg c2).symm.trans hf
    obtain rfl := Option.some.inj hf
    exact gthr0 (cls := "java/lang/UnsupportedOperationException") (names := ["java/lang/RuntimeException", "java/lang/Exception"]) (text := "no row") hx hb hl0 hown hts (by decide) (by decide) (.tail _ wd_299) (.tail _ wd_300) (by decide +kernel) (fun w h => .tail _ (tha_2 w h)) tht_2 (by decide +kernel) thg_2_82 hT hS (hl.1.trans hml.symm) dX3_rowIn_12 dX3_rowIn_15 dX3_rowIn_16 dX3_rowIn_18 dX3_rowIn_21 hE (Nat.lt_of_succ_le (Nat.le_of_ble_eq_true rfl)) (Nat.le_of_ble_eq_true rfl) (by show _ ≤ 1; omega) (by show _ ≤ 6; omega) hlocks (gqT hP hK hD hS) hS.2.2 (by omega) (by omega)
