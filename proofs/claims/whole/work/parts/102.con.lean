set_option maxHeartbeats 4000000 in
set_option maxRecDepth 100000 in
theorem c_hp_claim (l : Launch) (hl0 : l.stackTraces = false) (G : va_G) (cL cZ : ClassId) (Q : Nat → Nat) (A : Nat → Nat) (z : Hs) (sz : Nat) (p0 : Int32) (p1 : Int32) (c0 : Nat) (O0 : Hs × (String ⊕ Int32)) (hf : hp_claim z p0 p1 = some (c0, O0)) : vx_Met l yX0_claim vX0_claim { frames := 9, cells := 6, slots := 6 + c0, locals := 221 } (gPx txC G vwCl (ct cL cZ) [.ref (Q 1), .int p0, .int p1] (cw cL cZ Q A z) sz) (qXi G vwCl (ct cL cZ) (cw cL cZ Q A z) sz (cw cL cZ Q) O0) (xX G vwCl (ct cL cZ) (cw cL cZ Q A z) sz (cw cL cZ Q) O0) 6 (6 + c0) (va_A (cw cL cZ Q A z) sz) := by
  refine gMetx (by decide) rfl (Nat.le_of_ble_eq_true rfl) ?_
  intro p e s m below meth c ls C hE hK hP hD hT hsz hl
  subst hsz
  obtain ⟨hx, hb, hr, hml, hown, hts, hlocks⟩ := id C
  have FX : CallFix p m c cX0_claim 3 s _ vX0_claim RX0 := ⟨hx, hb, hml, hown, hts⟩
  have hA : ∀ q9 : Nat, s.heap.size ≤ q9 → va_A (cw cL cZ Q A z) s.heap.size q9 := fun q9 h => Or.inr h
  have hS : va_S (va_A (cw cL cZ Q A z) s.heap.size) s.heap s.heap [] := va_S.rf
  have hl : lv_has ls 3 [(0, .ref (Q 1)), (1, .int p0), (2, .int p1)] := hl
  unfold hp_claim at hf
  refine lv_aload_n hx hb dX0_claim_0 rfl (lv_at hl 0 rfl) ?_
  refine lv_iload_n hx hb dX0_claim_1 rfl (lv_at hl 1 rfl) ?_
  refine lv_iload_n hx hb dX0_claim_2 rfl (lv_at hl 2 rfl) ?_
  obtain ⟨r1, ho1, hf⟩ := of_b0 hf
  refine gcRi (gS FX [.int p0, .int p1] (c_hp_sizeOf l G cL cZ Q A z _ p0 p1 _ ho1) (cwS 2 hts (gi_S wd_52 wd_53 wd_7 wd_54) rfl rfl rfl hdS_X0_sizeOf ⟨Nat.le_of_ble_eq_true rfl, Nat.le_of_ble_eq_true rfl⟩) hK hP hD rfl hl.1 (Nat.le_of_ble_eq_true rfl) dX0_claim_3 ⟨by show _ ≤ 6; omega, by show _ ≤ 6 + c0; omega⟩) hS hD hA (fun H locs hP hS => ?_)
  rcases of_bwt hf with ⟨z2, e9, ho2, hj⟩ | ⟨z2, o9, ho2, hf⟩
  · obtain ⟨hc0, hj⟩ := of_pair hj
    subst hj
    exact goutXX (gVx FX [.int r1] (c_hp_needRoom l hl0 G cL cZ Q A z _ r1 _ ho2) (cwV 1 hts (gi_V wd_98 wd_99 wd_100 wd_7 wd_101) rfl rfl rfl hdV_X0_needRoom ⟨Nat.le_of_ble_eq_true rfl, Nat.le_of_ble_eq_true rfl⟩) hK hP hD hT hS hA 1 rfl rfl rfl hl.1 (Nat.le_of_ble_eq_true rfl) dX0_claim_6 ⟨by show _ ≤ 6; omega, by show _ ≤ 6 + c0; omega⟩) (noXv) hS hD hK hE hlocks (by omega) (by omega)
  refine gcXv (gVx FX [.int r1] (c_hp_needRoom l hl0 G cL cZ Q A z _ r1 _ ho2) (cwV 1 hts (gi_V wd_98 wd_99 wd_100 wd_7 wd_101) rfl rfl rfl hdV_X0_needRoom ⟨Nat.le_of_ble_eq_true rfl, Nat.le_of_ble_eq_true rfl⟩) hK hP hD hT hS hA 1 rfl rfl rfl hl.1 (Nat.le_of_ble_eq_true rfl) dX0_claim_6 ⟨by show _ ≤ 6; omega, by show _ ≤ 6 + c0; omega⟩) hS hD hA (fun A H locs hP hD hS => ?_)
  refine lv_aload_n hx hb dX0_claim_9 rfl (lv_at hl 0 rfl) ?_
  refine lv_iload_n hx hb dX0_claim_10 rfl (lv_at hl 1 rfl) ?_
  refine lv_iload_n hx hb dX0_claim_11 rfl (lv_at hl 2 rfl) ?_
  obtain ⟨k3, z3, r3, d3, ho3, hf, ek3⟩ := of_bcw hf
  refine gcWi (gV FX [.int p0, .int p1] (c_hp_place l G cL cZ Q A z2 _ p0 p1 k3 _ ho3) (cwV 2 hts (gi_V wd_94 wd_95 wd_96 wd_7 wd_97) rfl rfl rfl hdV_X0_place ⟨Nat.le_of_ble_eq_true rfl, Nat.le_of_ble_eq_true rfl⟩) hK hP hD 1 rfl rfl rfl hl.1 (Nat.le_of_ble_eq_true rfl) dX0_claim_12 ⟨by show _ ≤ 6; omega, by show _ ≤ 6 + c0; omega⟩) hS hD hA (fun A H locs hP hD hS => ?_)
  obtain ⟨hc0, hj0⟩ := of_some2 hf
  subst hj0
  exact grXi hx hb hr hlocks hP hK hD hS dX0_claim_15 (by omega) (by omega)
set_option maxHeartbeats 4000000 in
set_option maxRecDepth 100000 in
theorem c_tx_wordsFor (l : Launch) (G : va_G) (cL cZ : ClassId) (Q : Nat → Nat) (A : Nat → Nat) (z : Hs) (sz : Nat) (p0 : Int32) (O0 : Int32) (hf : tx_wordsFor z p0 = some O0) : Met l yX2_wordsFor vX2_wordsFor { frames := 1, cells := 0, slots := 0, locals := 21 } (gPc G vwCl (ct cL cZ) [.int p0] (cw cL cZ Q A z) sz) (qRi G vwCl (ct cL cZ) (cw cL cZ Q A z) sz O0) 0 0 (va_A (cw cL cZ Q A z) sz) := by
  refine gMet (by decide) rfl (Nat.le_of_ble_eq_true rfl) ?_
  intro p e s m below meth c ls C hK hP hD hsz hl
  subst hsz
  obtain ⟨hx, hb, hr, hml, hown, hts, hlocks⟩ := id C
  have FX : CallFix p m c cX2_wordsFor 1 s _ vX2_wordsFor RX2 := ⟨hx, hb, hml, hown, hts⟩
  have hA : ∀ q9 : Nat, s.heap.size ≤ q9 → va_A (cw cL cZ Q A z) s.heap.size q9 := fun q9 h => Or.inr h
  have hS : va_S (va_A (cw cL cZ Q A z) s.heap.size) s.heap s.heap [] := va_S.rf
  have hl : lv_has ls 1 [(0, .int p0)] := hl
  unfold tx_wordsFor at hf
  refine lv_iconst (v := 3) hx hb dX2_wordsFor_0 (by decide) ?_
  refine lv_iload_n hx hb dX2_wordsFor_1 rfl (lv_at hl 0 rfl) ?_
  obtain ⟨r1, ho1, hf⟩ := of_b0 hf
  refine gcRi (gS FX [.int 3, .int p0] (c_hp_sizeOf l G cL cZ Q A z _ 3 p0 _ ho1) (va_cwS 2 hts (gi_SU wd_102 wd_53 wd_103 wd_54) rfl rfl rfl hdU_X0_sizeOf ⟨Nat.le_of_ble_eq_true rfl, Nat.le_of_ble_eq_true rfl⟩) hK hP hD rfl hl.1 (Nat.le_of_ble_eq_true rfl) dX2_wordsFor_2 ⟨by show _ ≤ 0; omega, by show _ ≤ 0; omega⟩) hS hD hA (fun H locs hP hS => ?_)
  refine lv_iconst (v := 1) hx hb dX2_wordsFor_5 (by decide) ?_
  refine lv_isub hx hb dX2_wordsFor_6 ?_
  obtain rfl := Option.some.inj hf
  exact grRi hx hb hr hlocks hP hK hD hS dX2_wordsFor_7 (by omega) (by omega)
set_option maxHeartbeats 4000000 in
set_option maxRecDepth 100000 in
theorem c_tx_shiftOf (l : Launch) (G : va_G) (cL cZ : ClassId) (Q : Nat → Nat) (A : Nat → Nat) (z : Hs) (sz : Nat) (p0 : Int32) (O0 : Int32) (hf : tx_shiftOf z p0 = some O0) : Met l yX2_shiftOf vX2_shiftOf { frames := 0, cells := 0, slots := 0, locals := 0 } (gPc G vwCl (ct cL cZ) [.int p0] (cw cL cZ Q A z) sz) (qRi G vwCl (ct cL cZ) (cw cL cZ Q A z) sz O0) 0 0 (va_A (cw cL cZ Q A z) sz) := by
  refine gMet (by decide) rfl (Nat.le_of_ble_eq_true rfl) ?_
  intro p e s m below meth c ls C hK hP hD hsz hl
  subst hsz
  obtain ⟨hx, hb, hr, hml, hown, hts, hlocks⟩ := id C
  have FX : CallFix p m c cX2_shiftOf 1 s _ vX2_shiftOf RX2 := ⟨hx, hb, hml, hown, hts⟩
  have hA : ∀ q9 : Nat, s.heap.size ≤ q9 → va_A (cw cL cZ Q A z) s.heap.size q9 := fun q9 h => Or.inr h
  have hS : va_S (va_A (cw cL cZ Q A z) s.heap.size) s.heap s.heap [] := va_S.rf
  have hl : lv_has ls 1 [(0, .int p0)] := hl
  unfold tx_shiftOf at hf
  refine lv_bipush (v := 56) hx hb dX2_shiftOf_0 (by decide) ?_
  refine lv_bipush (v := 8) hx hb dX2_shiftOf_2 (by decide) ?_
  refine lv_iload_n hx hb dX2_shiftOf_4 rfl (lv_at hl 0 rfl) ?_
  refine lv_bipush (v := 7) hx hb dX2_shiftOf_5 (by decide) ?_
  refine lv_iand hx hb dX2_shiftOf_7 ?_
  refine lv_imul hx hb dX2_shiftOf_8 ?_
  refine lv_isub hx hb dX2_shiftOf_9 ?_
  obtain rfl := Option.some.inj hf
  exact grRi hx hb hr hlocks hP hK hD hS dX2_shiftOf_10 (by omega) (by omega)
set_option maxHeartbeats 4000000 in
set_option maxRecDepth 100000 in
theorem c_tx_byteOf (l : Launch) (G : va_G) (cL cZ : ClassId) (Q : Nat → Nat) (A : Nat → Nat) (z : Hs) (sz : Nat) (p0 : Int32) (p1 : Int32) (O0 : Int32) (hf : tx_byteOf z p0 p1 = some O0) : Met l yX2_byteOf vX2_byteOf { frames := 1, cells := 0, slots := 0, locals := 21 } (gPc G vwCl (ct cL cZ) [.ref (Q 2), .int p0, .int p1] (cw cL cZ Q A z) sz) (qRi G vwCl (ct cL cZ) (cw cL cZ Q A z) sz O0) 0 0 (va_A (cw cL cZ Q A z) sz) := by
  refine gMet (by decide) rfl (Nat.le_of_ble_eq_true rfl) ?_
  intro p e s m below meth c ls C hK hP hD hsz hl
  subst hsz
  obtain ⟨hx, hb, hr, hml, hown, hts, hlocks⟩ := id C
  have FX : CallFix p m c cX2_byteOf 3 s _ vX2_byteOf RX2 := ⟨hx, hb, hml, hown, hts⟩
  have hA : ∀ q9 : Nat, s.heap.size ≤ q9 → va_A (cw cL cZ Q A z) s.heap.size q9 := fun q9 h => Or.inr h
  have hS : va_S (va_A (cw cL cZ Q A z) s.heap.size) s.heap s.heap [] := va_S.rf
  have hl : lv_has ls 3 [(0, .ref (Q 2)), (1, .int p0), (2, .int p1)] := hl
  unfold tx_byteOf at hf
  refine lv_aload_n hx hb dX2_byteOf_0 rfl (lv_at hl 0 rfl) ?_
  refine va_get (D := G) (ci := 2) (v := .ref (Q 1)) (C := RX2) (T := TX2) (N := 1) hx hb hts (fun w h => .tail _ (wl_X2 w h)) hown hK hP 2 rfl rfl 0 (by decide) (hts _ (.tail _ wd_104)) (fun _ h9 => h9) rfl dX2_byteOf_1 ?_
  refine lv_aload_n hx hb dX2_byteOf_4 rfl (lv_at hl 0 rfl) ?_
  refine va_get (D := G) (ci := 2) (v := .ref (Q 1)) (C := RX2) (T := TX2) (N := 1) hx hb hts (fun w h => .tail _ (wl_X2 w h)) hown hK hP 2 rfl rfl 0 (by decide) (hts _ (.tail _ wd_104)) (fun _ h9 => h9) rfl dX2_byteOf_5 ?_
  refine lv_iload_n hx hb dX2_byteOf_8 rfl (lv_at hl 1 rfl) ?_
  obtain ⟨r1, ho1, hf⟩ := of_b0 hf
  refine gcRi (gV FX [.int p0] (c_hp_first l G cL cZ Q A z _ p0 _ ho1) (cwV 1 hts (gi_V wd_113 wd_65 wd_66 wd_7 wd_67) rfl rfl rfl hdV_X0_first ⟨Nat.le_of_ble_eq_true rfl, Nat.le_of_ble_eq_true rfl⟩) hK hP hD 1 rfl rfl rfl hl.1 (Nat.le_of_ble_eq_true rfl) dX2_byteOf_9 ⟨by show _ ≤ 0; omega, by show _ ≤ 0; omega⟩) hS hD hA (fun H locs hP hS => ?_)
  refine lv_iload_n hx hb dX2_byteOf_12 rfl (lv_at hl 2 rfl) ?_
  refine lv_iconst (v := 3) hx hb dX2_byteOf_13 (by decide) ?_
  refine lv_ishr hx hb dX2_byteOf_14 ?_
  refine lv_iadd hx hb dX2_byteOf_15 ?_
  obtain ⟨r2, ho2, hf⟩ := of_b0 hf
  refine gcRl (gV FX [.int (r1 + (p1 >>> ((3 : Int32) &&& 31)))] (c_hp_bitsAt l G cL cZ Q A z _ (r1 + (p1 >>> ((3 : Int32) &&& 31))) _ ho2) (cwV 1 hts (gi_V wd_109 wd_110 wd_111 wd_7 wd_112) rfl rfl rfl hdV_X0_bitsAt ⟨Nat.le_of_ble_eq_true rfl, Nat.le_of_ble_eq_true rfl⟩) hK hP hD 1 rfl rfl rfl hl.1 (Nat.le_of_ble_eq_true rfl) dX2_byteOf_16 ⟨by show _ ≤ 0; omega, by show _ ≤ 0; omega⟩) hS hD hA (fun H locs hP hS => ?_)
  refine lv_iload_n hx hb dX2_byteOf_19 rfl (lv_at hl 2 rfl) ?_
  obtain ⟨r3, ho3, hf⟩ := of_b0 hf
  refine gcRi (gS FX [.int p1] (c_tx_shiftOf l G cL cZ Q A z _ p1 _ ho3) (cwS 1 hts (gi_S wd_105 wd_106 wd_107 wd_108) rfl rfl rfl hdS_X2_shiftOf ⟨Nat.le_of_ble_eq_true rfl, Nat.le_of_ble_eq_true rfl⟩) hK hP hD rfl hl.1 (Nat.le_of_ble_eq_true rfl) dX2_byteOf_20 ⟨by show _ ≤ 0; omega, by show _ ≤ 0; omega⟩) hS hD hA (fun H locs hP hS => ?_)
  refine lv_lushr hx hb dX2_byteOf_23 rfl ?_
  refine lv_l2i hx hb dX2_byteOf_24 rfl ?_
  refine lv_sipush (v := 255) hx hb dX2_byteOf_25 (by decide) ?_
  refine lv_iand hx hb dX2_byteOf_28 ?_
  obtain rfl := Option.some.inj hf
  exact grRi hx hb hr hlocks hP hK hD hS dX2_byteOf_29 (by omega) (by omega)
set_option maxHeartbeats 4000000 in
set_option maxRecDepth 100000 in
theorem c_tx_changeByte (l : Launch) (G : va_G) (cL cZ : ClassId) (Q : Nat → Nat) (A : Nat → Nat) (z : Hs) (sz : Nat) (p0 : Int32) (p1 : Int32) (p2 : Int32) (O0 : Hs × Unit) (hf : tx_changeByte z p0 p1 p2 = some O0) : Met l yX2_changeByte vX2_changeByte { frames := 1, cells := 0, slots := 0, locals := 23 } (gPc G vwCl (ct cL cZ) [.ref (Q 2), .int p0, .int p1, .int p2] (cw cL cZ Q A z) sz) (qWv G vwCl (ct cL cZ) (cw cL cZ Q A z) sz (cw cL cZ Q) O0) 0 0 (va_A (cw cL cZ Q A z) sz) := by
  refine gMet (by decide) rfl (Nat.le_of_ble_eq_true rfl) ?_
  intro p e s m below meth c ls C hK hP hD hsz hl
  subst hsz
  obtain ⟨hx, hb, hr, hml, hown, hts, hlocks⟩ := id C
  have FX : CallFix p m c cX2_changeByte 7 s _ vX2_changeByte RX2 := ⟨hx, hb, hml, hown, hts⟩
  have hA : ∀ q9 : Nat, s.heap.size ≤ q9 → va_A (cw cL cZ Q A z) s.heap.size q9 := fun q9 h => Or.inr h
  have hS : va_S (va_A (cw cL cZ Q A z) s.heap.size) s.heap s.heap [] := va_S.rf
  have hl : lv_has ls 7 [(0, .ref (Q 2)), (1, .int p0), (2, .int p1), (3, .int p2)] := hl
  unfold tx_changeByte at hf
  refine lv_aload_n hx hb dX2_changeByte_0 rfl (lv_at hl 0 rfl) ?_
  refine va_get (D := G) (ci := 2) (v := .ref (Q 1)) (C := RX2) (T := TX2) (N := 1) hx hb hts (fun w h => .tail _ (wl_X2 w h)) hown hK hP 2 rfl rfl 0 (by decide) (hts _ (.tail _ wd_104)) (fun _ h9 => h9) rfl dX2_changeByte_1 ?_
  refine lv_iload_n hx hb dX2_changeByte_4 rfl (lv_at hl 1 rfl) ?_
  obtain ⟨r1, ho1, hf⟩ := of_b0 hf
  refine gcRi (gV FX [.int p0] (c_hp_first l G cL cZ Q A z _ p0 _ ho1) (cwV 1 hts (gi_V wd_113 wd_65 wd_66 wd_7 wd_67) rfl rfl rfl hdV_X0_first ⟨Nat.le_of_ble_eq_true rfl, Nat.le_of_ble_eq_true rfl⟩) hK hP hD 1 rfl rfl rfl hl.1 (Nat.le_of_ble_eq_true rfl) dX2_changeByte_5 ⟨by show _ ≤ 0; omega, by show _ ≤ 0; omega⟩) hS hD hA (fun H locs hP hS => ?_)
  refine lv_iload_n hx hb dX2_changeByte_8 rfl (lv_at hl 2 rfl) ?_
  refine lv_iconst (v := 3) hx hb dX2_changeByte_9 (by decide) ?_
  refine lv_ishr hx hb dX2_changeByte_10 ?_
  refine lv_iadd hx hb dX2_changeByte_11 ?_
  refine lv_istore (lv' := [(4, .int (r1 + (p1 >>> ((3 : Int32) &&& 31)))), (0, .ref (Q 2)), (1, .int p0), (2, .int p1), (3, .int p2)]) hx hb dX2_changeByte_12 hl (by decide) rfl (fun ls hl => ?_)
  refine lv_aload_n hx hb dX2_changeByte_14 rfl (lv_at hl 1 rfl) ?_
  refine va_get (D := G) (ci := 2) (v := .ref (Q 1)) (C := RX2) (T := TX2) (N := 1) hx hb hts (fun w h => .tail _ (wl_X2 w h)) hown hK hP 2 rfl rfl 0 (by decide) (hts _ (.tail _ wd_104)) (fun _ h9 => h9) rfl dX2_changeByte_15 ?_
  refine lv_iload hx hb dX2_changeByte_18 (lv_at hl 0 rfl) ?_
  obtain ⟨r2, ho2, hf⟩ := of_b0 hf
  refine gcRl (gV FX [.int (r1 + (p1 >>> ((3 : Int32) &&& 31)))] (c_hp_bitsAt l G cL cZ Q A z _ (r1 + (p1 >>> ((3 : Int32) &&& 31))) _ ho2) (cwV 1 hts (gi_V wd_109 wd_110 wd_111 wd_7 wd_112) rfl rfl rfl hdV_X0_bitsAt ⟨Nat.le_of_ble_eq_true rfl, Nat.le_of_ble_eq_true rfl⟩) hK hP hD 1 rfl rfl rfl hl.1 (Nat.le_of_ble_eq_true rfl) dX2_changeByte_20 ⟨by show _ ≤ 0; omega, by show _ ≤ 0; omega⟩) hS hD hA (fun H locs hP hS => ?_)
  refine lv_ldc2 (v := 255) hx hb hown (hts _ (.tail _ wd_114)) dX2_changeByte_23 ?_
  refine lv_iload_n hx hb dX2_changeByte_26 rfl (lv_at hl 3 rfl) ?_
  obtain ⟨r3, ho3, hf⟩ := of_b0 hf
  refine gcRi (gS FX [.int p1] (c_tx_shiftOf l G cL cZ Q A z _ p1 _ ho3) (cwS 1 hts (gi_S wd_105 wd_106 wd_107 wd_108) rfl rfl rfl hdS_X2_shiftOf ⟨Nat.le_of_ble_eq_true rfl, Nat.le_of_ble_eq_true rfl⟩) hK hP hD rfl hl.1 (Nat.le_of_ble_eq_true rfl) dX2_changeByte_27 ⟨by show _ ≤ 0; omega, by show _ ≤ 0; omega⟩) hS hD hA (fun H locs hP hS => ?_)
  refine lv_lshl hx hb dX2_changeByte_30 rfl ?_
  refine lv_ldc2 (v := (-1)) hx hb hown (hts _ (.tail _ wd_115)) dX2_changeByte_31 ?_
  refine lv_lxor hx hb dX2_changeByte_34 ?_
  refine lv_land hx hb dX2_changeByte_35 ?_
  refine lv_lstore (lv' := [(5, .long (r2 &&& (((255 : Int64) <<< (r3.toInt64 &&& 63)) ^^^ (-1)))), (4, .int (r1 + (p1 >>> ((3 : Int32) &&& 31)))), (0, .ref (Q 2)), (1, .int p0), (2, .int p1), (3, .int p2)]) hx hb dX2_changeByte_36 hl (by decide) rfl (fun ls hl => ?_)
  refine lv_aload_n hx hb dX2_changeByte_38 rfl (lv_at hl 2 rfl) ?_
  refine va_get (D := G) (ci := 2) (v := .ref (Q 1)) (C := RX2) (T := TX2) (N := 1) hx hb hts (fun w h => .tail _ (wl_X2 w h)) hown hK hP 2 rfl rfl 0 (by decide) (hts _ (.tail _ wd_104)) (fun _ h9 => h9) rfl dX2_changeByte_39 ?_
  refine lv_iload hx hb dX2_changeByte_42 (lv_at hl 1 rfl) ?_
  refine lv_lload hx hb dX2_changeByte_44 (lv_at hl 0 rfl) ?_
  refine lv_iload_n hx hb dX2_changeByte_46 rfl (lv_at hl 5 rfl) ?_
  refine lv_i2l hx hb dX2_changeByte_47 rfl ?_
  refine lv_ldc2 (v := 255) hx hb hown (hts _ (.tail _ wd_114)) dX2_changeByte_48 ?_
  refine lv_land hx hb dX2_changeByte_51 ?_
  refine lv_iload_n hx hb dX2_changeByte_52 rfl (lv_at hl 4 rfl) ?_
  obtain ⟨r4, ho4, hf⟩ := of_b0 hf
  refine gcRi (gS FX [.int p1] (c_tx_shiftOf l G cL cZ Q A z _ p1 _ ho4) (cwS 1 hts (gi_S wd_105 wd_106 wd_107 wd_108) rfl rfl rfl hdS_X2_shiftOf ⟨Nat.le_of_ble_eq_true rfl, Nat.le_of_ble_eq_true rfl⟩) hK hP hD rfl hl.1 (Nat.le_of_ble_eq_true rfl) dX2_changeByte_53 ⟨by show _ ≤ 0; omega, by show _ ≤ 0; omega⟩) hS hD hA (fun H locs hP hS => ?_)
  refine lv_lshl hx hb dX2_changeByte_56 rfl ?_
  refine lv_lor hx hb dX2_changeByte_57 ?_
  obtain ⟨z5, o9, ho5, hf⟩ := of_bw hf
  refine gcWv (gV FX [.int (r1 + (p1 >>> ((3 : Int32) &&& 31))), .long ((r2 &&& (((255 : Int64) <<< (r3.toInt64 &&& 63)) ^^^ (-1))) ||| (((p2.toInt64) &&& 255) <<< (r4.toInt64 &&& 63)))] (c_hp_setNumber l G cL cZ Q A z _ (r1 + (p1 >>> ((3 : Int32) &&& 31))) ((r2 &&& (((255 : Int64) <<< (r3.toInt64 &&& 63)) ^^^ (-1))) ||| (((p2.toInt64) &&& 255) <<< (r4.toInt64 &&& 63))) _ ho5) (cwV 2 hts (gi_V wd_116 wd_117 wd_118 wd_7 wd_119) rfl rfl rfl hdV_X0_setNumber ⟨Nat.le_of_ble_eq_true rfl, Nat.le_of_ble_eq_true rfl⟩) hK hP hD 1 rfl rfl rfl hl.1 (Nat.le_of_ble_eq_true rfl) dX2_changeByte_58 ⟨by show _ ≤ 0; omega, by show _ ≤ 0; omega⟩) hS hD hA (fun A H locs hP hD hS => ?_)
  obtain rfl := Option.some.inj hf
  exact grWv hx hb hr hlocks hP hK hD hS dX2_changeByte_61 (by omega) (by omega)
def At_tx_wordOf_j19 (l : Launch) (G : va_G) (cL cZ : ClassId) (Q : Nat → Nat) (A : Nat → Nat) (z : Hs) (p : Program) (e : Env) (s : State) (m : MethodId) (args : Array Value) (below : List Frame) (meth : Method) (c : Code) (O0 : Int64) (mcT msT : Nat) (F : Hs → Option (Int64)) : Prop := ∀ (_ : Unit) (H : Heap) (locs : List Loc) (ls : Array Slot) (cells slots : Nat), va_P G vwCl (cw cL cZ Q A z) H → va_D (va_A (cw cL cZ Q A z) s.heap.size) (cw cL cZ Q A z) → va_S (va_A (cw cL cZ Q A z) s.heap.size) s.heap H locs → lv_has ls 3 [] → F z = some O0 → cells + 0 ≤ mcT → slots + 0 ≤ msT → W p l e { frames := 2, cells := mcT, slots := msT, locals := 42 } s m args below meth c H locs cells slots (MQ below (qRl G vwCl (ct cL cZ) (cw cL cZ Q A z) s.heap.size O0) args s mcT msT (va_A (cw cL cZ Q A z) s.heap.size)) (F0 m 19 ls [])
set_option maxHeartbeats 4000000 in
set_option maxRecDepth 100000 in
theorem L_tx_wordOf_j19 (l : Launch) (G : va_G) (cL cZ : ClassId) (Q : Nat → Nat) (A : Nat → Nat) (z : Hs) (p : Program) (e : Env) (s : State) (m : MethodId) (args : Array Value) (below : List Frame) (meth : Method) (c : Code) (O0 : Int64) (mcT msT : Nat) (C : MC p s m args meth c cX2_wordOf 3 (some .long) RX2 vX2_wordOf) (hK : va_K G vwCl (ct cL cZ) s) : At_tx_wordOf_j19 l G cL cZ Q A z p e s m args below meth c O0 mcT msT tx_wordOf_j19 := by
  obtain ⟨hx, hb, hr, hml, hown, hts, hlocks⟩ := id C
  have FX : CallFix p m c cX2_wordOf 3 s args vX2_wordOf RX2 := ⟨hx, hb, hml, hown, hts⟩
  have hA : ∀ q9 : Nat, s.heap.size ≤ q9 → va_A (cw cL cZ Q A z) s.heap.size q9 := fun q9 h => Or.inr h
  intro _ H locs ls cells slots hP hD hS hl hf hcc hss
  unfold tx_wordOf_j19 at hf
  refine lv_lconst (v := 0) hx hb dX2_wordOf_19 (by decide) ?_
  refine lv_goto (tgt := 40) hx hb dX2_wordOf_20 (by decide) ?_
  obtain rfl := Option.some.inj hf
  exact grRl hx hb hr hlocks hP hK hD hS dX2_wordOf_40 (by omega) (by omega)
set_option maxHeartbeats 4000000 in
set_option maxRecDepth 100000 in
theorem c_tx_wordOf (l : Launch) (G : va_G) (cL cZ : ClassId) (Q : Nat → Nat) (A : Nat → Nat) (z : Hs) (sz : Nat) (p0 : Int32) (p1 : Int32) (O0 : Int64) (hf : tx_wordOf z p0 p1 = some O0) : Met l yX2_wordOf vX2_wordOf { frames := 2, cells := 0, slots := 0, locals := 42 } (gPc G vwCl (ct cL cZ) [.ref (Q 2), .int p0, .int p1] (cw cL cZ Q A z) sz) (qRl G vwCl (ct cL cZ) (cw cL cZ Q A z) sz O0) 0 0 (va_A (cw cL cZ Q A z) sz) := by
  refine gMet (by decide) rfl (Nat.le_of_ble_eq_true rfl) ?_
  intro p e s m below meth c ls C hK hP hD hsz hl
  subst hsz
  obtain ⟨hx, hb, hr, hml, hown, hts, hlocks⟩ := id C
  have FX : CallFix p m c cX2_wordOf 3 s _ vX2_wordOf RX2 := ⟨hx, hb, hml, hown, hts⟩
  have hA : ∀ q9 : Nat, s.heap.size ≤ q9 → va_A (cw cL cZ Q A z) s.heap.size q9 := fun q9 h => Or.inr h
  have hS : va_S (va_A (cw cL cZ Q A z) s.heap.size) s.heap s.heap [] := va_S.rf
  have hl : lv_has ls 3 [(0, .ref (Q 2)), (1, .int p0), (2, .int p1)] := hl
  unfold tx_wordOf at hf
  refine lv_iload_n hx hb dX2_wordOf_0 rfl (lv_at hl 2 rfl) ?_
  refine lv_if_lt (tgt := 19) hx hb dX2_wordOf_1 (by decide) (fun c1 => ?_) (fun c1 => ?_)
  · have hf := (if_pos c1).symm.trans hf
    exact L_tx_wordOf_j19 _ _ _ _ _ _ _ _ _ _ _ _ _ _ _ _ _ _ C hK () _ _ _ _ _ hP hD hS (lv_sub hl [] rfl) hf (by omega) (by omega)
  · have hf := (if_neg c1).symm.trans hf
    refine lv_iload_n hx hb dX2_wordOf_4 rfl (lv_at hl 2 rfl) ?_
    refine lv_aload_n hx hb dX2_wordOf_5 rfl (lv_at hl 0 rfl) ?_
    refine va_get (D := G) (ci := 2) (v := .ref (Q 1)) (C := RX2) (T := TX2) (N := 1) hx hb hts (fun w h => .tail _ (wl_X2 w h)) hown hK hP 2 rfl rfl 0 (by decide) (hts _ (.tail _ wd_104)) (fun _ h9 => h9) rfl dX2_wordOf_6 ?_
    refine lv_iload_n hx hb dX2_wordOf_9 rfl (lv_at hl 1 rfl) ?_
    obtain ⟨r2, ho2, hf⟩ := of_b0 hf
    refine gcRi (gV FX [.int p0] (c_hp_length l G cL cZ Q A z _ p0 _ ho2) (cwV 1 hts (gi_V wd_123 wd_61 wd_62 wd_7 wd_63) rfl rfl rfl hdV_X0_length ⟨Nat.le_of_ble_eq_true rfl, Nat.le_of_ble_eq_true rfl⟩) hK hP hD 1 rfl rfl rfl hl.1 (Nat.le_of_ble_eq_true rfl) dX2_wordOf_10 ⟨by show _ ≤ 0; omega, by show _ ≤ 0; omega⟩) hS hD hA (fun H locs hP hS => ?_)
    obtain ⟨r3, ho3, hf⟩ := of_b0 hf
    refine gcRi (gS FX [.int r2] (c_tx_wordsFor l G cL cZ Q A z _ r2 _ ho3) (cwS 1 hts (gi_S wd_120 wd_121 wd_107 wd_122) rfl rfl rfl hdS_X2_wordsFor ⟨Nat.le_of_ble_eq_true rfl, Nat.le_of_ble_eq_true rfl⟩) hK hP hD rfl hl.1 (Nat.le_of_ble_eq_true rfl) dX2_wordOf_13 ⟨by show _ ≤ 0; omega, by show _ ≤ 0; omega⟩) hS hD hA (fun H locs hP hS => ?_)
    refine lv_icmp_lt (tgt := 23) hx hb dX2_wordOf_16 (by decide) (fun c4 => ?_) (fun c4 => ?_)
    · have hf := (if_pos c4).symm.trans hf
      refine lv_aload_n hx hb dX2_wordOf_23 rfl (lv_at hl 0 rfl) ?_
      refine va_get (D := G) (ci := 2) (v := .ref (Q 1)) (C := RX2) (T := TX2) (N := 1) hx hb hts (fun w h => .tail _ (wl_X2 w h)) hown hK hP 2 rfl rfl 0 (by decide) (hts _ (.tail _ wd_104)) (fun _ h9 => h9) rfl dX2_wordOf_24 ?_
      refine lv_aload_n hx hb dX2_wordOf_27 rfl (lv_at hl 0 rfl) ?_
      refine va_get (D := G) (ci := 2) (v := .ref (Q 1)) (C := RX2) (T := TX2) (N := 1) hx hb hts (fun w h => .tail _ (wl_X2 w h)) hown hK hP 2 rfl rfl 0 (by decide) (hts _ (.tail _ wd_104)) (fun _ h9 => h9) rfl dX2_wordOf_28 ?_
      refine lv_iload_n hx hb dX2_wordOf_31 rfl (lv_at hl 1 rfl) ?_
      obtain ⟨r5, ho5, hf⟩ := of_b0 hf
      refine gcRi (gV FX [.int p0] (c_hp_first l G cL cZ Q A z _ p0 _ ho5) (cwV 1 hts (gi_V wd_113 wd_65 wd_66 wd_7 wd_67) rfl rfl rfl hdV_X0_first ⟨Nat.le_of_ble_eq_true rfl, Nat.le_of_ble_eq_true rfl⟩) hK hP hD 1 rfl rfl rfl hl.1 (Nat.le_of_ble_eq_true rfl) dX2_wordOf_32 ⟨by show _ ≤ 0; omega, by show _ ≤ 0; omega⟩) hS hD hA (fun H locs hP hS => ?_)
      refine lv_iload_n hx hb dX2_wordOf_35 rfl (lv_at hl 2 rfl) ?_
      refine lv_iadd hx hb dX2_wordOf_36 ?_
      obtain ⟨r6, ho6, hf⟩ := of_b0 hf
      refine gcRl (gV FX [.int (r5 + p1)] (c_hp_bitsAt l G cL cZ Q A z _ (r5 + p1) _ ho6) (cwV 1 hts (gi_V wd_109 wd_110 wd_111 wd_7 wd_112) rfl rfl rfl hdV_X0_bitsAt ⟨Nat.le_of_ble_eq_true rfl, Nat.le_of_ble_eq_true rfl⟩) hK hP hD 1 rfl rfl rfl hl.1 (Nat.le_of_ble_eq_true rfl) dX2_wordOf_37 ⟨by show _ ≤ 0; omega, by show _ ≤ 0; omega⟩) hS hD hA (fun H locs hP hS => ?_)
      obtain rfl := Option.some.inj hf
      exact grRl hx hb hr hlocks hP hK hD hS dX2_wordOf_40 (by omega) (by omega)
    · have hf := (if_neg c4).symm.trans hf
      exact L_tx_wordOf_j19 _ _ _ _ _ _ _ _ _ _ _ _ _ _ _ _ _ _ C hK () _ _ _ _ _ hP hD hS (lv_sub hl [] rfl) hf (by omega) (by omega)
set_option maxHeartbeats 4000000 in
set_option maxRecDepth 100000 in
theorem c_jl_compare (l : Launch) (G : va_G) (cL cZ : ClassId) (Q : Nat → Nat) (A : Nat → Nat) (z : Hs) (sz : Nat) (p0 : Int64) (p1 : Int64) (O0 : Int32) (hf : jl_compare z p0 p1 = some O0) : Met l yJL_compare vJL_compare { frames := 0, cells := 0, slots := 0, locals := 0 } (gPc G vwCl (ct cL cZ) [.long p0, .long p1] (cw cL cZ Q A z) sz) (qRi G vwCl (ct cL cZ) (cw cL cZ Q A z) sz O0) 0 0 (va_A (cw cL cZ Q A z) sz) := by
  refine gMet (by decide) rfl (Nat.le_of_ble_eq_true rfl) ?_
  intro p e s m below meth c ls C hK hP hD hsz hl
  subst hsz
  obtain ⟨hx, hb, hr, hml, hown, hts, hlocks⟩ := id C
  have FX : CallFix p m c cJL_compare 4 s _ vJL_compare "java/lang/Long" := ⟨hx, hb, hml, hown, hts⟩
  have hA : ∀ q9 : Nat, s.heap.size ≤ q9 → va_A (cw cL cZ Q A z) s.heap.size q9 := fun q9 h => Or.inr h
  have hS : va_S (va_A (cw cL cZ Q A z) s.heap.size) s.heap s.heap [] := va_S.rf
  have hl : lv_has ls 4 [(0, .long p0), (2, .long p1)] := hl
  unfold jl_compare at hf
  refine lv_lload_n hx hb dJL_compare_0 rfl (lv_at hl 0 rfl) ?_
  refine lv_lload_n hx hb dJL_compare_1 rfl (lv_at hl 1 rfl) ?_
  refine W.lcmp hx hb dJL_compare_2 ?_
  refine lv_if_ge (tgt := 10) hx hb dJL_compare_3 (by decide) (fun c1 => ?_) (fun c1 => ?_)
  · have hf := (if_pos c1).symm.trans hf
    refine lv_lload_n hx hb dJL_compare_10 rfl (lv_at hl 0 rfl) ?_
    refine lv_lload_n hx hb dJL_compare_11 rfl (lv_at hl 1 rfl) ?_
    refine W.lcmp hx hb dJL_compare_12 ?_
    refine lv_if_ne (tgt := 20) hx hb dJL_compare_13 (by decide) (fun c2 => ?_) (fun c2 => ?_)
    · have hf := (if_neg c2).symm.trans hf
      refine lv_iconst (v := 1) hx hb dJL_compare_20 (by decide) ?_
      obtain rfl := Option.some.inj hf
      exact grRi hx hb hr hlocks hP hK hD hS dJL_compare_21 (by omega) (by omega)
    · have hf := (if_pos c2).symm.trans hf
      refine lv_iconst (v := 0) hx hb dJL_compare_16 (by decide) ?_
      refine lv_goto (tgt := 21) hx hb dJL_compare_17 (by decide) ?_
      obtain rfl := Option.some.inj hf
      exact grRi hx hb hr hlocks hP hK hD hS dJL_compare_21 (by omega) (by omega)
  · have hf := (if_neg c1).symm.trans hf
    refine lv_iconst (v := (-1)) hx hb dJL_compare_6 (by decide) ?_
    refine lv_goto (tgt := 21) hx hb dJL_compare_7 (by decide) ?_
    obtain rfl := Option.some.inj hf
    exact grRi hx hb hr hlocks hP hK hD hS dJL_compare_21 (by omega) (by omega)
set_option maxHeartbeats 4000000 in
set_option maxRecDepth 100000 in
theorem c_ji_compare (l : Launch) (G : va_G) (cL cZ : ClassId) (Q : Nat → Nat) (A : Nat → Nat) (z : Hs) (sz : Nat) (p0 : Int32) (p1 : Int32) (O0 : Int32) (hf : ji_compare z p0 p1 = some O0) : Met l yJI_compare vJI_compare { frames := 0, cells := 0, slots := 0, locals := 0 } (gPc G vwCl (ct cL cZ) [.int p0, .int p1] (cw cL cZ Q A z) sz) (qRi G vwCl (ct cL cZ) (cw cL cZ Q A z) sz O0) 0 0 (va_A (cw cL cZ Q A z) sz) := by
  refine gMet (by decide) rfl (Nat.le_of_ble_eq_true rfl) ?_
  intro p e s m below meth c ls C hK hP hD hsz hl
  subst hsz
  obtain ⟨hx, hb, hr, hml, hown, hts, hlocks⟩ := id C
  have FX : CallFix p m c cJI_compare 2 s _ vJI_compare "java/lang/Integer" := ⟨hx, hb, hml, hown, hts⟩
  have hA : ∀ q9 : Nat, s.heap.size ≤ q9 → va_A (cw cL cZ Q A z) s.heap.size q9 := fun q9 h => Or.inr h
  have hS : va_S (va_A (cw cL cZ Q A z) s.heap.size) s.heap s.heap [] := va_S.rf
  have hl : lv_has ls 2 [(0, .int p0), (1, .int p1)] := hl
  unfold ji_compare at hf
  refine lv_iload_n hx hb dJI_compare_0 rfl (lv_at hl 0 rfl) ?_
  refine lv_iload_n hx hb dJI_compare_1 rfl (lv_at hl 1 rfl) ?_
  refine lv_icmp_ge (tgt := 9) hx hb dJI_compare_2 (by decide) (fun c1 => ?_) (fun c1 => ?_)
  · have hf := (if_pos c1).symm.trans hf
    refine lv_iload_n hx hb dJI_compare_9 rfl (lv_at hl 0 rfl) ?_
    refine lv_iload_n hx hb dJI_compare_10 rfl (lv_at hl 1 rfl) ?_
    refine lv_icmp_ne (tgt := 18) hx hb dJI_compare_11 (by decide) (fun c2 => ?_) (fun c2 => ?_)
    · have hf := (if_neg c2).symm.trans hf
      refine lv_iconst (v := 1) hx hb dJI_compare_18 (by decide) ?_
      obtain rfl := Option.some.inj hf
      exact grRi hx hb hr hlocks hP hK hD hS dJI_compare_19 (by omega) (by omega)
    · have hf := (if_pos c2).symm.trans hf
      refine lv_iconst (v := 0) hx hb dJI_compare_14 (by decide) ?_
      refine lv_goto (tgt := 19) hx hb dJI_compare_15 (by decide) ?_
      obtain rfl := Option.some.inj hf
      exact grRi hx hb hr hlocks hP hK hD hS dJI_compare_19 (by omega) (by omega)
  · have hf := (if_neg c1).symm.trans hf
    refine lv_iconst (v := (-1)) hx hb dJI_compare_5 (by decide) ?_
    refine lv_goto (tgt := 19) hx hb dJI_compare_6 (by decide) ?_
    obtain rfl := Option.some.inj hf
    exact grRi hx hb hr hlocks hP hK hD hS dJI_compare_19 (by omega) (by omega)
def At_tx_order_l26 (l : Launch) (G : va_G) (cL cZ : ClassId) (Q : Nat → Nat) (A : Nat → Nat) (z : Hs) (p : Program) (e : Env) (s : State) (m : MethodId) (args : Array Value) (below : List Frame) (meth : Method) (c : Code) (O0 : Int32) (mcT msT : Nat) (F : Int32 → Int32 → Int32 → Int32 → Hs → Option (Int32)) : Prop := ∀ (x1 : Int32) (x2 : Int32) (x3 : Int32) (x4 : Int32) (H : Heap) (locs : List Loc) (ls : Array Slot) (cells slots : Nat), va_P G vwCl (cw cL cZ Q A z) H → va_D (va_A (cw cL cZ Q A z) s.heap.size) (cw cL cZ Q A z) → va_S (va_A (cw cL cZ Q A z) s.heap.size) s.heap H locs → lv_has ls 6 [(0, .ref (Q 2)), (1, .int x1), (2, .int x2), (3, .int x3), (4, .int x4)] → F x1 x2 x3 x4 z = some O0 → cells + 0 ≤ mcT → slots + 0 ≤ msT → W p l e { frames := 3, cells := mcT, slots := msT, locals := 64 } s m args below meth c H locs cells slots (MQ below (qRi G vwCl (ct cL cZ) (cw cL cZ Q A z) s.heap.size O0) args s mcT msT (va_A (cw cL cZ Q A z) s.heap.size)) (F0 m 26 ls [])
set_option maxHeartbeats 4000000 in
set_option maxRecDepth 100000 in
theorem L_tx_order_l26 (l : Launch) (G : va_G) (cL cZ : ClassId) (Q : Nat → Nat) (A : Nat → Nat) (z : Hs) (p : Program) (e : Env) (s : State) (m : MethodId) (args : Array Value) (below : List Frame) (meth : Method) (c : Code) (O0 : Int32) (mcT msT : Nat) (C : MC p s m args meth c cX2_order 6 (some .int) RX2 vX2_order) (hK : va_K G vwCl (ct cL cZ) s) : ∀ n : Nat, At_tx_order_l26 l G cL cZ Q A z p e s m args below meth c O0 mcT msT (tx_order_l26 n) := by
  obtain ⟨hx, hb, hr, hml, hown, hts, hlocks⟩ := id C
  have FX : CallFix p m c cX2_order 6 s args vX2_order RX2 := ⟨hx, hb, hml, hown, hts⟩
  have hA : ∀ q9 : Nat, s.heap.size ≤ q9 → va_A (cw cL cZ Q A z) s.heap.size q9 := fun q9 h => Or.inr h
  intro n
  induction n with
  | zero =>
    intro x1 x2 x3 x4 H locs ls cells slots hP hD hS hl hf hcc hss
    exact nomatch (show none = some _ from hf)
  | succ n ih =>
    intro x1 x2 x3 x4 H locs ls cells slots hP hD hS hl hf hcc hss
    rw [tx_order_l26] at hf
    refine lv_iload hx hb dX2_order_26 (lv_at hl 4 rfl) ?_
    refine lv_iload_n hx hb dX2_order_28 rfl (lv_at hl 3 rfl) ?_
    refine lv_icmp_ge (tgt := 81) hx hb dX2_order_29 (by decide) (fun c4 => ?_) (fun c4 => ?_)
    · have hf := (if_pos c4).symm.trans hf
      refine lv_aload_n hx hb dX2_order_81 rfl (lv_at hl 0 rfl) ?_
      refine va_get (D := G) (ci := 2) (v := .ref (Q 1)) (C := RX2) (T := TX2) (N := 1) hx hb hts (fun w h => .tail _ (wl_X2 w h)) hown hK hP 2 rfl rfl 0 (by decide) (hts _ (.tail _ wd_104)) (fun _ h9 => h9) rfl dX2_order_82 ?_
      refine lv_iload_n hx hb dX2_order_85 rfl (lv_at hl 1 rfl) ?_
      obtain ⟨r5, ho5, hf⟩ := of_b0 hf
      refine gcRi (gV FX [.int x1] (c_hp_length l G cL cZ Q A z _ x1 _ ho5) (cwV 1 hts (gi_V wd_123 wd_61 wd_62 wd_7 wd_63) rfl rfl rfl hdV_X0_length ⟨Nat.le_of_ble_eq_true rfl, Nat.le_of_ble_eq_true rfl⟩) hK hP hD 1 rfl rfl rfl hl.1 (Nat.le_of_ble_eq_true rfl) dX2_order_86 ⟨by show _ ≤ mcT; omega, by show _ ≤ msT; omega⟩) hS hD hA (fun H locs hP hS => ?_)
      refine lv_aload_n hx hb dX2_order_89 rfl (lv_at hl 0 rfl) ?_
      refine va_get (D := G) (ci := 2) (v := .ref (Q 1)) (C := RX2) (T := TX2) (N := 1) hx hb hts (fun w h => .tail _ (wl_X2 w h)) hown hK hP 2 rfl rfl 0 (by decide) (hts _ (.tail _ wd_104)) (fun _ h9 => h9) rfl dX2_order_90 ?_
      refine lv_iload_n hx hb dX2_order_93 rfl (lv_at hl 2 rfl) ?_
      obtain ⟨r6, ho6, hf⟩ := of_b0 hf
      refine gcRi (gV FX [.int x2] (c_hp_length l G cL cZ Q A z _ x2 _ ho6) (cwV 1 hts (gi_V wd_123 wd_61 wd_62 wd_7 wd_63) rfl rfl rfl hdV_X0_length ⟨Nat.le_of_ble_eq_true rfl, Nat.le_of_ble_eq_true rfl⟩) hK hP hD 1 rfl rfl rfl hl.1 (Nat.le_of_ble_eq_true rfl) dX2_order_94 ⟨by show _ ≤ mcT; omega, by show _ ≤ msT; omega⟩) hS hD hA (fun H locs hP hS => ?_)
      obtain ⟨r7, ho7, hf⟩ := of_b0 hf
      refine gcRi (gS FX [.int r5, .int r6] (c_ji_compare l G cL cZ Q A z _ r5 r6 _ ho7) (va_cwS 2 hts (gi_SU wd_128 wd_129 wd_130 wd_131) rfl rfl rfl hdU_JI_compare ⟨Nat.le_of_ble_eq_true rfl, Nat.le_of_ble_eq_true rfl⟩) hK hP hD rfl hl.1 (Nat.le_of_ble_eq_true rfl) dX2_order_97 ⟨by show _ ≤ mcT; omega, by show _ ≤ msT; omega⟩) hS hD hA (fun H locs hP hS => ?_)
      obtain rfl := Option.some.inj hf
      exact grRi hx hb hr hlocks hP hK hD hS dX2_order_100 (by omega) (by omega)
    · have hf := (if_neg c4).symm.trans hf
      refine lv_aload_n hx hb dX2_order_32 rfl (lv_at hl 0 rfl) ?_
      refine lv_iload_n hx hb dX2_order_33 rfl (lv_at hl 1 rfl) ?_
      refine lv_iload hx hb dX2_order_34 (lv_at hl 4 rfl) ?_
      obtain ⟨r8, ho8, hf⟩ := of_b0 hf
      refine gcRl (gV FX [.int x1, .int x4] (c_tx_wordOf l G cL cZ Q A z _ x1 x4 _ ho8) (cwV 2 hts (gi_V wd_137 wd_138 wd_139 wd_107 wd_140) rfl rfl rfl hdV_X2_wordOf ⟨Nat.le_of_ble_eq_true rfl, Nat.le_of_ble_eq_true rfl⟩) hK hP hD 2 rfl rfl rfl hl.1 (Nat.le_of_ble_eq_true rfl) dX2_order_36 ⟨by show _ ≤ mcT; omega, by show _ ≤ msT; omega⟩) hS hD hA (fun H locs hP hS => ?_)
      refine lv_ldc2 (v := (-9223372036854775808)) hx hb hown (hts _ (.tail _ wd_132)) dX2_order_39 ?_
      refine lv_lxor hx hb dX2_order_42 ?_
      refine lv_aload_n hx hb dX2_order_43 rfl (lv_at hl 0 rfl) ?_
      refine lv_iload_n hx hb dX2_order_44 rfl (lv_at hl 2 rfl) ?_
      refine lv_iload hx hb dX2_order_45 (lv_at hl 4 rfl) ?_
      obtain ⟨r9, ho9, hf⟩ := of_b0 hf
      refine gcRl (gV FX [.int x2, .int x4] (c_tx_wordOf l G cL cZ Q A z _ x2 x4 _ ho9) (cwV 2 hts (gi_V wd_137 wd_138 wd_139 wd_107 wd_140) rfl rfl rfl hdV_X2_wordOf ⟨Nat.le_of_ble_eq_true rfl, Nat.le_of_ble_eq_true rfl⟩) hK hP hD 2 rfl rfl rfl hl.1 (Nat.le_of_ble_eq_true rfl) dX2_order_47 ⟨by show _ ≤ mcT; omega, by show _ ≤ msT; omega⟩) hS hD hA (fun H locs hP hS => ?_)
      refine lv_ldc2 (v := (-9223372036854775808)) hx hb hown (hts _ (.tail _ wd_132)) dX2_order_50 ?_
      refine lv_lxor hx hb dX2_order_53 ?_
      obtain ⟨r10, ho10, hf⟩ := of_b0 hf
      refine gcRi (gS FX [.long (r8 ^^^ (-9223372036854775808)), .long (r9 ^^^ (-9223372036854775808))] (c_jl_compare l G cL cZ Q A z _ (r8 ^^^ (-9223372036854775808)) (r9 ^^^ (-9223372036854775808)) _ ho10) (va_cwS 2 hts (gi_SU wd_133 wd_134 wd_135 wd_136) rfl rfl rfl hdU_JL_compare ⟨Nat.le_of_ble_eq_true rfl, Nat.le_of_ble_eq_true rfl⟩) hK hP hD rfl hl.1 (Nat.le_of_ble_eq_true rfl) dX2_order_54 ⟨by show _ ≤ mcT; omega, by show _ ≤ msT; omega⟩) hS hD hA (fun H locs hP hS => ?_)
      refine lv_istore (lv' := [(5, .int r10), (0, .ref (Q 2)), (1, .int x1), (2, .int x2), (3, .int x3), (4, .int x4)]) hx hb dX2_order_57 hl (by decide) rfl (fun ls hl => ?_)
      refine lv_iload hx hb dX2_order_59 (lv_at hl 0 rfl) ?_
      refine lv_if_eq (tgt := 75) hx hb dX2_order_61 (by decide) (fun c11 => ?_) (fun c11 => ?_)
      · have hf := (if_pos c11).symm.trans hf
        refine lv_iinc (v := (x4 + 1)) (lv' := [(4, .int (x4 + 1)), (5, .int r10), (0, .ref (Q 2)), (1, .int x1), (2, .int x2), (3, .int x3)]) hx hb dX2_order_75 hl (k := 5) rfl rfl (by decide) rfl (fun ls hl => ?_)
        refine lv_goto (tgt := 26) hx hb dX2_order_78 (by decide) ?_
        exact ih _ _ _ _ _ _ _ _ _ hP hD hS (lv_sub hl [2, 3, 4, 5, 0] rfl) hf (by omega) (by omega)
      · have hf := (if_neg c11).symm.trans hf
        refine lv_iload hx hb dX2_order_64 (lv_at hl 0 rfl) ?_
        refine lv_if_ge (tgt := 73) hx hb dX2_order_66 (by decide) (fun c12 => ?_) (fun c12 => ?_)
        · have hf := (if_pos c12).symm.trans hf
          refine lv_iconst (v := 1) hx hb dX2_order_73 (by decide) ?_
          obtain rfl := Option.some.inj hf
          exact grRi hx hb hr hlocks hP hK hD hS dX2_order_74 (by omega) (by omega)
        · have hf := (if_neg c12).symm.trans hf
          refine lv_iconst (v := (-1)) hx hb dX2_order_69 (by decide) ?_
          refine lv_goto (tgt := 74) hx hb dX2_order_70 (by decide) ?_
          obtain rfl := Option.some.inj hf
          exact grRi hx hb hr hlocks hP hK hD hS dX2_order_74 (by omega) (by omega)
set_option maxHeartbeats 4000000 in
set_option maxRecDepth 100000 in
theorem c_tx_order (l : Launch) (G : va_G) (cL cZ : ClassId) (Q : Nat → Nat) (A : Nat → Nat) (z : Hs) (sz : Nat) (p0 : Int32) (p1 : Int32) (O0 : Int32) (hf : tx_order z p0 p1 = some O0) : Met l yX2_order vX2_order { frames := 3, cells := 0, slots := 0, locals := 64 } (gPc G vwCl (ct cL cZ) [.ref (Q 2), .int p0, .int p1] (cw cL cZ Q A z) sz) (qRi G vwCl (ct cL cZ) (cw cL cZ Q A z) sz O0) 0 0 (va_A (cw cL cZ Q A z) sz) := by
  refine gMet (by decide) rfl (Nat.le_of_ble_eq_true rfl) ?_
  intro p e s m below meth c ls C hK hP hD hsz hl
  subst hsz
  obtain ⟨hx, hb, hr, hml, hown, hts, hlocks⟩ := id C
  have FX : CallFix p m c cX2_order 6 s _ vX2_order RX2 := ⟨hx, hb, hml, hown, hts⟩
  have hA : ∀ q9 : Nat, s.heap.size ≤ q9 → va_A (cw cL cZ Q A z) s.heap.size q9 := fun q9 h => Or.inr h
  have hS : va_S (va_A (cw cL cZ Q A z) s.heap.size) s.heap s.heap [] := va_S.rf
  have hl : lv_has ls 6 [(0, .ref (Q 2)), (1, .int p0), (2, .int p1)] := hl
  unfold tx_order at hf
  refine lv_aload_n hx hb dX2_order_0 rfl (lv_at hl 0 rfl) ?_
  refine va_get (D := G) (ci := 2) (v := .ref (Q 1)) (C := RX2) (T := TX2) (N := 1) hx hb hts (fun w h => .tail _ (wl_X2 w h)) hown hK hP 2 rfl rfl 0 (by decide) (hts _ (.tail _ wd_104)) (fun _ h9 => h9) rfl dX2_order_1 ?_
  refine lv_iload_n hx hb dX2_order_4 rfl (lv_at hl 1 rfl) ?_
  obtain ⟨r1, ho1, hf⟩ := of_b0 hf
  refine gcRi (gV FX [.int p0] (c_hp_length l G cL cZ Q A z _ p0 _ ho1) (cwV 1 hts (gi_V wd_123 wd_61 wd_62 wd_7 wd_63) rfl rfl rfl hdV_X0_length ⟨Nat.le_of_ble_eq_true rfl, Nat.le_of_ble_eq_true rfl⟩) hK hP hD 1 rfl rfl rfl hl.1 (Nat.le_of_ble_eq_true rfl) dX2_order_5 ⟨by show _ ≤ 0; omega, by show _ ≤ 0; omega⟩) hS hD hA (fun H locs hP hS => ?_)
  refine lv_aload_n hx hb dX2_order_8 rfl (lv_at hl 0 rfl) ?_
  refine va_get (D := G) (ci := 2) (v := .ref (Q 1)) (C := RX2) (T := TX2) (N := 1) hx hb hts (fun w h => .tail _ (wl_X2 w h)) hown hK hP 2 rfl rfl 0 (by decide) (hts _ (.tail _ wd_104)) (fun _ h9 => h9) rfl dX2_order_9 ?_
  refine lv_iload_n hx hb dX2_order_12 rfl (lv_at hl 2 rfl) ?_
  obtain ⟨r2, ho2, hf⟩ := of_b0 hf
  refine gcRi (gV FX [.int p1] (c_hp_length l G cL cZ Q A z _ p1 _ ho2) (cwV 1 hts (gi_V wd_123 wd_61 wd_62 wd_7 wd_63) rfl rfl rfl hdV_X0_length ⟨Nat.le_of_ble_eq_true rfl, Nat.le_of_ble_eq_true rfl⟩) hK hP hD 1 rfl rfl rfl hl.1 (Nat.le_of_ble_eq_true rfl) dX2_order_13 ⟨by show _ ≤ 0; omega, by show _ ≤ 0; omega⟩) hS hD hA (fun H locs hP hS => ?_)
  refine va_mmin hx hb (hml.trans hl.1.symm) hown (hts _ (.tail _ wd_124)) (hts _ (.tail _ wd_125)) (hts _ (.tail _ wd_126)) (hts _ (.tail _ wd_127)) (Nat.le_of_ble_eq_true rfl) (Nat.le_of_ble_eq_true rfl) (by show _ ≤ 0; omega) (by show _ ≤ 0; omega) dX2_order_16 ?_
  obtain ⟨r3, ho3, hf⟩ := of_b0 hf
  refine gcRi (gS FX [.int (if r2 < r1 then r2 else r1)] (c_tx_wordsFor l G cL cZ Q A z _ (if r2 < r1 then r2 else r1) _ ho3) (cwS 1 hts (gi_S wd_120 wd_121 wd_107 wd_122) rfl rfl rfl hdS_X2_wordsFor ⟨Nat.le_of_ble_eq_true rfl, Nat.le_of_ble_eq_true rfl⟩) hK hP hD rfl hl.1 (Nat.le_of_ble_eq_true rfl) dX2_order_19 ⟨by show _ ≤ 0; omega, by show _ ≤ 0; omega⟩) hS hD hA (fun H locs hP hS => ?_)
  refine lv_istore_n (lv' := [(3, .int r3), (0, .ref (Q 2)), (1, .int p0), (2, .int p1)]) hx hb dX2_order_22 rfl hl (by decide) rfl (fun ls hl => ?_)
  refine lv_iconst (v := 0) hx hb dX2_order_23 (by decide) ?_
  refine lv_istore (lv' := [(4, .int 0), (3, .int r3), (0, .ref (Q 2)), (1, .int p0), (2, .int p1)]) hx hb dX2_order_24 hl (by decide) rfl (fun ls hl => ?_)
  exact L_tx_order_l26 _ _ _ _ _ _ _ _ _ _ _ _ _ _ _ _ _ _ C hK FU _ _ _ _ _ _ _ _ _ hP hD hS (lv_sub hl [2, 3, 4, 1, 0] rfl) hf (by omega) (by omega)
def At_tx_alike_l32 (l : Launch) (G : va_G) (cL cZ : ClassId) (Q : Nat → Nat) (A : Nat → Nat) (z : Hs) (p : Program) (e : Env) (s : State) (m : MethodId) (args : Array Value) (below : List Frame) (meth : Method) (c : Code) (O0 : Int32) (mcT msT : Nat) (F : Int32 → Int32 → Int32 → Int32 → Hs → Option (Int32)) : Prop := ∀ (x1 : Int32) (x2 : Int32) (x4 : Int32) (x5 : Int32) (H : Heap) (locs : List Loc) (ls : Array Slot) (cells slots : Nat), va_P G vwCl (cw cL cZ Q A z) H → va_D (va_A (cw cL cZ Q A z) s.heap.size) (cw cL cZ Q A z) → va_S (va_A (cw cL cZ Q A z) s.heap.size) s.heap H locs → lv_has ls 6 [(0, .ref (Q 2)), (1, .int x1), (2, .int x2), (4, .int x4), (5, .int x5)] → F x1 x2 x4 x5 z = some O0 → cells + 0 ≤ mcT → slots + 0 ≤ msT → W p l e { frames := 2, cells := mcT, slots := msT, locals := 42 } s m args below meth c H locs cells slots (MQ below (qRi G vwCl (ct cL cZ) (cw cL cZ Q A z) s.heap.size O0) args s mcT msT (va_A (cw cL cZ Q A z) s.heap.size)) (F0 m 32 ls [])
set_option maxHeartbeats 4000000 in
set_option maxRecDepth 100000 in
theorem L_tx_alike_l32 (l : Launch) (G : va_G) (cL cZ : ClassId) (Q : Nat → Nat) (A : Nat → Nat) (z : Hs) (p : Program) (e : Env) (s : State) (m : MethodId) (args : Array Value) (below : List Frame) (meth : Method) (c : Code) (O0 : Int32) (mcT msT : Nat) (C : MC p s m args meth c cX2_alike 6 (some .boolean) RX2 vX2_alike) (hK : va_K G vwCl (ct cL cZ) s) : ∀ n : Nat, At_tx_alike_l32 l G cL cZ Q A z p e s m args below meth c O0 mcT msT (tx_alike_l32 n) := by
  obtain ⟨hx, hb, hr, hml, hown, hts, hlocks⟩ := id C
  have FX : CallFix p m c cX2_alike 6 s args vX2_alike RX2 := ⟨hx, hb, hml, hown, hts⟩
  have hA : ∀ q9 : Nat, s.heap.size ≤ q9 → va_A (cw cL cZ Q A z) s.heap.size q9 := fun q9 h => Or.inr h
  intro n
  induction n with
  | zero =>
    intro x1 x2 x4 x5 H locs ls cells slots hP hD hS hl hf hcc hss
    exact nomatch (show none = some _ from hf)
  | succ n ih =>
    intro x1 x2 x4 x5 H locs ls cells slots hP hD hS hl hf hcc hss
    rw [tx_alike_l32] at hf
    refine lv_iload hx hb dX2_alike_32 (lv_at hl 4 rfl) ?_
    refine lv_iload hx hb dX2_alike_34 (lv_at hl 3 rfl) ?_
    refine lv_icmp_ge (tgt := 87) hx hb dX2_alike_36 (by decide) (fun c5 => ?_) (fun c5 => ?_)
    · have hf := (if_pos c5).symm.trans hf
      refine lv_iconst (v := 1) hx hb dX2_alike_87 (by decide) ?_
      obtain rfl := Option.some.inj hf
      exact grRz (by decide) hx hb hr hlocks hP hK hD hS dX2_alike_88 (by omega) (by omega)
    · have hf := (if_neg c5).symm.trans hf
      refine lv_aload_n hx hb dX2_alike_39 rfl (lv_at hl 0 rfl) ?_
      refine va_get (D := G) (ci := 2) (v := .ref (Q 1)) (C := RX2) (T := TX2) (N := 1) hx hb hts (fun w h => .tail _ (wl_X2 w h)) hown hK hP 2 rfl rfl 0 (by decide) (hts _ (.tail _ wd_104)) (fun _ h9 => h9) rfl dX2_alike_40 ?_
      refine lv_aload_n hx hb dX2_alike_43 rfl (lv_at hl 0 rfl) ?_
      refine va_get (D := G) (ci := 2) (v := .ref (Q 1)) (C := RX2) (T := TX2) (N := 1) hx hb hts (fun w h => .tail _ (wl_X2 w h)) hown hK hP 2 rfl rfl 0 (by decide) (hts _ (.tail _ wd_104)) (fun _ h9 => h9) rfl dX2_alike_44 ?_
      refine lv_iload_n hx hb dX2_alike_47 rfl (lv_at hl 1 rfl) ?_
      obtain ⟨r6, ho6, hf⟩ := of_b0 hf
      refine gcRi (gV FX [.int x1] (c_hp_first l G cL cZ Q A z _ x1 _ ho6) (cwV 1 hts (gi_V wd_113 wd_65 wd_66 wd_7 wd_67) rfl rfl rfl hdV_X0_first ⟨Nat.le_of_ble_eq_true rfl, Nat.le_of_ble_eq_true rfl⟩) hK hP hD 1 rfl rfl rfl hl.1 (Nat.le_of_ble_eq_true rfl) dX2_alike_48 ⟨by show _ ≤ mcT; omega, by show _ ≤ msT; omega⟩) hS hD hA (fun H locs hP hS => ?_)
      refine lv_iload hx hb dX2_alike_51 (lv_at hl 4 rfl) ?_
      refine lv_iadd hx hb dX2_alike_53 ?_
      obtain ⟨r7, ho7, hf⟩ := of_b0 hf
      refine gcRl (gV FX [.int (r6 + x5)] (c_hp_bitsAt l G cL cZ Q A z _ (r6 + x5) _ ho7) (cwV 1 hts (gi_V wd_109 wd_110 wd_111 wd_7 wd_112) rfl rfl rfl hdV_X0_bitsAt ⟨Nat.le_of_ble_eq_true rfl, Nat.le_of_ble_eq_true rfl⟩) hK hP hD 1 rfl rfl rfl hl.1 (Nat.le_of_ble_eq_true rfl) dX2_alike_54 ⟨by show _ ≤ mcT; omega, by show _ ≤ msT; omega⟩) hS hD hA (fun H locs hP hS => ?_)
      refine lv_aload_n hx hb dX2_alike_57 rfl (lv_at hl 0 rfl) ?_
      refine va_get (D := G) (ci := 2) (v := .ref (Q 1)) (C := RX2) (T := TX2) (N := 1) hx hb hts (fun w h => .tail _ (wl_X2 w h)) hown hK hP 2 rfl rfl 0 (by decide) (hts _ (.tail _ wd_104)) (fun _ h9 => h9) rfl dX2_alike_58 ?_
      refine lv_aload_n hx hb dX2_alike_61 rfl (lv_at hl 0 rfl) ?_
      refine va_get (D := G) (ci := 2) (v := .ref (Q 1)) (C := RX2) (T := TX2) (N := 1) hx hb hts (fun w h => .tail _ (wl_X2 w h)) hown hK hP 2 rfl rfl 0 (by decide) (hts _ (.tail _ wd_104)) (fun _ h9 => h9) rfl dX2_alike_62 ?_
      refine lv_iload_n hx hb dX2_alike_65 rfl (lv_at hl 2 rfl) ?_
      obtain ⟨r8, ho8, hf⟩ := of_b0 hf
      refine gcRi (gV FX [.int x2] (c_hp_first l G cL cZ Q A z _ x2 _ ho8) (cwV 1 hts (gi_V wd_113 wd_65 wd_66 wd_7 wd_67) rfl rfl rfl hdV_X0_first ⟨Nat.le_of_ble_eq_true rfl, Nat.le_of_ble_eq_true rfl⟩) hK hP hD 1 rfl rfl rfl hl.1 (Nat.le_of_ble_eq_true rfl) dX2_alike_66 ⟨by show _ ≤ mcT; omega, by show _ ≤ msT; omega⟩) hS hD hA (fun H locs hP hS => ?_)
      refine lv_iload hx hb dX2_alike_69 (lv_at hl 4 rfl) ?_
      refine lv_iadd hx hb dX2_alike_71 ?_
      obtain ⟨r9, ho9, hf⟩ := of_b0 hf
      refine gcRl (gV FX [.int (r8 + x5)] (c_hp_bitsAt l G cL cZ Q A z _ (r8 + x5) _ ho9) (cwV 1 hts (gi_V wd_109 wd_110 wd_111 wd_7 wd_112) rfl rfl rfl hdV_X0_bitsAt ⟨Nat.le_of_ble_eq_true rfl, Nat.le_of_ble_eq_true rfl⟩) hK hP hD 1 rfl rfl rfl hl.1 (Nat.le_of_ble_eq_true rfl) dX2_alike_72 ⟨by show _ ≤ mcT; omega, by show _ ≤ msT; omega⟩) hS hD hA (fun H locs hP hS => ?_)
      refine W.lcmp hx hb dX2_alike_75 ?_
      refine lv_if_eq (tgt := 81) hx hb dX2_alike_76 (by decide) (fun c10 => ?_) (fun c10 => ?_)
      · have hf := (if_pos c10).symm.trans hf
        refine lv_iinc (v := (x5 + 1)) (lv' := [(5, .int (x5 + 1)), (0, .ref (Q 2)), (1, .int x1), (2, .int x2), (4, .int x4)]) hx hb dX2_alike_81 hl (k := 4) rfl rfl (by decide) rfl (fun ls hl => ?_)
        refine lv_goto (tgt := 32) hx hb dX2_alike_84 (by decide) ?_
        exact ih _ _ _ _ _ _ _ _ _ hP hD hS (lv_sub hl [1, 2, 3, 4, 0] rfl) hf (by omega) (by omega)
      · have hf := (if_neg c10).symm.trans hf
        refine lv_iconst (v := 0) hx hb dX2_alike_79 (by decide) ?_
        obtain rfl := Option.some.inj hf
        exact grRz (by decide) hx hb hr hlocks hP hK hD hS dX2_alike_80 (by omega) (by omega)
set_option maxHeartbeats 4000000 in
set_option maxRecDepth 100000 in
theorem c_tx_alike (l : Launch) (G : va_G) (cL cZ : ClassId) (Q : Nat → Nat) (A : Nat → Nat) (z : Hs) (sz : Nat) (p0 : Int32) (p1 : Int32) (O0 : Int32) (hf : tx_alike z p0 p1 = some O0) : Met l yX2_alike vX2_alike { frames := 2, cells := 0, slots := 0, locals := 42 } (gPc G vwCl (ct cL cZ) [.ref (Q 2), .int p0, .int p1] (cw cL cZ Q A z) sz) (qRi G vwCl (ct cL cZ) (cw cL cZ Q A z) sz O0) 0 0 (va_A (cw cL cZ Q A z) sz) := by
  refine gMet (by decide) rfl (Nat.le_of_ble_eq_true rfl) ?_
  intro p e s m below meth c ls C hK hP hD hsz hl
  subst hsz
  obtain ⟨hx, hb, hr, hml, hown, hts, hlocks⟩ := id C
  have FX : CallFix p m c cX2_alike 6 s _ vX2_alike RX2 := ⟨hx, hb, hml, hown, hts⟩
  have hA : ∀ q9 : Nat, s.heap.size ≤ q9 → va_A (cw cL cZ Q A z) s.heap.size q9 := fun q9 h => Or.inr h
  have hS : va_S (va_A (cw cL cZ Q A z) s.heap.size) s.heap s.heap [] := va_S.rf
  have hl : lv_has ls 6 [(0, .ref (Q 2)), (1, .int p0), (2, .int p1)] := hl
  unfold tx_alike at hf
  refine lv_aload_n hx hb dX2_alike_0 rfl (lv_at hl 0 rfl) ?_
  refine va_get (D := G) (ci := 2) (v := .ref (Q 1)) (C := RX2) (T := TX2) (N := 1) hx hb hts (fun w h => .tail _ (wl_X2 w h)) hown hK hP 2 rfl rfl 0 (by decide) (hts _ (.tail _ wd_104)) (fun _ h9 => h9) rfl dX2_alike_1 ?_
  refine lv_iload_n hx hb dX2_alike_4 rfl (lv_at hl 1 rfl) ?_
  obtain ⟨r1, ho1, hf⟩ := of_b0 hf
  refine gcRi (gV FX [.int p0] (c_hp_length l G cL cZ Q A z _ p0 _ ho1) (cwV 1 hts (gi_V wd_123 wd_61 wd_62 wd_7 wd_63) rfl rfl rfl hdV_X0_length ⟨Nat.le_of_ble_eq_true rfl, Nat.le_of_ble_eq_true rfl⟩) hK hP hD 1 rfl rfl rfl hl.1 (Nat.le_of_ble_eq_true rfl) dX2_alike_5 ⟨by show _ ≤ 0; omega, by show _ ≤ 0; omega⟩) hS hD hA (fun H locs hP hS => ?_)
  refine lv_istore_n (lv' := [(3, .int r1), (0, .ref (Q 2)), (1, .int p0), (2, .int p1)]) hx hb dX2_alike_8 rfl hl (by decide) rfl (fun ls hl => ?_)
  refine lv_iload_n hx hb dX2_alike_9 rfl (lv_at hl 0 rfl) ?_
  refine lv_aload_n hx hb dX2_alike_10 rfl (lv_at hl 1 rfl) ?_
  refine va_get (D := G) (ci := 2) (v := .ref (Q 1)) (C := RX2) (T := TX2) (N := 1) hx hb hts (fun w h => .tail _ (wl_X2 w h)) hown hK hP 2 rfl rfl 0 (by decide) (hts _ (.tail _ wd_104)) (fun _ h9 => h9) rfl dX2_alike_11 ?_
  refine lv_iload_n hx hb dX2_alike_14 rfl (lv_at hl 3 rfl) ?_
  obtain ⟨r2, ho2, hf⟩ := of_b0 hf
  refine gcRi (gV FX [.int p1] (c_hp_length l G cL cZ Q A z _ p1 _ ho2) (cwV 1 hts (gi_V wd_123 wd_61 wd_62 wd_7 wd_63) rfl rfl rfl hdV_X0_length ⟨Nat.le_of_ble_eq_true rfl, Nat.le_of_ble_eq_true rfl⟩) hK hP hD 1 rfl rfl rfl hl.1 (Nat.le_of_ble_eq_true rfl) dX2_alike_15 ⟨by show _ ≤ 0; omega, by show _ ≤ 0; omega⟩) hS hD hA (fun H locs hP hS => ?_)
  refine lv_icmp_eq (tgt := 23) hx hb dX2_alike_18 (by decide) (fun c3 => ?_) (fun c3 => ?_)
  · have hf := (if_pos c3).symm.trans hf
    refine lv_iload_n hx hb dX2_alike_23 rfl (lv_at hl 0 rfl) ?_
    obtain ⟨r4, ho4, hf⟩ := of_b0 hf
    refine gcRi (gS FX [.int r1] (c_tx_wordsFor l G cL cZ Q A z _ r1 _ ho4) (cwS 1 hts (gi_S wd_120 wd_121 wd_107 wd_122) rfl rfl rfl hdS_X2_wordsFor ⟨Nat.le_of_ble_eq_true rfl, Nat.le_of_ble_eq_true rfl⟩) hK hP hD rfl hl.1 (Nat.le_of_ble_eq_true rfl) dX2_alike_24 ⟨by show _ ≤ 0; omega, by show _ ≤ 0; omega⟩) hS hD hA (fun H locs hP hS => ?_)
    refine lv_istore (lv' := [(4, .int r4), (3, .int r1), (0, .ref (Q 2)), (1, .int p0), (2, .int p1)]) hx hb dX2_alike_27 hl (by decide) rfl (fun ls hl => ?_)
    refine lv_iconst (v := 0) hx hb dX2_alike_29 (by decide) ?_
    refine lv_istore (lv' := [(5, .int 0), (4, .int r4), (3, .int r1), (0, .ref (Q 2)), (1, .int p0), (2, .int p1)]) hx hb dX2_alike_30 hl (by decide) rfl (fun ls hl => ?_)
    exact L_tx_alike_l32 _ _ _ _ _ _ _ _ _ _ _ _ _ _ _ _ _ _ C hK FU _ _ _ _ _ _ _ _ _ hP hD hS (lv_sub hl [3, 4, 5, 1, 0] rfl) hf (by omega) (by omega)
  · have hf := (if_neg c3).symm.trans hf
    refine lv_iconst (v := 0) hx hb dX2_alike_21 (by decide) ?_
    obtain rfl := Option.some.inj hf
    exact grRz (by decide) hx hb hr hlocks hP hK hD hS dX2_alike_22 (by omega) (by omega)
set_option maxHeartbeats 4000000 in
set_option maxRecDepth 100000 in
theorem c_tx_eightFrom (l : Launch) (G : va_G) (cL cZ : ClassId) (Q : Nat → Nat) (A : Nat → Nat) (z : Hs) (sz : Nat) (p0 : Int32) (p1 : Int32) (O0 : Int64) (hf : tx_eightFrom z p0 p1 = some O0) : Met l yX2_eightFrom vX2_eightFrom { frames := 3, cells := 0, slots := 0, locals := 64 } (gPc G vwCl (ct cL cZ) [.ref (Q 2), .int p0, .int p1] (cw cL cZ Q A z) sz) (qRl G vwCl (ct cL cZ) (cw cL cZ Q A z) sz O0) 0 0 (va_A (cw cL cZ Q A z) sz) := by
  refine gMet (by decide) rfl (Nat.le_of_ble_eq_true rfl) ?_
  intro p e s m below meth c ls C hK hP hD hsz hl
  subst hsz
  obtain ⟨hx, hb, hr, hml, hown, hts, hlocks⟩ := id C
  have FX : CallFix p m c cX2_eightFrom 6 s _ vX2_eightFrom RX2 := ⟨hx, hb, hml, hown, hts⟩
  have hA : ∀ q9 : Nat, s.heap.size ≤ q9 → va_A (cw cL cZ Q A z) s.heap.size q9 := fun q9 h => Or.inr h
  have hS : va_S (va_A (cw cL cZ Q A z) s.heap.size) s.heap s.heap [] := va_S.rf
  have hl : lv_has ls 6 [(0, .ref (Q 2)), (1, .int p0), (2, .int p1)] := hl
  unfold tx_eightFrom at hf
  refine lv_bipush (v := 8) hx hb dX2_eightFrom_0 (by decide) ?_
  refine lv_iload_n hx hb dX2_eightFrom_2 rfl (lv_at hl 2 rfl) ?_
  refine lv_bipush (v := 7) hx hb dX2_eightFrom_3 (by decide) ?_
  refine lv_iand hx hb dX2_eightFrom_5 ?_
  refine lv_imul hx hb dX2_eightFrom_6 ?_
  refine lv_istore_n (lv' := [(3, .int (8 * (p1 &&& 7))), (0, .ref (Q 2)), (1, .int p0), (2, .int p1)]) hx hb dX2_eightFrom_7 rfl hl (by decide) rfl (fun ls hl => ?_)
  refine lv_aload_n hx hb dX2_eightFrom_8 rfl (lv_at hl 1 rfl) ?_
  refine lv_iload_n hx hb dX2_eightFrom_9 rfl (lv_at hl 2 rfl) ?_
  refine lv_iload_n hx hb dX2_eightFrom_10 rfl (lv_at hl 3 rfl) ?_
  refine lv_iconst (v := 3) hx hb dX2_eightFrom_11 (by decide) ?_
  refine lv_ishr hx hb dX2_eightFrom_12 ?_
  obtain ⟨r1, ho1, hf⟩ := of_b0 hf
  refine gcRl (gV FX [.int p0, .int (p1 >>> ((3 : Int32) &&& 31))] (c_tx_wordOf l G cL cZ Q A z _ p0 (p1 >>> ((3 : Int32) &&& 31)) _ ho1) (cwV 2 hts (gi_V wd_137 wd_138 wd_139 wd_107 wd_140) rfl rfl rfl hdV_X2_wordOf ⟨Nat.le_of_ble_eq_true rfl, Nat.le_of_ble_eq_true rfl⟩) hK hP hD 2 rfl rfl rfl hl.1 (Nat.le_of_ble_eq_true rfl) dX2_eightFrom_13 ⟨by show _ ≤ 0; omega, by show _ ≤ 0; omega⟩) hS hD hA (fun H locs hP hS => ?_)
  refine lv_iload_n hx hb dX2_eightFrom_16 rfl (lv_at hl 0 rfl) ?_
  refine lv_lshl hx hb dX2_eightFrom_17 rfl ?_
  refine lv_lstore (lv' := [(4, .long (r1 <<< ((8 * (p1 &&& 7)).toInt64 &&& 63))), (3, .int (8 * (p1 &&& 7))), (0, .ref (Q 2)), (1, .int p0), (2, .int p1)]) hx hb dX2_eightFrom_18 hl (by decide) rfl (fun ls hl => ?_)
  refine lv_iload_n hx hb dX2_eightFrom_20 rfl (lv_at hl 1 rfl) ?_
  refine lv_if_ne (tgt := 29) hx hb dX2_eightFrom_21 (by decide) (fun c2 => ?_) (fun c2 => ?_)
  · have hf := (if_neg c2).symm.trans hf
    refine lv_lload hx hb dX2_eightFrom_29 (lv_at hl 0 rfl) ?_
    refine lv_aload_n hx hb dX2_eightFrom_31 rfl (lv_at hl 2 rfl) ?_
    refine lv_iload_n hx hb dX2_eightFrom_32 rfl (lv_at hl 3 rfl) ?_
    refine lv_iload_n hx hb dX2_eightFrom_33 rfl (lv_at hl 4 rfl) ?_
    refine lv_iconst (v := 3) hx hb dX2_eightFrom_34 (by decide) ?_
    refine lv_ishr hx hb dX2_eightFrom_35 ?_
    refine lv_iconst (v := 1) hx hb dX2_eightFrom_36 (by decide) ?_
    refine lv_iadd hx hb dX2_eightFrom_37 ?_
    obtain ⟨r3, ho3, hf⟩ := of_b0 hf
    refine gcRl (gV FX [.int p0, .int ((p1 >>> ((3 : Int32) &&& 31)) + 1)] (c_tx_wordOf l G cL cZ Q A z _ p0 ((p1 >>> ((3 : Int32) &&& 31)) + 1) _ ho3) (cwV 2 hts (gi_V wd_137 wd_138 wd_139 wd_107 wd_140) rfl rfl rfl hdV_X2_wordOf ⟨Nat.le_of_ble_eq_true rfl, Nat.le_of_ble_eq_true rfl⟩) hK hP hD 2 rfl rfl rfl hl.1 (Nat.le_of_ble_eq_true rfl) dX2_eightFrom_38 ⟨by show _ ≤ 0; omega, by show _ ≤ 0; omega⟩) hS hD hA (fun H locs hP hS => ?_)
    refine lv_bipush (v := 64) hx hb dX2_eightFrom_41 (by decide) ?_
    refine lv_iload_n hx hb dX2_eightFrom_43 rfl (lv_at hl 1 rfl) ?_
    refine lv_isub hx hb dX2_eightFrom_44 ?_
    refine lv_lushr hx hb dX2_eightFrom_45 rfl ?_
    refine lv_lor hx hb dX2_eightFrom_46 ?_
    obtain rfl := Option.some.inj hf
    exact grRl hx hb hr hlocks hP hK hD hS dX2_eightFrom_47 (by omega) (by omega)
  · have hf := (if_pos c2).symm.trans hf
    refine lv_lload hx hb dX2_eightFrom_24 (lv_at hl 0 rfl) ?_
    refine lv_goto (tgt := 47) hx hb dX2_eightFrom_26 (by decide) ?_
    obtain rfl := Option.some.inj hf
    exact grRl hx hb hr hlocks hP hK hD hS dX2_eightFrom_47 (by omega) (by omega)
def At_tx_joined_l36 (l : Launch) (G : va_G) (cL cZ : ClassId) (Q : Nat → Nat) (w : va_W) (p : Program) (e : Env) (s : State) (m : MethodId) (args : Array Value) (below : List Frame) (meth : Method) (c : Code) (O0 : Hs × (String ⊕ Int32)) (mcT msT : Nat) (F : Int32 → Int32 → Int32 → Int32 → Int32 → Int32 → Hs → Option (Nat × Hs × (String ⊕ Int32))) : Prop := ∀ (A : Nat → Nat) (z : Hs) (x1 : Int32) (x2 : Int32) (x3 : Int32) (x4 : Int32) (x5 : Int32) (x6 : Int32) (d0 : Nat) (H : Heap) (locs : List Loc) (ls : Array Slot) (cells slots : Nat), va_P G vwCl (cw cL cZ Q A z) H → va_D (va_A w s.heap.size) (cw cL cZ Q A z) → va_S (va_A w s.heap.size) s.heap H locs → lv_has ls 7 [(0, .ref (Q 2)), (1, .int x1), (2, .int x2), (3, .int x3), (4, .int x4), (5, .int x5), (6, .int x6)] → F x1 x2 x3 x4 x5 x6 z = some (d0, O0) → cells + 0 ≤ mcT → slots + (0 + d0) ≤ msT → W p l e { frames := 10, cells := mcT, slots := msT, locals := 243 } s m args below meth c H locs cells slots (vx_MQ below (qXi G vwCl (ct cL cZ) w s.heap.size (cw cL cZ Q) O0) (xX G vwCl (ct cL cZ) w s.heap.size (cw cL cZ Q) O0) args s mcT msT (va_A w s.heap.size)) (F0 m 36 ls [])
set_option maxHeartbeats 4000000 in
set_option maxRecDepth 100000 in
theorem L_tx_joined_l36 (l : Launch) (G : va_G) (cL cZ : ClassId) (Q : Nat → Nat) (w : va_W) (p : Program) (e : Env) (s : State) (m : MethodId) (args : Array Value) (below : List Frame) (meth : Method) (c : Code) (O0 : Hs × (String ⊕ Int32)) (mcT msT : Nat) (C : MC p s m args meth c cX2_joined 7 (some .int) RX2 vX2_joined) (hl0 : l.stackTraces = false) (hE : ∀ x ∈ c.exceptionTable.toList, False) (hT : gTh txC (va_A w s.heap.size) s s.heap) (hK : va_K G vwCl (ct cL cZ) s) : ∀ n : Nat, At_tx_joined_l36 l G cL cZ Q w p e s m args below meth c O0 mcT msT (tx_joined_l36 n) := by
  obtain ⟨hx, hb, hr, hml, hown, hts, hlocks⟩ := id C
  have FX : CallFix p m c cX2_joined 7 s args vX2_joined RX2 := ⟨hx, hb, hml, hown, hts⟩
  have hA : ∀ q9 : Nat, s.heap.size ≤ q9 → va_A w s.heap.size q9 := fun q9 h => Or.inr h
  intro n
  induction n with
  | zero =>
    intro A z x1 x2 x3 x4 x5 x6 d0 H locs ls cells slots hP hD hS hl hf hcc hss
    exact nomatch (show none = some _ from hf)
  | succ n ih =>
    intro A z x1 x2 x3 x4 x5 x6 d0 H locs ls cells slots hP hD hS hl hf hcc hss
    rw [tx_joined_l36] at hf
    refine lv_iload hx hb dX2_joined_36 (lv_at hl 6 rfl) ?_
    refine lv_iload hx hb dX2_joined_38 (lv_at hl 4 rfl) ?_
    obtain ⟨r4, ho4, hf⟩ := of_b0 hf
    refine gcRi (gS FX [.int x4] (c_tx_wordsFor l G cL cZ Q A z _ x4 _ ho4) (cwS 1 hts (gi_S wd_120 wd_121 wd_107 wd_122) rfl rfl rfl hdS_X2_wordsFor ⟨Nat.le_of_ble_eq_true rfl, Nat.le_of_ble_eq_true rfl⟩) hK hP hD rfl hl.1 (Nat.le_of_ble_eq_true rfl) dX2_joined_40 ⟨by show _ ≤ mcT; omega, by show _ ≤ msT; omega⟩) hS hD hA (fun H locs hP hS => ?_)
    refine lv_icmp_ge (tgt := 91) hx hb dX2_joined_43 (by decide) (fun c5 => ?_) (fun c5 => ?_)
    · have hf := (if_pos c5).symm.trans hf
      refine lv_iload hx hb dX2_joined_91 (lv_at hl 5 rfl) ?_
      obtain ⟨hc0, hj0⟩ := of_some2 hf
      subst hj0
      exact grXi hx hb hr hlocks hP hK hD hS dX2_joined_93 (by omega) (by omega)
    · have hf := (if_neg c5).symm.trans hf
      refine lv_aload_n hx hb dX2_joined_46 rfl (lv_at hl 0 rfl) ?_
      refine va_get (D := G) (ci := 2) (v := .ref (Q 1)) (C := RX2) (T := TX2) (N := 1) hx hb hts (fun w h => .tail _ (wl_X2 w h)) hown hK hP 2 rfl rfl 0 (by decide) (hts _ (.tail _ wd_104)) (fun _ h9 => h9) rfl dX2_joined_47 ?_
      refine lv_aload_n hx hb dX2_joined_50 rfl (lv_at hl 0 rfl) ?_
      refine va_get (D := G) (ci := 2) (v := .ref (Q 1)) (C := RX2) (T := TX2) (N := 1) hx hb hts (fun w h => .tail _ (wl_X2 w h)) hown hK hP 2 rfl rfl 0 (by decide) (hts _ (.tail _ wd_104)) (fun _ h9 => h9) rfl dX2_joined_51 ?_
      refine lv_iload hx hb dX2_joined_54 (lv_at hl 5 rfl) ?_
      obtain ⟨r6, ho6, hf⟩ := of_b0 hf
      refine gcRi (gV FX [.int x5] (c_hp_first l G cL cZ Q A z _ x5 _ ho6) (cwV 1 hts (gi_V wd_113 wd_65 wd_66 wd_7 wd_67) rfl rfl rfl hdV_X0_first ⟨Nat.le_of_ble_eq_true rfl, Nat.le_of_ble_eq_true rfl⟩) hK hP hD 1 rfl rfl rfl hl.1 (Nat.le_of_ble_eq_true rfl) dX2_joined_56 ⟨by show _ ≤ mcT; omega, by show _ ≤ msT; omega⟩) hS hD hA (fun H locs hP hS => ?_)
      refine lv_iload hx hb dX2_joined_59 (lv_at hl 6 rfl) ?_
      refine lv_iadd hx hb dX2_joined_61 ?_
      refine lv_aload_n hx hb dX2_joined_62 rfl (lv_at hl 0 rfl) ?_
      refine lv_iload_n hx hb dX2_joined_63 rfl (lv_at hl 1 rfl) ?_
      refine lv_iload hx hb dX2_joined_64 (lv_at hl 6 rfl) ?_
      obtain ⟨r7, ho7, hf⟩ := of_b0 hf
      refine gcRl (gV FX [.int x1, .int x6] (c_tx_wordOf l G cL cZ Q A z _ x1 x6 _ ho7) (cwV 2 hts (gi_V wd_137 wd_138 wd_139 wd_107 wd_140) rfl rfl rfl hdV_X2_wordOf ⟨Nat.le_of_ble_eq_true rfl, Nat.le_of_ble_eq_true rfl⟩) hK hP hD 2 rfl rfl rfl hl.1 (Nat.le_of_ble_eq_true rfl) dX2_joined_66 ⟨by show _ ≤ mcT; omega, by show _ ≤ msT; omega⟩) hS hD hA (fun H locs hP hS => ?_)
      refine lv_aload_n hx hb dX2_joined_69 rfl (lv_at hl 0 rfl) ?_
      refine lv_iload_n hx hb dX2_joined_70 rfl (lv_at hl 2 rfl) ?_
      refine lv_bipush (v := 8) hx hb dX2_joined_71 (by decide) ?_
      refine lv_iload hx hb dX2_joined_73 (lv_at hl 6 rfl) ?_
      refine lv_imul hx hb dX2_joined_75 ?_
      refine lv_iload_n hx hb dX2_joined_76 rfl (lv_at hl 3 rfl) ?_
      refine lv_isub hx hb dX2_joined_77 ?_
      obtain ⟨r8, ho8, hf⟩ := of_b0 hf
      refine gcRl (gV FX [.int x2, .int ((8 * x6) - x3)] (c_tx_eightFrom l G cL cZ Q A z _ x2 ((8 * x6) - x3) _ ho8) (cwV 2 hts (gi_V wd_145 wd_146 wd_147 wd_107 wd_148) rfl rfl rfl hdV_X2_eightFrom ⟨Nat.le_of_ble_eq_true rfl, Nat.le_of_ble_eq_true rfl⟩) hK hP hD 2 rfl rfl rfl hl.1 (Nat.le_of_ble_eq_true rfl) dX2_joined_78 ⟨by show _ ≤ mcT; omega, by show _ ≤ msT; omega⟩) hS hD hA (fun H locs hP hS => ?_)
      refine lv_lor hx hb dX2_joined_81 ?_
      obtain ⟨z9, o9, ho9, hf⟩ := of_bw hf
      refine gcWv (gV FX [.int (r6 + x6), .long (r7 ||| r8)] (c_hp_setNumber l G cL cZ Q A z _ (r6 + x6) (r7 ||| r8) _ ho9) (cwV 2 hts (gi_V wd_116 wd_117 wd_118 wd_7 wd_119) rfl rfl rfl hdV_X0_setNumber ⟨Nat.le_of_ble_eq_true rfl, Nat.le_of_ble_eq_true rfl⟩) hK hP hD 1 rfl rfl rfl hl.1 (Nat.le_of_ble_eq_true rfl) dX2_joined_82 ⟨by show _ ≤ mcT; omega, by show _ ≤ msT; omega⟩) hS hD hA (fun A H locs hP hD hS => ?_)
      refine lv_iinc (v := (x6 + 1)) (lv' := [(6, .int (x6 + 1)), (0, .ref (Q 2)), (1, .int x1), (2, .int x2), (3, .int x3), (4, .int x4), (5, .int x5)]) hx hb dX2_joined_85 hl (k := 6) rfl rfl (by decide) rfl (fun ls hl => ?_)
      refine lv_goto (tgt := 36) hx hb dX2_joined_88 (by decide) ?_
      exact ih _ _ _ _ _ _ _ _ _ _ _ _ _ _ hP hD hS (lv_sub hl [1, 2, 3, 4, 5, 6, 0] rfl) hf (by omega) (by omega)
set_option maxHeartbeats 4000000 in
set_option maxRecDepth 100000 in
theorem c_tx_joined (l : Launch) (hl0 : l.stackTraces = false) (G : va_G) (cL cZ : ClassId) (Q : Nat → Nat) (A : Nat → Nat) (z : Hs) (sz : Nat) (p0 : Int32) (p1 : Int32) (c0 : Nat) (O0 : Hs × (String ⊕ Int32)) (hf : tx_joined z p0 p1 = some (c0, O0)) : vx_Met l yX2_joined vX2_joined { frames := 10, cells := 6, slots := 6 + c0, locals := 243 } (gPx txC G vwCl (ct cL cZ) [.ref (Q 2), .int p0, .int p1] (cw cL cZ Q A z) sz) (qXi G vwCl (ct cL cZ) (cw cL cZ Q A z) sz (cw cL cZ Q) O0) (xX G vwCl (ct cL cZ) (cw cL cZ Q A z) sz (cw cL cZ Q) O0) 6 (6 + c0) (va_A (cw cL cZ Q A z) sz) := by
  refine gMetx (by decide) rfl (Nat.le_of_ble_eq_true rfl) ?_
  intro p e s m below meth c ls C hE hK hP hD hT hsz hl
  subst hsz
  obtain ⟨hx, hb, hr, hml, hown, hts, hlocks⟩ := id C
  have FX : CallFix p m c cX2_joined 7 s _ vX2_joined RX2 := ⟨hx, hb, hml, hown, hts⟩
  have hA : ∀ q9 : Nat, s.heap.size ≤ q9 → va_A (cw cL cZ Q A z) s.heap.size q9 := fun q9 h => Or.inr h
  have hS : va_S (va_A (cw cL cZ Q A z) s.heap.size) s.heap s.heap [] := va_S.rf
  have hl : lv_has ls 7 [(0, .ref (Q 2)), (1, .int p0), (2, .int p1)] := hl
  unfold tx_joined at hf
  refine lv_aload_n hx hb dX2_joined_0 rfl (lv_at hl 0 rfl) ?_
  refine va_get (D := G) (ci := 2) (v := .ref (Q 1)) (C := RX2) (T := TX2) (N := 1) hx hb hts (fun w h => .tail _ (wl_X2 w h)) hown hK hP 2 rfl rfl 0 (by decide) (hts _ (.tail _ wd_104)) (fun _ h9 => h9) rfl dX2_joined_1 ?_
  refine lv_iload_n hx hb dX2_joined_4 rfl (lv_at hl 1 rfl) ?_
  obtain ⟨r1, ho1, hf⟩ := of_b0 hf
  refine gcRi (gV FX [.int p0] (c_hp_length l G cL cZ Q A z _ p0 _ ho1) (cwV 1 hts (gi_V wd_123 wd_61 wd_62 wd_7 wd_63) rfl rfl rfl hdV_X0_length ⟨Nat.le_of_ble_eq_true rfl, Nat.le_of_ble_eq_true rfl⟩) hK hP hD 1 rfl rfl rfl hl.1 (Nat.le_of_ble_eq_true rfl) dX2_joined_5 ⟨by show _ ≤ 6; omega, by show _ ≤ 6 + c0; omega⟩) hS hD hA (fun H locs hP hS => ?_)
  refine lv_istore_n (lv' := [(3, .int r1), (0, .ref (Q 2)), (1, .int p0), (2, .int p1)]) hx hb dX2_joined_8 rfl hl (by decide) rfl (fun ls hl => ?_)
  refine lv_iload_n hx hb dX2_joined_9 rfl (lv_at hl 0 rfl) ?_
  refine lv_aload_n hx hb dX2_joined_10 rfl (lv_at hl 1 rfl) ?_
  refine va_get (D := G) (ci := 2) (v := .ref (Q 1)) (C := RX2) (T := TX2) (N := 1) hx hb hts (fun w h => .tail _ (wl_X2 w h)) hown hK hP 2 rfl rfl 0 (by decide) (hts _ (.tail _ wd_104)) (fun _ h9 => h9) rfl dX2_joined_11 ?_
  refine lv_iload_n hx hb dX2_joined_14 rfl (lv_at hl 3 rfl) ?_
  obtain ⟨r2, ho2, hf⟩ := of_b0 hf
  refine gcRi (gV FX [.int p1] (c_hp_length l G cL cZ Q A z _ p1 _ ho2) (cwV 1 hts (gi_V wd_123 wd_61 wd_62 wd_7 wd_63) rfl rfl rfl hdV_X0_length ⟨Nat.le_of_ble_eq_true rfl, Nat.le_of_ble_eq_true rfl⟩) hK hP hD 1 rfl rfl rfl hl.1 (Nat.le_of_ble_eq_true rfl) dX2_joined_15 ⟨by show _ ≤ 6; omega, by show _ ≤ 6 + c0; omega⟩) hS hD hA (fun H locs hP hS => ?_)
  refine lv_iadd hx hb dX2_joined_18 ?_
  refine lv_istore (lv' := [(4, .int (r1 + r2)), (3, .int r1), (0, .ref (Q 2)), (1, .int p0), (2, .int p1)]) hx hb dX2_joined_19 hl (by decide) rfl (fun ls hl => ?_)
  refine lv_aload_n hx hb dX2_joined_21 rfl (lv_at hl 2 rfl) ?_
  refine va_get (D := G) (ci := 2) (v := .ref (Q 1)) (C := RX2) (T := TX2) (N := 1) hx hb hts (fun w h => .tail _ (wl_X2 w h)) hown hK hP 2 rfl rfl 0 (by decide) (hts _ (.tail _ wd_104)) (fun _ h9 => h9) rfl dX2_joined_22 ?_
  refine lv_iconst (v := 3) hx hb dX2_joined_25 (by decide) ?_
  refine lv_iload hx hb dX2_joined_26 (lv_at hl 0 rfl) ?_
  rcases of_bcwt hf with ⟨k3, z3, e9, ho3, hj⟩ | ⟨k3, z3, r3, d3, ho3, hf, ek3⟩
  · obtain ⟨hc0, hj⟩ := of_pair hj
    subst hj
    exact goutXX (gVx FX [.int 3, .int (r1 + r2)] (c_hp_claim l hl0 G cL cZ Q A z _ 3 (r1 + r2) k3 _ ho3) (cwV 2 hts (gi_V wd_141 wd_142 wd_143 wd_7 wd_144) rfl rfl rfl hdV_X0_claim ⟨Nat.le_of_ble_eq_true rfl, Nat.le_of_ble_eq_true rfl⟩) hK hP hD hT hS hA 1 rfl rfl rfl hl.1 (Nat.le_of_ble_eq_true rfl) dX2_joined_28 ⟨by show _ ≤ 6; omega, by show _ ≤ 6 + c0; omega⟩) (noXi) hS hD hK hE hlocks (by omega) (by omega)
  refine gcXi (gVx FX [.int 3, .int (r1 + r2)] (c_hp_claim l hl0 G cL cZ Q A z _ 3 (r1 + r2) k3 _ ho3) (cwV 2 hts (gi_V wd_141 wd_142 wd_143 wd_7 wd_144) rfl rfl rfl hdV_X0_claim ⟨Nat.le_of_ble_eq_true rfl, Nat.le_of_ble_eq_true rfl⟩) hK hP hD hT hS hA 1 rfl rfl rfl hl.1 (Nat.le_of_ble_eq_true rfl) dX2_joined_28 ⟨by show _ ≤ 6; omega, by show _ ≤ 6 + c0; omega⟩) hS hD hA (fun A H locs hP hD hS => ?_)
  refine lv_istore (lv' := [(5, .int r3), (4, .int (r1 + r2)), (3, .int r1), (0, .ref (Q 2)), (1, .int p0), (2, .int p1)]) hx hb dX2_joined_31 hl (by decide) rfl (fun ls hl => ?_)
  refine lv_iconst (v := 0) hx hb dX2_joined_33 (by decide) ?_
  refine lv_istore (lv' := [(6, .int 0), (5, .int r3), (4, .int (r1 + r2)), (3, .int r1), (0, .ref (Q 2)), (1, .int p0), (2, .int p1)]) hx hb dX2_joined_34 hl (by decide) rfl (fun ls hl => ?_)
  exact L_tx_joined_l36 _ _ _ _ _ _ _ _ _ _ _ _ _ _ _ _ _ C hl0 hE hT hK FU _ _ _ _ _ _ _ _ _ _ _ _ _ _ hP hD hS (lv_sub hl [4, 5, 6, 3, 2, 1, 0] rfl) hf (by omega) (by omega)
def At_tx_partOf_l20 (l : Launch) (G : va_G) (cL cZ : ClassId) (Q : Nat → Nat) (w : va_W) (p : Program) (e : Env) (s : State) (m : MethodId) (args : Array Value) (below : List Frame) (meth : Method) (c : Code) (O0 : Hs × (String ⊕ Int32)) (mcT msT : Nat) (F : Int32 → Int32 → Int32 → Int32 → Int32 → Hs → Option (Nat × Hs × (String ⊕ Int32))) : Prop := ∀ (A : Nat → Nat) (z : Hs) (x1 : Int32) (x2 : Int32) (x4 : Int32) (x5 : Int32) (x6 : Int32) (d0 : Nat) (H : Heap) (locs : List Loc) (ls : Array Slot) (cells slots : Nat), va_P G vwCl (cw cL cZ Q A z) H → va_D (va_A w s.heap.size) (cw cL cZ Q A z) → va_S (va_A w s.heap.size) s.heap H locs → lv_has ls 8 [(0, .ref (Q 2)), (1, .int x1), (2, .int x2), (4, .int x4), (5, .int x5), (6, .int x6)] → F x1 x2 x4 x5 x6 z = some (d0, O0) → cells + 0 ≤ mcT → slots + (0 + d0) ≤ msT → W p l e { frames := 10, cells := mcT, slots := msT, locals := 243 } s m args below meth c H locs cells slots (vx_MQ below (qXi G vwCl (ct cL cZ) w s.heap.size (cw cL cZ Q) O0) (xX G vwCl (ct cL cZ) w s.heap.size (cw cL cZ Q) O0) args s mcT msT (va_A w s.heap.size)) (F0 m 20 ls [])
set_option maxHeartbeats 4000000 in
set_option maxRecDepth 100000 in
theorem L_tx_partOf_l20 (l : Launch) (G : va_G) (cL cZ : ClassId) (Q : Nat → Nat) (w : va_W) (p : Program) (e : Env) (s : State) (m : MethodId) (args : Array Value) (below : List Frame) (meth : Method) (c : Code) (O0 : Hs × (String ⊕ Int32)) (mcT msT : Nat) (C : MC p s m args meth c cX2_partOf 8 (some .int) RX2 vX2_partOf) (hl0 : l.stackTraces = false) (hE : ∀ x ∈ c.exceptionTable.toList, False) (hT : gTh txC (va_A w s.heap.size) s s.heap) (hK : va_K G vwCl (ct cL cZ) s) : ∀ n : Nat, At_tx_partOf_l20 l G cL cZ Q w p e s m args below meth c O0 mcT msT (tx_partOf_l20 n) := by
  obtain ⟨hx, hb, hr, hml, hown, hts, hlocks⟩ := id C
  have FX : CallFix p m c cX2_partOf 8 s args vX2_partOf RX2 := ⟨hx, hb, hml, hown, hts⟩
  have hA : ∀ q9 : Nat, s.heap.size ≤ q9 → va_A w s.heap.size q9 := fun q9 h => Or.inr h
  intro n
  induction n with
  | zero =>
    intro A z x1 x2 x4 x5 x6 d0 H locs ls cells slots hP hD hS hl hf hcc hss
    exact nomatch (show none = some _ from hf)
  | succ n ih =>
    intro A z x1 x2 x4 x5 x6 d0 H locs ls cells slots hP hD hS hl hf hcc hss
    rw [tx_partOf_l20] at hf
    refine lv_iload hx hb dX2_partOf_20 (lv_at hl 5 rfl) ?_
    refine lv_iload hx hb dX2_partOf_22 (lv_at hl 3 rfl) ?_
    obtain ⟨r2, ho2, hf⟩ := of_b0 hf
    refine gcRi (gS FX [.int x4] (c_tx_wordsFor l G cL cZ Q A z _ x4 _ ho2) (cwS 1 hts (gi_S wd_120 wd_121 wd_107 wd_122) rfl rfl rfl hdS_X2_wordsFor ⟨Nat.le_of_ble_eq_true rfl, Nat.le_of_ble_eq_true rfl⟩) hK hP hD rfl hl.1 (Nat.le_of_ble_eq_true rfl) dX2_partOf_24 ⟨by show _ ≤ mcT; omega, by show _ ≤ msT; omega⟩) hS hD hA (fun H locs hP hS => ?_)
    refine lv_icmp_ge (tgt := 93) hx hb dX2_partOf_27 (by decide) (fun c3 => ?_) (fun c3 => ?_)
    · have hf := (if_pos c3).symm.trans hf
      refine lv_iload hx hb dX2_partOf_93 (lv_at hl 4 rfl) ?_
      obtain ⟨hc0, hj0⟩ := of_some2 hf
      subst hj0
      exact grXi hx hb hr hlocks hP hK hD hS dX2_partOf_95 (by omega) (by omega)
    · have hf := (if_neg c3).symm.trans hf
      refine lv_iconst (v := 0) hx hb dX2_partOf_30 (by decide) ?_
      refine lv_bipush (v := 8) hx hb dX2_partOf_31 (by decide) ?_
      refine lv_iload hx hb dX2_partOf_33 (lv_at hl 5 rfl) ?_
      refine lv_iconst (v := 1) hx hb dX2_partOf_35 (by decide) ?_
      refine lv_iadd hx hb dX2_partOf_36 ?_
      refine lv_imul hx hb dX2_partOf_37 ?_
      refine lv_iload hx hb dX2_partOf_38 (lv_at hl 3 rfl) ?_
      refine lv_isub hx hb dX2_partOf_40 ?_
      refine va_mmax hx hb (hml.trans hl.1.symm) hown (hts _ (.tail _ wd_149)) (hts _ (.tail _ wd_150)) (hts _ (.tail _ wd_126)) (hts _ (.tail _ wd_151)) (Nat.le_of_ble_eq_true rfl) (Nat.le_of_ble_eq_true rfl) (by show _ ≤ mcT; omega) (by show _ ≤ msT; omega) dX2_partOf_41 ?_
      refine lv_istore (lv' := [(7, .int (if 0 < ((8 * (x6 + 1)) - x4) then ((8 * (x6 + 1)) - x4) else 0)), (0, .ref (Q 2)), (1, .int x1), (2, .int x2), (4, .int x4), (5, .int x5), (6, .int x6)]) hx hb dX2_partOf_44 hl (by decide) rfl (fun ls hl => ?_)
      refine lv_aload_n hx hb dX2_partOf_46 rfl (lv_at hl 1 rfl) ?_
      refine va_get (D := G) (ci := 2) (v := .ref (Q 1)) (C := RX2) (T := TX2) (N := 1) hx hb hts (fun w h => .tail _ (wl_X2 w h)) hown hK hP 2 rfl rfl 0 (by decide) (hts _ (.tail _ wd_104)) (fun _ h9 => h9) rfl dX2_partOf_47 ?_
      refine lv_aload_n hx hb dX2_partOf_50 rfl (lv_at hl 1 rfl) ?_
      refine va_get (D := G) (ci := 2) (v := .ref (Q 1)) (C := RX2) (T := TX2) (N := 1) hx hb hts (fun w h => .tail _ (wl_X2 w h)) hown hK hP 2 rfl rfl 0 (by decide) (hts _ (.tail _ wd_104)) (fun _ h9 => h9) rfl dX2_partOf_51 ?_
      refine lv_iload hx hb dX2_partOf_54 (lv_at hl 5 rfl) ?_
      obtain ⟨r4, ho4, hf⟩ := of_b0 hf
      refine gcRi (gV FX [.int x5] (c_hp_first l G cL cZ Q A z _ x5 _ ho4) (cwV 1 hts (gi_V wd_113 wd_65 wd_66 wd_7 wd_67) rfl rfl rfl hdV_X0_first ⟨Nat.le_of_ble_eq_true rfl, Nat.le_of_ble_eq_true rfl⟩) hK hP hD 1 rfl rfl rfl hl.1 (Nat.le_of_ble_eq_true rfl) dX2_partOf_56 ⟨by show _ ≤ mcT; omega, by show _ ≤ msT; omega⟩) hS hD hA (fun H locs hP hS => ?_)
      refine lv_iload hx hb dX2_partOf_59 (lv_at hl 6 rfl) ?_
      refine lv_iadd hx hb dX2_partOf_61 ?_
      refine lv_aload_n hx hb dX2_partOf_62 rfl (lv_at hl 1 rfl) ?_
      refine lv_iload_n hx hb dX2_partOf_63 rfl (lv_at hl 2 rfl) ?_
      refine lv_iload_n hx hb dX2_partOf_64 rfl (lv_at hl 3 rfl) ?_
      refine lv_bipush (v := 8) hx hb dX2_partOf_65 (by decide) ?_
      refine lv_iload hx hb dX2_partOf_67 (lv_at hl 6 rfl) ?_
      refine lv_imul hx hb dX2_partOf_69 ?_
      refine lv_iadd hx hb dX2_partOf_70 ?_
      obtain ⟨r5, ho5, hf⟩ := of_b0 hf
      refine gcRl (gV FX [.int x1, .int (x2 + (8 * x6))] (c_tx_eightFrom l G cL cZ Q A z _ x1 (x2 + (8 * x6)) _ ho5) (cwV 2 hts (gi_V wd_145 wd_146 wd_147 wd_107 wd_148) rfl rfl rfl hdV_X2_eightFrom ⟨Nat.le_of_ble_eq_true rfl, Nat.le_of_ble_eq_true rfl⟩) hK hP hD 2 rfl rfl rfl hl.1 (Nat.le_of_ble_eq_true rfl) dX2_partOf_71 ⟨by show _ ≤ mcT; omega, by show _ ≤ msT; omega⟩) hS hD hA (fun H locs hP hS => ?_)
      refine lv_ldc2 (v := (-1)) hx hb hown (hts _ (.tail _ wd_115)) dX2_partOf_74 ?_
      refine lv_bipush (v := 8) hx hb dX2_partOf_77 (by decide) ?_
      refine lv_iload hx hb dX2_partOf_79 (lv_at hl 0 rfl) ?_
      refine lv_imul hx hb dX2_partOf_81 ?_
      refine lv_lshl hx hb dX2_partOf_82 rfl ?_
      refine lv_land hx hb dX2_partOf_83 ?_
      obtain ⟨z6, o9, ho6, hf⟩ := of_bw hf
      refine gcWv (gV FX [.int (r4 + x6), .long (r5 &&& ((-1 : Int64) <<< ((8 * (if 0 < ((8 * (x6 + 1)) - x4) then ((8 * (x6 + 1)) - x4) else 0)).toInt64 &&& 63)))] (c_hp_setNumber l G cL cZ Q A z _ (r4 + x6) (r5 &&& ((-1 : Int64) <<< ((8 * (if 0 < ((8 * (x6 + 1)) - x4) then ((8 * (x6 + 1)) - x4) else 0)).toInt64 &&& 63))) _ ho6) (cwV 2 hts (gi_V wd_116 wd_117 wd_118 wd_7 wd_119) rfl rfl rfl hdV_X0_setNumber ⟨Nat.le_of_ble_eq_true rfl, Nat.le_of_ble_eq_true rfl⟩) hK hP hD 1 rfl rfl rfl hl.1 (Nat.le_of_ble_eq_true rfl) dX2_partOf_84 ⟨by show _ ≤ mcT; omega, by show _ ≤ msT; omega⟩) hS hD hA (fun A H locs hP hD hS => ?_)
      refine lv_iinc (v := (x6 + 1)) (lv' := [(6, .int (x6 + 1)), (7, .int (if 0 < ((8 * (x6 + 1)) - x4) then ((8 * (x6 + 1)) - x4) else 0)), (0, .ref (Q 2)), (1, .int x1), (2, .int x2), (4, .int x4), (5, .int x5)]) hx hb dX2_partOf_87 hl (k := 6) rfl rfl (by decide) rfl (fun ls hl => ?_)
      refine lv_goto (tgt := 20) hx hb dX2_partOf_90 (by decide) ?_
      exact ih _ _ _ _ _ _ _ _ _ _ _ _ _ hP hD hS (lv_sub hl [2, 3, 4, 5, 6, 0] rfl) hf (by omega) (by omega)
set_option maxHeartbeats 4000000 in
set_option maxRecDepth 100000 in
theorem c_tx_partOf (l : Launch) (hl0 : l.stackTraces = false) (G : va_G) (cL cZ : ClassId) (Q : Nat → Nat) (A : Nat → Nat) (z : Hs) (sz : Nat) (p0 : Int32) (p1 : Int32) (p2 : Int32) (c0 : Nat) (O0 : Hs × (String ⊕ Int32)) (hf : tx_partOf z p0 p1 p2 = some (c0, O0)) : vx_Met l yX2_partOf vX2_partOf { frames := 10, cells := 6, slots := 6 + c0, locals := 243 } (gPx txC G vwCl (ct cL cZ) [.ref (Q 2), .int p0, .int p1, .int p2] (cw cL cZ Q A z) sz) (qXi G vwCl (ct cL cZ) (cw cL cZ Q A z) sz (cw cL cZ Q) O0) (xX G vwCl (ct cL cZ) (cw cL cZ Q A z) sz (cw cL cZ Q) O0) 6 (6 + c0) (va_A (cw cL cZ Q A z) sz) := by
  refine gMetx (by decide) rfl (Nat.le_of_ble_eq_true rfl) ?_
  intro p e s m below meth c ls C hE hK hP hD hT hsz hl
  subst hsz
  obtain ⟨hx, hb, hr, hml, hown, hts, hlocks⟩ := id C
  have FX : CallFix p m c cX2_partOf 8 s _ vX2_partOf RX2 := ⟨hx, hb, hml, hown, hts⟩
  have hA : ∀ q9 : Nat, s.heap.size ≤ q9 → va_A (cw cL cZ Q A z) s.heap.size q9 := fun q9 h => Or.inr h
  have hS : va_S (va_A (cw cL cZ Q A z) s.heap.size) s.heap s.heap [] := va_S.rf
  have hl : lv_has ls 8 [(0, .ref (Q 2)), (1, .int p0), (2, .int p1), (3, .int p2)] := hl
  unfold tx_partOf at hf
  refine lv_iload_n hx hb dX2_partOf_0 rfl (lv_at hl 3 rfl) ?_
  refine lv_iload_n hx hb dX2_partOf_1 rfl (lv_at hl 2 rfl) ?_
  refine lv_isub hx hb dX2_partOf_2 ?_
  refine lv_istore (lv' := [(4, .int (p2 - p1)), (0, .ref (Q 2)), (1, .int p0), (2, .int p1), (3, .int p2)]) hx hb dX2_partOf_3 hl (by decide) rfl (fun ls hl => ?_)
  refine lv_aload_n hx hb dX2_partOf_5 rfl (lv_at hl 1 rfl) ?_
  refine va_get (D := G) (ci := 2) (v := .ref (Q 1)) (C := RX2) (T := TX2) (N := 1) hx hb hts (fun w h => .tail _ (wl_X2 w h)) hown hK hP 2 rfl rfl 0 (by decide) (hts _ (.tail _ wd_104)) (fun _ h9 => h9) rfl dX2_partOf_6 ?_
  refine lv_iconst (v := 3) hx hb dX2_partOf_9 (by decide) ?_
  refine lv_iload hx hb dX2_partOf_10 (lv_at hl 0 rfl) ?_
  rcases of_bcwt hf with ⟨k1, z1, e9, ho1, hj⟩ | ⟨k1, z1, r1, d1, ho1, hf, ek1⟩
  · obtain ⟨hc0, hj⟩ := of_pair hj
    subst hj
    exact goutXX (gVx FX [.int 3, .int (p2 - p1)] (c_hp_claim l hl0 G cL cZ Q A z _ 3 (p2 - p1) k1 _ ho1) (cwV 2 hts (gi_V wd_141 wd_142 wd_143 wd_7 wd_144) rfl rfl rfl hdV_X0_claim ⟨Nat.le_of_ble_eq_true rfl, Nat.le_of_ble_eq_true rfl⟩) hK hP hD hT hS hA 1 rfl rfl rfl hl.1 (Nat.le_of_ble_eq_true rfl) dX2_partOf_12 ⟨by show _ ≤ 6; omega, by show _ ≤ 6 + c0; omega⟩) (noXi) hS hD hK hE hlocks (by omega) (by omega)
  refine gcXi (gVx FX [.int 3, .int (p2 - p1)] (c_hp_claim l hl0 G cL cZ Q A z _ 3 (p2 - p1) k1 _ ho1) (cwV 2 hts (gi_V wd_141 wd_142 wd_143 wd_7 wd_144) rfl rfl rfl hdV_X0_claim ⟨Nat.le_of_ble_eq_true rfl, Nat.le_of_ble_eq_true rfl⟩) hK hP hD hT hS hA 1 rfl rfl rfl hl.1 (Nat.le_of_ble_eq_true rfl) dX2_partOf_12 ⟨by show _ ≤ 6; omega, by show _ ≤ 6 + c0; omega⟩) hS hD hA (fun A H locs hP hD hS => ?_)
  refine lv_istore (lv' := [(5, .int r1), (4, .int (p2 - p1)), (0, .ref (Q 2)), (1, .int p0), (2, .int p1), (3, .int p2)]) hx hb dX2_partOf_15 hl (by decide) rfl (fun ls hl => ?_)
  refine lv_iconst (v := 0) hx hb dX2_partOf_17 (by decide) ?_
  refine lv_istore (lv' := [(6, .int 0), (5, .int r1), (4, .int (p2 - p1)), (0, .ref (Q 2)), (1, .int p0), (2, .int p1), (3, .int p2)]) hx hb dX2_partOf_18 hl (by decide) rfl (fun ls hl => ?_)
  exact L_tx_partOf_l20 _ _ _ _ _ _ _ _ _ _ _ _ _ _ _ _ _ C hl0 hE hT hK FU _ _ _ _ _ _ _ _ _ _ _ _ _ hP hD hS (lv_sub hl [3, 4, 5, 2, 1, 0] rfl) hf (by omega) (by omega)
set_option maxHeartbeats 4000000 in
set_option maxRecDepth 100000 in
theorem c_mp_setField (l : Launch) (G : va_G) (cL cZ : ClassId) (Q : Nat → Nat) (A : Nat → Nat) (z : Hs) (sz : Nat) (p0 : Int32) (p1 : Int32) (p2 : Int32) (O0 : Hs × Unit) (hf : mp_setField z p0 p1 p2 = some O0) : Met l yX1_setField vX1_setField { frames := 1, cells := 0, slots := 0, locals := 23 } (gPc G vwCl (ct cL cZ) [.ref (Q 3), .int p0, .int p1, .int p2] (cw cL cZ Q A z) sz) (qWv G vwCl (ct cL cZ) (cw cL cZ Q A z) sz (cw cL cZ Q) O0) 0 0 (va_A (cw cL cZ Q A z) sz) := by
  refine gMet (by decide) rfl (Nat.le_of_ble_eq_true rfl) ?_
  intro p e s m below meth c ls C hK hP hD hsz hl
  subst hsz
  obtain ⟨hx, hb, hr, hml, hown, hts, hlocks⟩ := id C
  have FX : CallFix p m c cX1_setField 4 s _ vX1_setField RX1 := ⟨hx, hb, hml, hown, hts⟩
  have hA : ∀ q9 : Nat, s.heap.size ≤ q9 → va_A (cw cL cZ Q A z) s.heap.size q9 := fun q9 h => Or.inr h
  have hS : va_S (va_A (cw cL cZ Q A z) s.heap.size) s.heap s.heap [] := va_S.rf
  have hl : lv_has ls 4 [(0, .ref (Q 3)), (1, .int p0), (2, .int p1), (3, .int p2)] := hl
  unfold mp_setField at hf
  refine lv_aload_n hx hb dX1_setField_0 rfl (lv_at hl 0 rfl) ?_
  refine va_get (D := G) (ci := 1) (v := .ref (Q 1)) (C := RX1) (T := TX1) (N := 2) hx hb hts (fun w h => .tail _ (wl_X1 w h)) hown hK hP 3 rfl rfl 0 (by decide) (hts _ (.tail _ wd_152)) (fun _ h9 => h9) rfl dX1_setField_1 ?_
  refine lv_aload_n hx hb dX1_setField_4 rfl (lv_at hl 0 rfl) ?_
  refine va_get (D := G) (ci := 1) (v := .ref (Q 1)) (C := RX1) (T := TX1) (N := 2) hx hb hts (fun w h => .tail _ (wl_X1 w h)) hown hK hP 3 rfl rfl 0 (by decide) (hts _ (.tail _ wd_152)) (fun _ h9 => h9) rfl dX1_setField_5 ?_
  refine lv_iload_n hx hb dX1_setField_8 rfl (lv_at hl 1 rfl) ?_
  obtain ⟨r1, ho1, hf⟩ := of_b0 hf
  refine gcRi (gV FX [.int p0] (c_hp_first l G cL cZ Q A z _ p0 _ ho1) (cwV 1 hts (gi_V wd_154 wd_65 wd_66 wd_7 wd_67) rfl rfl rfl hdV_X0_first ⟨Nat.le_of_ble_eq_true rfl, Nat.le_of_ble_eq_true rfl⟩) hK hP hD 1 rfl rfl rfl hl.1 (Nat.le_of_ble_eq_true rfl) dX1_setField_9 ⟨by show _ ≤ 0; omega, by show _ ≤ 0; omega⟩) hS hD hA (fun H locs hP hS => ?_)
  refine lv_iload_n hx hb dX1_setField_12 rfl (lv_at hl 2 rfl) ?_
  refine lv_iadd hx hb dX1_setField_13 ?_
  refine lv_iload_n hx hb dX1_setField_14 rfl (lv_at hl 3 rfl) ?_
  refine lv_i2l hx hb dX1_setField_15 rfl ?_
  obtain ⟨z2, o9, ho2, hf⟩ := of_bw hf
  refine gcWv (gV FX [.int (r1 + p1), .long (p2.toInt64)] (c_hp_setNumber l G cL cZ Q A z _ (r1 + p1) (p2.toInt64) _ ho2) (cwV 2 hts (gi_V wd_153 wd_117 wd_118 wd_7 wd_119) rfl rfl rfl hdV_X0_setNumber ⟨Nat.le_of_ble_eq_true rfl, Nat.le_of_ble_eq_true rfl⟩) hK hP hD 1 rfl rfl rfl hl.1 (Nat.le_of_ble_eq_true rfl) dX1_setField_16 ⟨by show _ ≤ 0; omega, by show _ ≤ 0; omega⟩) hS hD hA (fun A H locs hP hD hS => ?_)
  obtain rfl := Option.some.inj hf
  exact grWv hx hb hr hlocks hP hK hD hS dX1_setField_19 (by omega) (by omega)
