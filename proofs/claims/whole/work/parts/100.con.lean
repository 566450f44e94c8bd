set_option maxHeartbeats 4000000 in
set_option maxRecDepth 100000 in
/-- Arrays.copyOf(long[], int) -/
theorem c_ja_copyOf (l : Launch) (G : va_G) (cL cZ : ClassId) (a0 : Nat) (n : Nat) (f : Nat → Int64) (k : Int32) (sz : Nat) (hg : alc k n = true) : Met l yJA_copyOf vJA_copyOf { frames := 2, cells := 1, slots := k.toNatClampNeg, locals := 60 } (gPc G vwCl (ct cL cZ) [.ref a0, .int k] [(a0, .inl (cL, n, .inr (.inl f)))] sz) (qA G vwCl (ct cL cZ) a0 (.inl (cL, n, .inr (.inl f))) (.inl (cL, k.toNatClampNeg, .inr (.inl (cpyz f n k)))) sz) 1 k.toNatClampNeg (va_A [(a0, .inl (cL, n, .inr (.inl f)))] sz) := by
  refine gMet (by decide) rfl (Nat.le_of_ble_eq_true rfl) ?_
  intro p e s m below meth c ls C hK hP hD hsz hl
  subst hsz
  obtain ⟨hx, hb, hr, hml, hown, hts, hlocks⟩ := id C
  obtain ⟨⟨hg1, hg3⟩, hg2⟩ := alc_in hg
  obtain ⟨q1, q2, q3, q4, q5⟩ := cpb_in hg2
  have hA : ∀ q9 : Nat, s.heap.size ≤ q9 → va_A [(a0, .inl (cL, n, .inr (.inl f)))] s.heap.size q9 := fun q h => Or.inr h
  have hS : va_S (va_A [(a0, .inl (cL, n, .inr (.inl f)))] s.heap.size) s.heap s.heap [] := va_S.rf
  have hl : lv_has ls 3 [(0, .ref a0), (1, .int k)] := hl
  refine lv_iload_n hx hb dJA_copyOf_0 rfl (lv_at hl 1 rfl) ?_
  refine lv_aload_n hx hb dJA_copyOf_1 rfl (lv_at hl 0 rfl) ?_
  refine va_alen hx hb hK hP 0 0 rfl rfl (v := Int32.ofNat n) rfl dJA_copyOf_2 ?_
  refine lv_icmp_ne (tgt := 14) hx hb dJA_copyOf_3 (by decide) (fun c1 => ?_) (fun c1 => absurd c1 hg3)
  refine lv_iload_n hx hb dJA_copyOf_14 rfl (lv_at hl 1 rfl) ?_
  refine gnewa (atype := .long) (t0 := 0) (a0 := (k.toNatClampNeg, .inr (.inl (fun _ => 0)))) hx hb (hts _ (.tail _ wd_79)) rfl (fun C h => by cases h) hK rfl hP hD hS hA (fun cA => rfl) (alb_in hg1).1 (alb_in hg1).2 (by show _ ≤ 1; omega) (by show _ ≤ k.toNatClampNeg; omega) dJA_copyOf_15 (fun x H hP hD hS => ?_)
  have hP : va_P G vwCl [(a0, .inl (cL, n, .inr (.inl f))), (x, .inl (cL, k.toNatClampNeg, .inr (.inl (fun _ => 0))))] H := hP
  have hD : va_D (va_A [(a0, .inl (cL, n, .inr (.inl f)))] s.heap.size) [(a0, .inl (cL, n, .inr (.inl f))), (x, .inl (cL, k.toNatClampNeg, .inr (.inl (fun _ => 0))))] := hD
  refine lv_astore_n (lv' := [(2, .ref x), (0, .ref a0), (1, .int k)]) hx hb dJA_copyOf_17 rfl hl (by decide) rfl (fun ls hl => ?_)
  refine lv_aload_n hx hb dJA_copyOf_18 rfl (lv_at hl 1 rfl) ?_
  refine lv_iconst (v := 0) hx hb dJA_copyOf_19 (by decide) ?_
  refine lv_aload_n hx hb dJA_copyOf_20 rfl (lv_at hl 0 rfl) ?_
  refine lv_iconst (v := 0) hx hb dJA_copyOf_21 (by decide) ?_
  refine lv_aload_n hx hb dJA_copyOf_22 rfl (lv_at hl 1 rfl) ?_
  refine va_alen hx hb hK hP 0 0 rfl rfl (v := Int32.ofNat n) rfl dJA_copyOf_23 ?_
  refine lv_iload_n hx hb dJA_copyOf_24 rfl (lv_at hl 2 rfl) ?_
  refine va_mmin hx hb (hml.trans hl.1.symm) hown (hts _ (.tail _ wd_417)) (hts _ (.tail _ wd_85)) (hts _ (.tail _ wd_86)) (hts _ (.tail _ wd_87)) (Nat.le_of_ble_eq_true rfl) (Nat.le_of_ble_eq_true rfl) (by show _ ≤ 1; omega) (by show _ ≤ k.toNatClampNeg; omega) dJA_copyOf_25 ?_
  refine va_copyl hx hb (hml.trans hl.1.symm) hown (hts _ (.tail _ wd_418)) (hts _ (.tail _ wd_18)) (hts _ (.tail _ wd_19)) (hts _ (.tail _ wd_20)) hK hP hD hS 0 1 0 0 rfl rfl rfl rfl rfl q1 q2 q3 q4 q5 (fun _ _ => rfl) (Nat.le_of_ble_eq_true rfl) (Nat.le_of_ble_eq_true rfl) dJA_copyOf_28 (fun H locs hP hD hS => ?_)
  have hP : va_P G vwCl [(a0, .inl (cL, n, .inr (.inl f))), (x, .inl (cL, k.toNatClampNeg, .inr (.inl (cpyz f n k))))] H := hP
  have hD : va_D (va_A [(a0, .inl (cL, n, .inr (.inl f)))] s.heap.size) [(a0, .inl (cL, n, .inr (.inl f))), (x, .inl (cL, k.toNatClampNeg, .inr (.inl (cpyz f n k))))] := hD
  refine lv_aload_n hx hb dJA_copyOf_31 rfl (lv_at hl 0 rfl) ?_
  refine W.widen (k := 1) (n := k.toNatClampNeg) (by omega) (by omega) ?_
  exact W.aret hx hb hr (Or.inr ⟨_, rfl⟩) (Or.inr ⟨x, rfl⟩) (fun t ht hW => ⟨⟨(), x, rfl, trivial, by rw [ht]; exact hP, va_K.moved hW.alike hK, hD⟩, hS.F ht⟩) hS.2.2 dJA_copyOf_32

set_option maxHeartbeats 4000000 in
set_option maxRecDepth 100000 in
theorem c_hp_bitsAt (l : Launch) (G : va_G) (cL cZ : ClassId) (Q : Nat → Nat) (A : Nat → Nat) (z : Hs) (sz : Nat) (p0 : Int32) (O0 : Int64) (hf : hp_bitsAt z p0 = some O0) : Met l yX0_bitsAt vX0_bitsAt { frames := 0, cells := 0, slots := 0, locals := 0 } (gPc G vwCl (ct cL cZ) [.ref (Q 1), .int p0] (cw cL cZ Q A z) sz) (qRl G vwCl (ct cL cZ) (cw cL cZ Q A z) sz O0) 0 0 (va_A (cw cL cZ Q A z) sz) := by
  refine gMet (by decide) rfl (Nat.le_of_ble_eq_true rfl) ?_
  intro p e s m below meth c ls C hK hP hD hsz hl
  subst hsz
  obtain ⟨hx, hb, hr, hml, hown, hts, hlocks⟩ := id C
  have FX : CallFix p m c cX0_bitsAt 2 s _ vX0_bitsAt RX0 := ⟨hx, hb, hml, hown, hts⟩
  have hA : ∀ q9 : Nat, s.heap.size ≤ q9 → va_A (cw cL cZ Q A z) s.heap.size q9 := fun q9 h => Or.inr h
  have hS : va_S (va_A (cw cL cZ Q A z) s.heap.size) s.heap s.heap [] := va_S.rf
  have hl : lv_has ls 2 [(0, .ref (Q 1)), (1, .int p0)] := hl
  unfold hp_bitsAt at hf
  refine lv_aload_n hx hb dX0_bitsAt_0 rfl (lv_at hl 0 rfl) ?_
  refine va_get (D := G) (ci := 0) (v := .ref (A 4)) (C := RX0) (T := TX0) (N := 14) hx hb hts (fun w h => .tail _ (wl_X0 w h)) hown hK hP 1 rfl rfl 1 (by decide) (hts _ (.tail _ wd_0)) (fun _ h9 => h9) rfl dX0_bitsAt_1 ?_
  refine lv_iload_n hx hb dX0_bitsAt_4 rfl (lv_at hl 1 rfl) ?_
  obtain ⟨hg1, hf⟩ := of_gd hf
  refine va_lald (f := (Hs.abt z)) (n := (Hs.nbt z)) hx hb hK hP 4 0 rfl rfl (inb_in hg1) dX0_bitsAt_5 ?_
  obtain rfl := Option.some.inj hf
  exact grRl hx hb hr hlocks hP hK hD hS dX0_bitsAt_6 (by omega) (by omega)
set_option maxHeartbeats 4000000 in
set_option maxRecDepth 100000 in
theorem c_hp_isReference (l : Launch) (G : va_G) (cL cZ : ClassId) (Q : Nat → Nat) (A : Nat → Nat) (z : Hs) (sz : Nat) (p0 : Int32) (O0 : Int32) (hf : hp_isReference z p0 = some O0) : Met l yX0_isReference vX0_isReference { frames := 0, cells := 0, slots := 0, locals := 0 } (gPc G vwCl (ct cL cZ) [.ref (Q 1), .int p0] (cw cL cZ Q A z) sz) (qRi G vwCl (ct cL cZ) (cw cL cZ Q A z) sz O0) 0 0 (va_A (cw cL cZ Q A z) sz) := by
  refine gMet (by decide) rfl (Nat.le_of_ble_eq_true rfl) ?_
  intro p e s m below meth c ls C hK hP hD hsz hl
  subst hsz
  obtain ⟨hx, hb, hr, hml, hown, hts, hlocks⟩ := id C
  have FX : CallFix p m c cX0_isReference 2 s _ vX0_isReference RX0 := ⟨hx, hb, hml, hown, hts⟩
  have hA : ∀ q9 : Nat, s.heap.size ≤ q9 → va_A (cw cL cZ Q A z) s.heap.size q9 := fun q9 h => Or.inr h
  have hS : va_S (va_A (cw cL cZ Q A z) s.heap.size) s.heap s.heap [] := va_S.rf
  have hl : lv_has ls 2 [(0, .ref (Q 1)), (1, .int p0)] := hl
  unfold hp_isReference at hf
  refine lv_aload_n hx hb dX0_isReference_0 rfl (lv_at hl 0 rfl) ?_
  refine va_get (D := G) (ci := 0) (v := .ref (A 5)) (C := RX0) (T := TX0) (N := 14) hx hb hts (fun w h => .tail _ (wl_X0 w h)) hown hK hP 1 rfl rfl 2 (by decide) (hts _ (.tail _ wd_1)) (fun _ h9 => h9) rfl dX0_isReference_1 ?_
  refine lv_iload_n hx hb dX0_isReference_4 rfl (lv_at hl 1 rfl) ?_
  obtain ⟨hg1, hf⟩ := of_gd hf
  refine va_zald (f := (Hs.arf z)) (n := (Hs.nrf z)) hx hb hK hP 5 1 rfl rfl (inb_in hg1) dX0_isReference_5 ?_
  obtain ⟨hg2, hf⟩ := of_gd hf
  obtain rfl := Option.some.inj hf
  exact grRz (zbo_n hg2) hx hb hr hlocks hP hK hD hS dX0_isReference_6 (by omega) (by omega)
set_option maxHeartbeats 4000000 in
set_option maxRecDepth 100000 in
theorem c_hp_handleAt (l : Launch) (G : va_G) (cL cZ : ClassId) (Q : Nat → Nat) (A : Nat → Nat) (z : Hs) (sz : Nat) (p0 : Int32) (O0 : Int32) (hf : hp_handleAt z p0 = some O0) : Met l yX0_handleAt vX0_handleAt { frames := 0, cells := 0, slots := 0, locals := 0 } (gPc G vwCl (ct cL cZ) [.ref (Q 1), .int p0] (cw cL cZ Q A z) sz) (qRi G vwCl (ct cL cZ) (cw cL cZ Q A z) sz O0) 0 0 (va_A (cw cL cZ Q A z) sz) := by
  refine gMet (by decide) rfl (Nat.le_of_ble_eq_true rfl) ?_
  intro p e s m below meth c ls C hK hP hD hsz hl
  subst hsz
  obtain ⟨hx, hb, hr, hml, hown, hts, hlocks⟩ := id C
  have FX : CallFix p m c cX0_handleAt 2 s _ vX0_handleAt RX0 := ⟨hx, hb, hml, hown, hts⟩
  have hA : ∀ q9 : Nat, s.heap.size ≤ q9 → va_A (cw cL cZ Q A z) s.heap.size q9 := fun q9 h => Or.inr h
  have hS : va_S (va_A (cw cL cZ Q A z) s.heap.size) s.heap s.heap [] := va_S.rf
  have hl : lv_has ls 2 [(0, .ref (Q 1)), (1, .int p0)] := hl
  unfold hp_handleAt at hf
  refine lv_aload_n hx hb dX0_handleAt_0 rfl (lv_at hl 0 rfl) ?_
  refine va_get (D := G) (ci := 0) (v := .ref (A 5)) (C := RX0) (T := TX0) (N := 14) hx hb hts (fun w h => .tail _ (wl_X0 w h)) hown hK hP 1 rfl rfl 2 (by decide) (hts _ (.tail _ wd_1)) (fun _ h9 => h9) rfl dX0_handleAt_1 ?_
  refine lv_iload_n hx hb dX0_handleAt_4 rfl (lv_at hl 1 rfl) ?_
  obtain ⟨hg1, hf⟩ := of_gd hf
  refine va_zald (f := (Hs.arf z)) (n := (Hs.nrf z)) hx hb hK hP 5 1 rfl rfl (inb_in hg1) dX0_handleAt_5 ?_
  refine lv_if_eq (tgt := 22) hx hb dX0_handleAt_6 (by decide) (fun c2 => ?_) (fun c2 => ?_)
  · have hf := (if_pos c2).symm.trans hf
    refine lv_iconst (v := 0) hx hb dX0_handleAt_22 (by decide) ?_
    obtain rfl := Option.some.inj hf
    exact grRi hx hb hr hlocks hP hK hD hS dX0_handleAt_23 (by omega) (by omega)
  · have hf := (if_neg c2).symm.trans hf
    refine lv_aload_n hx hb dX0_handleAt_9 rfl (lv_at hl 0 rfl) ?_
    refine va_get (D := G) (ci := 0) (v := .ref (A 4)) (C := RX0) (T := TX0) (N := 14) hx hb hts (fun w h => .tail _ (wl_X0 w h)) hown hK hP 1 rfl rfl 1 (by decide) (hts _ (.tail _ wd_0)) (fun _ h9 => h9) rfl dX0_handleAt_10 ?_
    refine lv_iload_n hx hb dX0_handleAt_13 rfl (lv_at hl 1 rfl) ?_
    obtain ⟨hg3, hf⟩ := of_gd hf
    refine va_lald (f := (Hs.abt z)) (n := (Hs.nbt z)) hx hb hK hP 4 0 rfl rfl (inb_in hg3) dX0_handleAt_14 ?_
    refine lv_bipush (v := 13) hx hb dX0_handleAt_15 (by decide) ?_
    refine lv_lushr hx hb dX0_handleAt_17 rfl ?_
    refine lv_l2i hx hb dX0_handleAt_18 rfl ?_
    refine lv_goto (tgt := 23) hx hb dX0_handleAt_19 (by decide) ?_
    obtain rfl := Option.some.inj hf
    exact grRi hx hb hr hlocks hP hK hD hS dX0_handleAt_23 (by omega) (by omega)
set_option maxHeartbeats 4000000 in
set_option maxRecDepth 100000 in
theorem c_hp_placeAt (l : Launch) (G : va_G) (cL cZ : ClassId) (Q : Nat → Nat) (A : Nat → Nat) (z : Hs) (sz : Nat) (p0 : Int32) (O0 : Int32) (hf : hp_placeAt z p0 = some O0) : Met l yX0_placeAt vX0_placeAt { frames := 0, cells := 0, slots := 0, locals := 0 } (gPc G vwCl (ct cL cZ) [.ref (Q 1), .int p0] (cw cL cZ Q A z) sz) (qRi G vwCl (ct cL cZ) (cw cL cZ Q A z) sz O0) 0 0 (va_A (cw cL cZ Q A z) sz) := by
  refine gMet (by decide) rfl (Nat.le_of_ble_eq_true rfl) ?_
  intro p e s m below meth c ls C hK hP hD hsz hl
  subst hsz
  obtain ⟨hx, hb, hr, hml, hown, hts, hlocks⟩ := id C
  have FX : CallFix p m c cX0_placeAt 2 s _ vX0_placeAt RX0 := ⟨hx, hb, hml, hown, hts⟩
  have hA : ∀ q9 : Nat, s.heap.size ≤ q9 → va_A (cw cL cZ Q A z) s.heap.size q9 := fun q9 h => Or.inr h
  have hS : va_S (va_A (cw cL cZ Q A z) s.heap.size) s.heap s.heap [] := va_S.rf
  have hl : lv_has ls 2 [(0, .ref (Q 1)), (1, .int p0)] := hl
  unfold hp_placeAt at hf
  refine lv_aload_n hx hb dX0_placeAt_0 rfl (lv_at hl 0 rfl) ?_
  refine va_get (D := G) (ci := 0) (v := .ref (A 5)) (C := RX0) (T := TX0) (N := 14) hx hb hts (fun w h => .tail _ (wl_X0 w h)) hown hK hP 1 rfl rfl 2 (by decide) (hts _ (.tail _ wd_1)) (fun _ h9 => h9) rfl dX0_placeAt_1 ?_
  refine lv_iload_n hx hb dX0_placeAt_4 rfl (lv_at hl 1 rfl) ?_
  obtain ⟨hg1, hf⟩ := of_gd hf
  refine va_zald (f := (Hs.arf z)) (n := (Hs.nrf z)) hx hb hK hP 5 1 rfl rfl (inb_in hg1) dX0_placeAt_5 ?_
  refine lv_if_eq (tgt := 23) hx hb dX0_placeAt_6 (by decide) (fun c2 => ?_) (fun c2 => ?_)
  · have hf := (if_pos c2).symm.trans hf
    refine lv_iconst (v := 0) hx hb dX0_placeAt_23 (by decide) ?_
    obtain rfl := Option.some.inj hf
    exact grRi hx hb hr hlocks hP hK hD hS dX0_placeAt_24 (by omega) (by omega)
  · have hf := (if_neg c2).symm.trans hf
    refine lv_aload_n hx hb dX0_placeAt_9 rfl (lv_at hl 0 rfl) ?_
    refine va_get (D := G) (ci := 0) (v := .ref (A 4)) (C := RX0) (T := TX0) (N := 14) hx hb hts (fun w h => .tail _ (wl_X0 w h)) hown hK hP 1 rfl rfl 1 (by decide) (hts _ (.tail _ wd_0)) (fun _ h9 => h9) rfl dX0_placeAt_10 ?_
    refine lv_iload_n hx hb dX0_placeAt_13 rfl (lv_at hl 1 rfl) ?_
    obtain ⟨hg3, hf⟩ := of_gd hf
    refine va_lald (f := (Hs.abt z)) (n := (Hs.nbt z)) hx hb hK hP 4 0 rfl rfl (inb_in hg3) dX0_placeAt_14 ?_
    refine lv_ldc2 (v := 8191) hx hb hown (hts _ (.tail _ wd_2)) dX0_placeAt_15 ?_
    refine lv_land hx hb dX0_placeAt_18 ?_
    refine lv_l2i hx hb dX0_placeAt_19 rfl ?_
    refine lv_goto (tgt := 24) hx hb dX0_placeAt_20 (by decide) ?_
    obtain rfl := Option.some.inj hf
    exact grRi hx hb hr hlocks hP hK hD hS dX0_placeAt_24 (by omega) (by omega)
set_option maxHeartbeats 4000000 in
set_option maxRecDepth 100000 in
theorem c_hp_header (l : Launch) (G : va_G) (cL cZ : ClassId) (Q : Nat → Nat) (A : Nat → Nat) (z : Hs) (sz : Nat) (p0 : Int32) (O0 : Int64) (hf : hp_header z p0 = some O0) : Met l yX0_header vX0_header { frames := 0, cells := 0, slots := 0, locals := 0 } (gPc G vwCl (ct cL cZ) [.ref (Q 1), .int p0] (cw cL cZ Q A z) sz) (qRl G vwCl (ct cL cZ) (cw cL cZ Q A z) sz O0) 0 0 (va_A (cw cL cZ Q A z) sz) := by
  refine gMet (by decide) rfl (Nat.le_of_ble_eq_true rfl) ?_
  intro p e s m below meth c ls C hK hP hD hsz hl
  subst hsz
  obtain ⟨hx, hb, hr, hml, hown, hts, hlocks⟩ := id C
  have FX : CallFix p m c cX0_header 2 s _ vX0_header RX0 := ⟨hx, hb, hml, hown, hts⟩
  have hA : ∀ q9 : Nat, s.heap.size ≤ q9 → va_A (cw cL cZ Q A z) s.heap.size q9 := fun q9 h => Or.inr h
  have hS : va_S (va_A (cw cL cZ Q A z) s.heap.size) s.heap s.heap [] := va_S.rf
  have hl : lv_has ls 2 [(0, .ref (Q 1)), (1, .int p0)] := hl
  unfold hp_header at hf
  refine lv_aload_n hx hb dX0_header_0 rfl (lv_at hl 0 rfl) ?_
  refine va_get (D := G) (ci := 0) (v := .ref (A 4)) (C := RX0) (T := TX0) (N := 14) hx hb hts (fun w h => .tail _ (wl_X0 w h)) hown hK hP 1 rfl rfl 1 (by decide) (hts _ (.tail _ wd_0)) (fun _ h9 => h9) rfl dX0_header_1 ?_
  refine lv_aload_n hx hb dX0_header_4 rfl (lv_at hl 0 rfl) ?_
  refine va_get (D := G) (ci := 0) (v := .ref (A 6)) (C := RX0) (T := TX0) (N := 14) hx hb hts (fun w h => .tail _ (wl_X0 w h)) hown hK hP 1 rfl rfl 3 (by decide) (hts _ (.tail _ wd_3)) (fun _ h9 => h9) rfl dX0_header_5 ?_
  refine lv_iload_n hx hb dX0_header_8 rfl (lv_at hl 1 rfl) ?_
  obtain ⟨hg1, hf⟩ := of_gd hf
  refine va_lald (f := (Hs.ast z)) (n := (Hs.nst z)) hx hb hK hP 6 0 rfl rfl (inb_in hg1) dX0_header_9 ?_
  refine lv_l2i hx hb dX0_header_10 rfl ?_
  obtain ⟨hg2, hf⟩ := of_gd hf
  refine va_lald (f := (Hs.abt z)) (n := (Hs.nbt z)) hx hb hK hP 4 0 rfl rfl (inb_in hg2) dX0_header_11 ?_
  obtain rfl := Option.some.inj hf
  exact grRl hx hb hr hlocks hP hK hD hS dX0_header_12 (by omega) (by omega)
set_option maxHeartbeats 4000000 in
set_option maxRecDepth 100000 in
theorem c_hp_kindIn (l : Launch) (G : va_G) (cL cZ : ClassId) (Q : Nat → Nat) (A : Nat → Nat) (z : Hs) (sz : Nat) (p0 : Int64) (O0 : Int32) (hf : hp_kindIn z p0 = some O0) : Met l yX0_kindIn vX0_kindIn { frames := 0, cells := 0, slots := 0, locals := 0 } (gPc G vwCl (ct cL cZ) [.long p0] (cw cL cZ Q A z) sz) (qRi G vwCl (ct cL cZ) (cw cL cZ Q A z) sz O0) 0 0 (va_A (cw cL cZ Q A z) sz) := by
  refine gMet (by decide) rfl (Nat.le_of_ble_eq_true rfl) ?_
  intro p e s m below meth c ls C hK hP hD hsz hl
  subst hsz
  obtain ⟨hx, hb, hr, hml, hown, hts, hlocks⟩ := id C
  have FX : CallFix p m c cX0_kindIn 2 s _ vX0_kindIn RX0 := ⟨hx, hb, hml, hown, hts⟩
  have hA : ∀ q9 : Nat, s.heap.size ≤ q9 → va_A (cw cL cZ Q A z) s.heap.size q9 := fun q9 h => Or.inr h
  have hS : va_S (va_A (cw cL cZ Q A z) s.heap.size) s.heap s.heap [] := va_S.rf
  have hl : lv_has ls 2 [(0, .long p0)] := hl
  unfold hp_kindIn at hf
  refine lv_lload_n hx hb dX0_kindIn_0 rfl (lv_at hl 0 rfl) ?_
  refine lv_bipush (v := 18) hx hb dX0_kindIn_1 (by decide) ?_
  refine lv_lushr hx hb dX0_kindIn_3 rfl ?_
  refine lv_ldc2 (v := 7) hx hb hown (hts _ (.tail _ wd_4)) dX0_kindIn_4 ?_
  refine lv_land hx hb dX0_kindIn_7 ?_
  refine lv_l2i hx hb dX0_kindIn_8 rfl ?_
  obtain rfl := Option.some.inj hf
  exact grRi hx hb hr hlocks hP hK hD hS dX0_kindIn_9 (by omega) (by omega)
set_option maxHeartbeats 4000000 in
set_option maxRecDepth 100000 in
theorem c_hp_kindAt (l : Launch) (G : va_G) (cL cZ : ClassId) (Q : Nat → Nat) (A : Nat → Nat) (z : Hs) (sz : Nat) (p0 : Int32) (O0 : Int32) (hf : hp_kindAt z p0 = some O0) : Met l yX0_kindAt vX0_kindAt { frames := 1, cells := 0, slots := 0, locals := 21 } (gPc G vwCl (ct cL cZ) [.ref (Q 1), .int p0] (cw cL cZ Q A z) sz) (qRi G vwCl (ct cL cZ) (cw cL cZ Q A z) sz O0) 0 0 (va_A (cw cL cZ Q A z) sz) := by
  refine gMet (by decide) rfl (Nat.le_of_ble_eq_true rfl) ?_
  intro p e s m below meth c ls C hK hP hD hsz hl
  subst hsz
  obtain ⟨hx, hb, hr, hml, hown, hts, hlocks⟩ := id C
  have FX : CallFix p m c cX0_kindAt 2 s _ vX0_kindAt RX0 := ⟨hx, hb, hml, hown, hts⟩
  have hA : ∀ q9 : Nat, s.heap.size ≤ q9 → va_A (cw cL cZ Q A z) s.heap.size q9 := fun q9 h => Or.inr h
  have hS : va_S (va_A (cw cL cZ Q A z) s.heap.size) s.heap s.heap [] := va_S.rf
  have hl : lv_has ls 2 [(0, .ref (Q 1)), (1, .int p0)] := hl
  unfold hp_kindAt at hf
  refine lv_aload_n hx hb dX0_kindAt_0 rfl (lv_at hl 0 rfl) ?_
  refine va_get (D := G) (ci := 0) (v := .ref (A 5)) (C := RX0) (T := TX0) (N := 14) hx hb hts (fun w h => .tail _ (wl_X0 w h)) hown hK hP 1 rfl rfl 2 (by decide) (hts _ (.tail _ wd_1)) (fun _ h9 => h9) rfl dX0_kindAt_1 ?_
  refine lv_iload_n hx hb dX0_kindAt_4 rfl (lv_at hl 1 rfl) ?_
  obtain ⟨hg1, hf⟩ := of_gd hf
  refine va_zald (f := (Hs.arf z)) (n := (Hs.nrf z)) hx hb hK hP 5 1 rfl rfl (inb_in hg1) dX0_kindAt_5 ?_
  refine lv_if_eq (tgt := 24) hx hb dX0_kindAt_6 (by decide) (fun c2 => ?_) (fun c2 => ?_)
  · have hf := (if_pos c2).symm.trans hf
    refine lv_iconst (v := 0) hx hb dX0_kindAt_24 (by decide) ?_
    obtain rfl := Option.some.inj hf
    exact grRi hx hb hr hlocks hP hK hD hS dX0_kindAt_25 (by omega) (by omega)
  · have hf := (if_neg c2).symm.trans hf
    refine lv_aload_n hx hb dX0_kindAt_9 rfl (lv_at hl 0 rfl) ?_
    refine lv_aload_n hx hb dX0_kindAt_10 rfl (lv_at hl 0 rfl) ?_
    refine lv_iload_n hx hb dX0_kindAt_11 rfl (lv_at hl 1 rfl) ?_
    obtain ⟨r3, ho3, hf⟩ := of_b0 hf
    refine gcRi (gV FX [.int p0] (c_hp_handleAt l G cL cZ Q A z _ p0 _ ho3) (cwV 1 hts (gi_V wd_13 wd_14 wd_15 wd_7 wd_16) rfl rfl rfl hdV_X0_handleAt ⟨Nat.le_of_ble_eq_true rfl, Nat.le_of_ble_eq_true rfl⟩) hK hP hD 1 rfl rfl rfl hl.1 (Nat.le_of_ble_eq_true rfl) dX0_kindAt_12 ⟨by show _ ≤ 0; omega, by show _ ≤ 0; omega⟩) hS hD hA (fun H locs hP hS => ?_)
    obtain ⟨r4, ho4, hf⟩ := of_b0 hf
    refine gcRl (gV FX [.int r3] (c_hp_header l G cL cZ Q A z _ r3 _ ho4) (cwV 1 hts (gi_V wd_9 wd_10 wd_11 wd_7 wd_12) rfl rfl rfl hdV_X0_header ⟨Nat.le_of_ble_eq_true rfl, Nat.le_of_ble_eq_true rfl⟩) hK hP hD 1 rfl rfl rfl hl.1 (Nat.le_of_ble_eq_true rfl) dX0_kindAt_15 ⟨by show _ ≤ 0; omega, by show _ ≤ 0; omega⟩) hS hD hA (fun H locs hP hS => ?_)
    obtain ⟨r5, ho5, hf⟩ := of_b0 hf
    refine gcRi (gS FX [.long r4] (c_hp_kindIn l G cL cZ Q A z _ r4 _ ho5) (cwS 1 hts (gi_S wd_5 wd_6 wd_7 wd_8) rfl rfl rfl hdS_X0_kindIn ⟨Nat.le_of_ble_eq_true rfl, Nat.le_of_ble_eq_true rfl⟩) hK hP hD rfl hl.1 (Nat.le_of_ble_eq_true rfl) dX0_kindAt_18 ⟨by show _ ≤ 0; omega, by show _ ≤ 0; omega⟩) hS hD hA (fun H locs hP hS => ?_)
    refine lv_goto (tgt := 25) hx hb dX0_kindAt_21 (by decide) ?_
    obtain rfl := Option.some.inj hf
    exact grRi hx hb hr hlocks hP hK hD hS dX0_kindAt_25 (by omega) (by omega)
def At_hp_sameWords_j35 (l : Launch) (G : va_G) (cL cZ : ClassId) (Q : Nat → Nat) (A : Nat → Nat) (z : Hs) (p : Program) (e : Env) (s : State) (m : MethodId) (args : Array Value) (below : List Frame) (meth : Method) (c : Code) (O0 : Int32) (mcT msT : Nat) (F : Hs → Option (Int32)) : Prop := ∀ (_ : Unit) (H : Heap) (locs : List Loc) (ls : Array Slot) (cells slots : Nat), va_P G vwCl (cw cL cZ Q A z) H → va_D (va_A (cw cL cZ Q A z) s.heap.size) (cw cL cZ Q A z) → va_S (va_A (cw cL cZ Q A z) s.heap.size) s.heap H locs → lv_has ls 3 [] → F z = some O0 → cells + 0 ≤ mcT → slots + 0 ≤ msT → W p l e { frames := 0, cells := mcT, slots := msT, locals := 0 } s m args below meth c H locs cells slots (MQ below (qRi G vwCl (ct cL cZ) (cw cL cZ Q A z) s.heap.size O0) args s mcT msT (va_A (cw cL cZ Q A z) s.heap.size)) (F0 m 35 ls [])
set_option maxHeartbeats 4000000 in
set_option maxRecDepth 100000 in
theorem L_hp_sameWords_j35 (l : Launch) (G : va_G) (cL cZ : ClassId) (Q : Nat → Nat) (A : Nat → Nat) (z : Hs) (p : Program) (e : Env) (s : State) (m : MethodId) (args : Array Value) (below : List Frame) (meth : Method) (c : Code) (O0 : Int32) (mcT msT : Nat) (C : MC p s m args meth c cX0_sameWords 3 (some .boolean) RX0 vX0_sameWords) (hK : va_K G vwCl (ct cL cZ) s) : At_hp_sameWords_j35 l G cL cZ Q A z p e s m args below meth c O0 mcT msT hp_sameWords_j35 := by
  obtain ⟨hx, hb, hr, hml, hown, hts, hlocks⟩ := id C
  have FX : CallFix p m c cX0_sameWords 3 s args vX0_sameWords RX0 := ⟨hx, hb, hml, hown, hts⟩
  have hA : ∀ q9 : Nat, s.heap.size ≤ q9 → va_A (cw cL cZ Q A z) s.heap.size q9 := fun q9 h => Or.inr h
  intro _ H locs ls cells slots hP hD hS hl hf hcc hss
  unfold hp_sameWords_j35 at hf
  refine lv_iconst (v := 0) hx hb dX0_sameWords_35 (by decide) ?_
  obtain rfl := Option.some.inj hf
  exact grRz (by decide) hx hb hr hlocks hP hK hD hS dX0_sameWords_36 (by omega) (by omega)
set_option maxHeartbeats 4000000 in
set_option maxRecDepth 100000 in
theorem c_hp_sameWords (l : Launch) (G : va_G) (cL cZ : ClassId) (Q : Nat → Nat) (A : Nat → Nat) (z : Hs) (sz : Nat) (p0 : Int32) (p1 : Int32) (O0 : Int32) (hf : hp_sameWords z p0 p1 = some O0) : Met l yX0_sameWords vX0_sameWords { frames := 0, cells := 0, slots := 0, locals := 0 } (gPc G vwCl (ct cL cZ) [.ref (Q 1), .int p0, .int p1] (cw cL cZ Q A z) sz) (qRi G vwCl (ct cL cZ) (cw cL cZ Q A z) sz O0) 0 0 (va_A (cw cL cZ Q A z) sz) := by
  refine gMet (by decide) rfl (Nat.le_of_ble_eq_true rfl) ?_
  intro p e s m below meth c ls C hK hP hD hsz hl
  subst hsz
  obtain ⟨hx, hb, hr, hml, hown, hts, hlocks⟩ := id C
  have FX : CallFix p m c cX0_sameWords 3 s _ vX0_sameWords RX0 := ⟨hx, hb, hml, hown, hts⟩
  have hA : ∀ q9 : Nat, s.heap.size ≤ q9 → va_A (cw cL cZ Q A z) s.heap.size q9 := fun q9 h => Or.inr h
  have hS : va_S (va_A (cw cL cZ Q A z) s.heap.size) s.heap s.heap [] := va_S.rf
  have hl : lv_has ls 3 [(0, .ref (Q 1)), (1, .int p0), (2, .int p1)] := hl
  unfold hp_sameWords at hf
  refine lv_aload_n hx hb dX0_sameWords_0 rfl (lv_at hl 0 rfl) ?_
  refine va_get (D := G) (ci := 0) (v := .ref (A 5)) (C := RX0) (T := TX0) (N := 14) hx hb hts (fun w h => .tail _ (wl_X0 w h)) hown hK hP 1 rfl rfl 2 (by decide) (hts _ (.tail _ wd_1)) (fun _ h9 => h9) rfl dX0_sameWords_1 ?_
  refine lv_iload_n hx hb dX0_sameWords_4 rfl (lv_at hl 1 rfl) ?_
  obtain ⟨hg1, hf⟩ := of_gd hf
  refine va_zald (f := (Hs.arf z)) (n := (Hs.nrf z)) hx hb hK hP 5 1 rfl rfl (inb_in hg1) dX0_sameWords_5 ?_
  refine lv_aload_n hx hb dX0_sameWords_6 rfl (lv_at hl 0 rfl) ?_
  refine va_get (D := G) (ci := 0) (v := .ref (A 5)) (C := RX0) (T := TX0) (N := 14) hx hb hts (fun w h => .tail _ (wl_X0 w h)) hown hK hP 1 rfl rfl 2 (by decide) (hts _ (.tail _ wd_1)) (fun _ h9 => h9) rfl dX0_sameWords_7 ?_
  refine lv_iload_n hx hb dX0_sameWords_10 rfl (lv_at hl 2 rfl) ?_
  obtain ⟨hg2, hf⟩ := of_gd hf
  refine va_zald (f := (Hs.arf z)) (n := (Hs.nrf z)) hx hb hK hP 5 1 rfl rfl (inb_in hg2) dX0_sameWords_11 ?_
  refine lv_icmp_ne (tgt := 35) hx hb dX0_sameWords_12 (by decide) (fun c3 => ?_) (fun c3 => ?_)
  · have hf := (if_neg c3).symm.trans hf
    exact L_hp_sameWords_j35 _ _ _ _ _ _ _ _ _ _ _ _ _ _ _ _ _ _ C hK () _ _ _ _ _ hP hD hS (lv_sub hl [] rfl) hf (by omega) (by omega)
  · have hf := (if_pos c3).symm.trans hf
    refine lv_aload_n hx hb dX0_sameWords_15 rfl (lv_at hl 0 rfl) ?_
    refine va_get (D := G) (ci := 0) (v := .ref (A 4)) (C := RX0) (T := TX0) (N := 14) hx hb hts (fun w h => .tail _ (wl_X0 w h)) hown hK hP 1 rfl rfl 1 (by decide) (hts _ (.tail _ wd_0)) (fun _ h9 => h9) rfl dX0_sameWords_16 ?_
    refine lv_iload_n hx hb dX0_sameWords_19 rfl (lv_at hl 1 rfl) ?_
    obtain ⟨hg4, hf⟩ := of_gd hf
    refine va_lald (f := (Hs.abt z)) (n := (Hs.nbt z)) hx hb hK hP 4 0 rfl rfl (inb_in hg4) dX0_sameWords_20 ?_
    refine lv_aload_n hx hb dX0_sameWords_21 rfl (lv_at hl 0 rfl) ?_
    refine va_get (D := G) (ci := 0) (v := .ref (A 4)) (C := RX0) (T := TX0) (N := 14) hx hb hts (fun w h => .tail _ (wl_X0 w h)) hown hK hP 1 rfl rfl 1 (by decide) (hts _ (.tail _ wd_0)) (fun _ h9 => h9) rfl dX0_sameWords_22 ?_
    refine lv_iload_n hx hb dX0_sameWords_25 rfl (lv_at hl 2 rfl) ?_
    obtain ⟨hg5, hf⟩ := of_gd hf
    refine va_lald (f := (Hs.abt z)) (n := (Hs.nbt z)) hx hb hK hP 4 0 rfl rfl (inb_in hg5) dX0_sameWords_26 ?_
    refine W.lcmp hx hb dX0_sameWords_27 ?_
    refine lv_if_ne (tgt := 35) hx hb dX0_sameWords_28 (by decide) (fun c6 => ?_) (fun c6 => ?_)
    · have hf := (if_neg c6).symm.trans hf
      exact L_hp_sameWords_j35 _ _ _ _ _ _ _ _ _ _ _ _ _ _ _ _ _ _ C hK () _ _ _ _ _ hP hD hS (lv_sub hl [] rfl) hf (by omega) (by omega)
    · have hf := (if_pos c6).symm.trans hf
      refine lv_iconst (v := 1) hx hb dX0_sameWords_31 (by decide) ?_
      refine lv_goto (tgt := 36) hx hb dX0_sameWords_32 (by decide) ?_
      obtain rfl := Option.some.inj hf
      exact grRz (by decide) hx hb hr hlocks hP hK hD hS dX0_sameWords_36 (by omega) (by omega)
set_option maxHeartbeats 4000000 in
set_option maxRecDepth 100000 in
theorem c_hp_setNumber (l : Launch) (G : va_G) (cL cZ : ClassId) (Q : Nat → Nat) (A : Nat → Nat) (z : Hs) (sz : Nat) (p0 : Int32) (p1 : Int64) (O0 : Hs × Unit) (hf : hp_setNumber z p0 p1 = some O0) : Met l yX0_setNumber vX0_setNumber { frames := 0, cells := 0, slots := 0, locals := 0 } (gPc G vwCl (ct cL cZ) [.ref (Q 1), .int p0, .long p1] (cw cL cZ Q A z) sz) (qWv G vwCl (ct cL cZ) (cw cL cZ Q A z) sz (cw cL cZ Q) O0) 0 0 (va_A (cw cL cZ Q A z) sz) := by
  refine gMet (by decide) rfl (Nat.le_of_ble_eq_true rfl) ?_
  intro p e s m below meth c ls C hK hP hD hsz hl
  subst hsz
  obtain ⟨hx, hb, hr, hml, hown, hts, hlocks⟩ := id C
  have FX : CallFix p m c cX0_setNumber 4 s _ vX0_setNumber RX0 := ⟨hx, hb, hml, hown, hts⟩
  have hA : ∀ q9 : Nat, s.heap.size ≤ q9 → va_A (cw cL cZ Q A z) s.heap.size q9 := fun q9 h => Or.inr h
  have hS : va_S (va_A (cw cL cZ Q A z) s.heap.size) s.heap s.heap [] := va_S.rf
  have hl : lv_has ls 4 [(0, .ref (Q 1)), (1, .int p0), (2, .long p1)] := hl
  unfold hp_setNumber at hf
  refine lv_aload_n hx hb dX0_setNumber_0 rfl (lv_at hl 0 rfl) ?_
  refine va_get (D := G) (ci := 0) (v := .ref (A 4)) (C := RX0) (T := TX0) (N := 14) hx hb hts (fun w h => .tail _ (wl_X0 w h)) hown hK hP 1 rfl rfl 1 (by decide) (hts _ (.tail _ wd_0)) (fun _ h9 => h9) rfl dX0_setNumber_1 ?_
  refine lv_iload_n hx hb dX0_setNumber_4 rfl (lv_at hl 1 rfl) ?_
  refine lv_lload_n hx hb dX0_setNumber_5 rfl (lv_at hl 2 rfl) ?_
  obtain ⟨hg1, hf⟩ := of_gd hf
  refine va_last (f := (Hs.abt z)) (n := (Hs.nbt z)) hx hb hK hP hD hS 4 0 rfl rfl (inb_in hg1) dX0_setNumber_6 (fun H locs hP hD hS => ?_)
  have hP : va_P G vwCl (cw cL cZ Q A (Hs.wbt z (vp_updL (Hs.abt z) (p0.toNatClampNeg) p1))) H := hP
  have hD : va_D _ (cw cL cZ Q A (Hs.wbt z (vp_updL (Hs.abt z) (p0.toNatClampNeg) p1))) := hD
  refine lv_aload_n hx hb dX0_setNumber_7 rfl (lv_at hl 0 rfl) ?_
  refine va_get (D := G) (ci := 0) (v := .ref (A 5)) (C := RX0) (T := TX0) (N := 14) hx hb hts (fun w h => .tail _ (wl_X0 w h)) hown hK hP 1 rfl rfl 2 (by decide) (hts _ (.tail _ wd_1)) (fun _ h9 => h9) rfl dX0_setNumber_8 ?_
  refine lv_iload_n hx hb dX0_setNumber_11 rfl (lv_at hl 1 rfl) ?_
  refine lv_iconst (v := 0) hx hb dX0_setNumber_12 (by decide) ?_
  obtain ⟨hg2, hf⟩ := of_gd hf
  refine va_zast (f := (Hs.arf z)) (n := (Hs.nrf z)) hx hb hK hP hD hS 5 1 rfl rfl (inb_in hg2) dX0_setNumber_13 (fun H locs hP hD hS => ?_)
  have hP : va_P G vwCl (cw cL cZ Q A (Hs.wrf (Hs.wbt z (vp_updL (Hs.abt z) (p0.toNatClampNeg) p1)) (upd (Hs.arf z) (p0.toNatClampNeg) (vp_nar .boolean 0)))) H := hP
  have hD : va_D _ (cw cL cZ Q A (Hs.wrf (Hs.wbt z (vp_updL (Hs.abt z) (p0.toNatClampNeg) p1)) (upd (Hs.arf z) (p0.toNatClampNeg) (vp_nar .boolean 0)))) := hD
  obtain rfl := Option.some.inj hf
  exact grWv hx hb hr hlocks hP hK hD hS dX0_setNumber_14 (by omega) (by omega)
set_option maxHeartbeats 4000000 in
set_option maxRecDepth 100000 in
theorem c_hp_setReference (l : Launch) (G : va_G) (cL cZ : ClassId) (Q : Nat → Nat) (A : Nat → Nat) (z : Hs) (sz : Nat) (p0 : Int32) (p1 : Int32) (p2 : Int32) (O0 : Hs × Unit) (hf : hp_setReference z p0 p1 p2 = some O0) : Met l yX0_setReference vX0_setReference { frames := 0, cells := 0, slots := 0, locals := 0 } (gPc G vwCl (ct cL cZ) [.ref (Q 1), .int p0, .int p1, .int p2] (cw cL cZ Q A z) sz) (qWv G vwCl (ct cL cZ) (cw cL cZ Q A z) sz (cw cL cZ Q) O0) 0 0 (va_A (cw cL cZ Q A z) sz) := by
  refine gMet (by decide) rfl (Nat.le_of_ble_eq_true rfl) ?_
  intro p e s m below meth c ls C hK hP hD hsz hl
  subst hsz
  obtain ⟨hx, hb, hr, hml, hown, hts, hlocks⟩ := id C
  have FX : CallFix p m c cX0_setReference 4 s _ vX0_setReference RX0 := ⟨hx, hb, hml, hown, hts⟩
  have hA : ∀ q9 : Nat, s.heap.size ≤ q9 → va_A (cw cL cZ Q A z) s.heap.size q9 := fun q9 h => Or.inr h
  have hS : va_S (va_A (cw cL cZ Q A z) s.heap.size) s.heap s.heap [] := va_S.rf
  have hl : lv_has ls 4 [(0, .ref (Q 1)), (1, .int p0), (2, .int p1), (3, .int p2)] := hl
  unfold hp_setReference at hf
  refine lv_aload_n hx hb dX0_setReference_0 rfl (lv_at hl 0 rfl) ?_
  refine va_get (D := G) (ci := 0) (v := .ref (A 4)) (C := RX0) (T := TX0) (N := 14) hx hb hts (fun w h => .tail _ (wl_X0 w h)) hown hK hP 1 rfl rfl 1 (by decide) (hts _ (.tail _ wd_0)) (fun _ h9 => h9) rfl dX0_setReference_1 ?_
  refine lv_iload_n hx hb dX0_setReference_4 rfl (lv_at hl 1 rfl) ?_
  refine lv_iload_n hx hb dX0_setReference_5 rfl (lv_at hl 2 rfl) ?_
  refine lv_i2l hx hb dX0_setReference_6 rfl ?_
  refine lv_bipush (v := 13) hx hb dX0_setReference_7 (by decide) ?_
  refine lv_lshl hx hb dX0_setReference_9 rfl ?_
  refine lv_iload_n hx hb dX0_setReference_10 rfl (lv_at hl 3 rfl) ?_
  refine lv_i2l hx hb dX0_setReference_11 rfl ?_
  refine lv_lor hx hb dX0_setReference_12 ?_
  obtain ⟨hg1, hf⟩ := of_gd hf
  refine va_last (f := (Hs.abt z)) (n := (Hs.nbt z)) hx hb hK hP hD hS 4 0 rfl rfl (inb_in hg1) dX0_setReference_13 (fun H locs hP hD hS => ?_)
  have hP : va_P G vwCl (cw cL cZ Q A (Hs.wbt z (vp_updL (Hs.abt z) (p0.toNatClampNeg) (((p1.toInt64) <<< ((13 : Int32).toInt64 &&& 63)) ||| (p2.toInt64))))) H := hP
  have hD : va_D _ (cw cL cZ Q A (Hs.wbt z (vp_updL (Hs.abt z) (p0.toNatClampNeg) (((p1.toInt64) <<< ((13 : Int32).toInt64 &&& 63)) ||| (p2.toInt64))))) := hD
  refine lv_aload_n hx hb dX0_setReference_14 rfl (lv_at hl 0 rfl) ?_
  refine va_get (D := G) (ci := 0) (v := .ref (A 5)) (C := RX0) (T := TX0) (N := 14) hx hb hts (fun w h => .tail _ (wl_X0 w h)) hown hK hP 1 rfl rfl 2 (by decide) (hts _ (.tail _ wd_1)) (fun _ h9 => h9) rfl dX0_setReference_15 ?_
  refine lv_iload_n hx hb dX0_setReference_18 rfl (lv_at hl 1 rfl) ?_
  refine lv_iconst (v := 1) hx hb dX0_setReference_19 (by decide) ?_
  obtain ⟨hg2, hf⟩ := of_gd hf
  refine va_zast (f := (Hs.arf z)) (n := (Hs.nrf z)) hx hb hK hP hD hS 5 1 rfl rfl (inb_in hg2) dX0_setReference_20 (fun H locs hP hD hS => ?_)
  have hP : va_P G vwCl (cw cL cZ Q A (Hs.wrf (Hs.wbt z (vp_updL (Hs.abt z) (p0.toNatClampNeg) (((p1.toInt64) <<< ((13 : Int32).toInt64 &&& 63)) ||| (p2.toInt64)))) (upd (Hs.arf z) (p0.toNatClampNeg) (vp_nar .boolean 1)))) H := hP
  have hD : va_D _ (cw cL cZ Q A (Hs.wrf (Hs.wbt z (vp_updL (Hs.abt z) (p0.toNatClampNeg) (((p1.toInt64) <<< ((13 : Int32).toInt64 &&& 63)) ||| (p2.toInt64)))) (upd (Hs.arf z) (p0.toNatClampNeg) (vp_nar .boolean 1)))) := hD
  obtain rfl := Option.some.inj hf
  exact grWv hx hb hr hlocks hP hK hD hS dX0_setReference_21 (by omega) (by omega)
set_option maxHeartbeats 4000000 in
set_option maxRecDepth 100000 in
theorem c_hp_setWord (l : Launch) (G : va_G) (cL cZ : ClassId) (Q : Nat → Nat) (A : Nat → Nat) (z : Hs) (sz : Nat) (p0 : Int32) (p1 : Int32) (O0 : Hs × Unit) (hf : hp_setWord z p0 p1 = some O0) : Met l yX0_setWord vX0_setWord { frames := 0, cells := 0, slots := 0, locals := 0 } (gPc G vwCl (ct cL cZ) [.ref (Q 1), .int p0, .int p1] (cw cL cZ Q A z) sz) (qWv G vwCl (ct cL cZ) (cw cL cZ Q A z) sz (cw cL cZ Q) O0) 0 0 (va_A (cw cL cZ Q A z) sz) := by
  refine gMet (by decide) rfl (Nat.le_of_ble_eq_true rfl) ?_
  intro p e s m below meth c ls C hK hP hD hsz hl
  subst hsz
  obtain ⟨hx, hb, hr, hml, hown, hts, hlocks⟩ := id C
  have FX : CallFix p m c cX0_setWord 3 s _ vX0_setWord RX0 := ⟨hx, hb, hml, hown, hts⟩
  have hA : ∀ q9 : Nat, s.heap.size ≤ q9 → va_A (cw cL cZ Q A z) s.heap.size q9 := fun q9 h => Or.inr h
  have hS : va_S (va_A (cw cL cZ Q A z) s.heap.size) s.heap s.heap [] := va_S.rf
  have hl : lv_has ls 3 [(0, .ref (Q 1)), (1, .int p0), (2, .int p1)] := hl
  unfold hp_setWord at hf
  refine lv_aload_n hx hb dX0_setWord_0 rfl (lv_at hl 0 rfl) ?_
  refine va_get (D := G) (ci := 0) (v := .ref (A 4)) (C := RX0) (T := TX0) (N := 14) hx hb hts (fun w h => .tail _ (wl_X0 w h)) hown hK hP 1 rfl rfl 1 (by decide) (hts _ (.tail _ wd_0)) (fun _ h9 => h9) rfl dX0_setWord_1 ?_
  refine lv_iload_n hx hb dX0_setWord_4 rfl (lv_at hl 1 rfl) ?_
  refine lv_aload_n hx hb dX0_setWord_5 rfl (lv_at hl 0 rfl) ?_
  refine va_get (D := G) (ci := 0) (v := .ref (A 4)) (C := RX0) (T := TX0) (N := 14) hx hb hts (fun w h => .tail _ (wl_X0 w h)) hown hK hP 1 rfl rfl 1 (by decide) (hts _ (.tail _ wd_0)) (fun _ h9 => h9) rfl dX0_setWord_6 ?_
  refine lv_iload_n hx hb dX0_setWord_9 rfl (lv_at hl 2 rfl) ?_
  obtain ⟨hg1, hf⟩ := of_gd hf
  refine va_lald (f := (Hs.abt z)) (n := (Hs.nbt z)) hx hb hK hP 4 0 rfl rfl (inb_in hg1) dX0_setWord_10 ?_
  obtain ⟨hg2, hf⟩ := of_gd hf
  refine va_last (f := (Hs.abt z)) (n := (Hs.nbt z)) hx hb hK hP hD hS 4 0 rfl rfl (inb_in hg2) dX0_setWord_11 (fun H locs hP hD hS => ?_)
  have hP : va_P G vwCl (cw cL cZ Q A (Hs.wbt z (vp_updL (Hs.abt z) (p0.toNatClampNeg) ((Hs.abt z) p1.toNatClampNeg)))) H := hP
  have hD : va_D _ (cw cL cZ Q A (Hs.wbt z (vp_updL (Hs.abt z) (p0.toNatClampNeg) ((Hs.abt z) p1.toNatClampNeg)))) := hD
  refine lv_aload_n hx hb dX0_setWord_12 rfl (lv_at hl 0 rfl) ?_
  refine va_get (D := G) (ci := 0) (v := .ref (A 5)) (C := RX0) (T := TX0) (N := 14) hx hb hts (fun w h => .tail _ (wl_X0 w h)) hown hK hP 1 rfl rfl 2 (by decide) (hts _ (.tail _ wd_1)) (fun _ h9 => h9) rfl dX0_setWord_13 ?_
  refine lv_iload_n hx hb dX0_setWord_16 rfl (lv_at hl 1 rfl) ?_
  refine lv_aload_n hx hb dX0_setWord_17 rfl (lv_at hl 0 rfl) ?_
  refine va_get (D := G) (ci := 0) (v := .ref (A 5)) (C := RX0) (T := TX0) (N := 14) hx hb hts (fun w h => .tail _ (wl_X0 w h)) hown hK hP 1 rfl rfl 2 (by decide) (hts _ (.tail _ wd_1)) (fun _ h9 => h9) rfl dX0_setWord_18 ?_
  refine lv_iload_n hx hb dX0_setWord_21 rfl (lv_at hl 2 rfl) ?_
  obtain ⟨hg3, hf⟩ := of_gd hf
  refine va_zald (f := (Hs.arf z)) (n := (Hs.nrf z)) hx hb hK hP 5 1 rfl rfl (inb_in hg3) dX0_setWord_22 ?_
  obtain ⟨hg4, hf⟩ := of_gd hf
  refine va_zast (f := (Hs.arf z)) (n := (Hs.nrf z)) hx hb hK hP hD hS 5 1 rfl rfl (inb_in hg4) dX0_setWord_23 (fun H locs hP hD hS => ?_)
  have hP : va_P G vwCl (cw cL cZ Q A (Hs.wrf (Hs.wbt z (vp_updL (Hs.abt z) (p0.toNatClampNeg) ((Hs.abt z) p1.toNatClampNeg))) (upd (Hs.arf z) (p0.toNatClampNeg) (vp_nar .boolean ((Hs.arf z) p1.toNatClampNeg))))) H := hP
  have hD : va_D _ (cw cL cZ Q A (Hs.wrf (Hs.wbt z (vp_updL (Hs.abt z) (p0.toNatClampNeg) ((Hs.abt z) p1.toNatClampNeg))) (upd (Hs.arf z) (p0.toNatClampNeg) (vp_nar .boolean ((Hs.arf z) p1.toNatClampNeg))))) := hD
  obtain rfl := Option.some.inj hf
  exact grWv hx hb hr hlocks hP hK hD hS dX0_setWord_24 (by omega) (by omega)
def At_hp_copyWords_l60 (l : Launch) (G : va_G) (cL cZ : ClassId) (Q : Nat → Nat) (w : va_W) (p : Program) (e : Env) (s : State) (m : MethodId) (args : Array Value) (below : List Frame) (meth : Method) (c : Code) (O0 : Hs × Unit) (mcT msT : Nat) (F : Int32 → Int32 → Int32 → Hs → Option (Hs × Unit)) : Prop := ∀ (A : Nat → Nat) (z : Hs) (x1 : Int32) (x2 : Int32) (x4 : Int32) (H : Heap) (locs : List Loc) (ls : Array Slot) (cells slots : Nat), va_P G vwCl (cw cL cZ Q A z) H → va_D (va_A w s.heap.size) (cw cL cZ Q A z) → va_S (va_A w s.heap.size) s.heap H locs → lv_has ls 5 [(0, .ref (Q 1)), (1, .int x1), (2, .int x2), (4, .int x4)] → F x1 x2 x4 z = some O0 → cells + 0 ≤ mcT → slots + 0 ≤ msT → W p l e { frames := 1, cells := mcT, slots := msT, locals := 40 } s m args below meth c H locs cells slots (MQ below (qWv G vwCl (ct cL cZ) w s.heap.size (cw cL cZ Q) O0) args s mcT msT (va_A w s.heap.size)) (F0 m 60 ls [])
def At_hp_copyWords_l22 (l : Launch) (G : va_G) (cL cZ : ClassId) (Q : Nat → Nat) (w : va_W) (p : Program) (e : Env) (s : State) (m : MethodId) (args : Array Value) (below : List Frame) (meth : Method) (c : Code) (O0 : Hs × Unit) (mcT msT : Nat) (F : Int32 → Int32 → Int32 → Int32 → Hs → Option (Hs × Unit)) : Prop := ∀ (A : Nat → Nat) (z : Hs) (x1 : Int32) (x2 : Int32) (x3 : Int32) (x4 : Int32) (H : Heap) (locs : List Loc) (ls : Array Slot) (cells slots : Nat), va_P G vwCl (cw cL cZ Q A z) H → va_D (va_A w s.heap.size) (cw cL cZ Q A z) → va_S (va_A w s.heap.size) s.heap H locs → lv_has ls 5 [(0, .ref (Q 1)), (1, .int x1), (2, .int x2), (3, .int x3), (4, .int x4)] → F x1 x2 x3 x4 z = some O0 → cells + 0 ≤ mcT → slots + 0 ≤ msT → W p l e { frames := 1, cells := mcT, slots := msT, locals := 40 } s m args below meth c H locs cells slots (MQ below (qWv G vwCl (ct cL cZ) w s.heap.size (cw cL cZ Q) O0) args s mcT msT (va_A w s.heap.size)) (F0 m 22 ls [])
set_option maxHeartbeats 4000000 in
set_option maxRecDepth 100000 in
theorem L_hp_copyWords_l60 (l : Launch) (G : va_G) (cL cZ : ClassId) (Q : Nat → Nat) (w : va_W) (p : Program) (e : Env) (s : State) (m : MethodId) (args : Array Value) (below : List Frame) (meth : Method) (c : Code) (O0 : Hs × Unit) (mcT msT : Nat) (C : MC p s m args meth c cX0_copyWords 5 (none) RX0 vX0_copyWords) (hK : va_K G vwCl (ct cL cZ) s) : ∀ n : Nat, At_hp_copyWords_l60 l G cL cZ Q w p e s m args below meth c O0 mcT msT (hp_copyWords_l60 n) := by
  obtain ⟨hx, hb, hr, hml, hown, hts, hlocks⟩ := id C
  have FX : CallFix p m c cX0_copyWords 5 s args vX0_copyWords RX0 := ⟨hx, hb, hml, hown, hts⟩
  have hA : ∀ q9 : Nat, s.heap.size ≤ q9 → va_A w s.heap.size q9 := fun q9 h => Or.inr h
  intro n
  induction n with
  | zero =>
    intro A z x1 x2 x4 H locs ls cells slots hP hD hS hl hf hcc hss
    exact nomatch (show none = some _ from hf)
  | succ n ih =>
    intro A z x1 x2 x4 H locs ls cells slots hP hD hS hl hf hcc hss
    rw [hp_copyWords_l60] at hf
    refine lv_iload hx hb dX0_copyWords_60 (lv_at hl 3 rfl) ?_
    refine lv_if_lt (tgt := 89) hx hb dX0_copyWords_62 (by decide) (fun c3 => ?_) (fun c3 => ?_)
    · have hf := (if_pos c3).symm.trans hf
      obtain rfl := Option.some.inj hf
      exact grWv hx hb hr hlocks hP hK hD hS dX0_copyWords_89 (by omega) (by omega)
    · have hf := (if_neg c3).symm.trans hf
      refine lv_aload_n hx hb dX0_copyWords_65 rfl (lv_at hl 0 rfl) ?_
      refine va_get (D := G) (ci := 0) (v := .ref (A 5)) (C := RX0) (T := TX0) (N := 14) hx hb hts (fun w h => .tail _ (wl_X0 w h)) hown hK hP 1 rfl rfl 2 (by decide) (hts _ (.tail _ wd_1)) (fun _ h9 => h9) rfl dX0_copyWords_66 ?_
      refine lv_iload_n hx hb dX0_copyWords_69 rfl (lv_at hl 1 rfl) ?_
      refine lv_iload hx hb dX0_copyWords_70 (lv_at hl 3 rfl) ?_
      refine lv_iadd hx hb dX0_copyWords_72 ?_
      refine lv_aload_n hx hb dX0_copyWords_73 rfl (lv_at hl 0 rfl) ?_
      refine va_get (D := G) (ci := 0) (v := .ref (A 5)) (C := RX0) (T := TX0) (N := 14) hx hb hts (fun w h => .tail _ (wl_X0 w h)) hown hK hP 1 rfl rfl 2 (by decide) (hts _ (.tail _ wd_1)) (fun _ h9 => h9) rfl dX0_copyWords_74 ?_
      refine lv_iload_n hx hb dX0_copyWords_77 rfl (lv_at hl 2 rfl) ?_
      refine lv_iload hx hb dX0_copyWords_78 (lv_at hl 3 rfl) ?_
      refine lv_iadd hx hb dX0_copyWords_80 ?_
      obtain ⟨hg4, hf⟩ := of_gd hf
      refine va_zald (f := (Hs.arf z)) (n := (Hs.nrf z)) hx hb hK hP 5 1 rfl rfl (inb_in hg4) dX0_copyWords_81 ?_
      obtain ⟨hg5, hf⟩ := of_gd hf
      refine va_zast (f := (Hs.arf z)) (n := (Hs.nrf z)) hx hb hK hP hD hS 5 1 rfl rfl (inb_in hg5) dX0_copyWords_82 (fun H locs hP hD hS => ?_)
      have hP : va_P G vwCl (cw cL cZ Q A (Hs.wrf z (upd (Hs.arf z) ((x1 + x4).toNatClampNeg) (vp_nar .boolean ((Hs.arf z) (x2 + x4).toNatClampNeg))))) H := hP
      have hD : va_D _ (cw cL cZ Q A (Hs.wrf z (upd (Hs.arf z) ((x1 + x4).toNatClampNeg) (vp_nar .boolean ((Hs.arf z) (x2 + x4).toNatClampNeg))))) := hD
      refine lv_iinc (v := (x4 + (-1))) (lv' := [(4, .int (x4 + (-1))), (0, .ref (Q 1)), (1, .int x1), (2, .int x2)]) hx hb dX0_copyWords_83 hl (k := 3) rfl rfl (by decide) rfl (fun ls hl => ?_)
      refine lv_goto (tgt := 60) hx hb dX0_copyWords_86 (by decide) ?_
      exact ih _ _ _ _ _ _ _ _ _ _ hP hD hS (lv_sub hl [1, 2, 3, 0] rfl) hf (by omega) (by omega)
set_option maxHeartbeats 4000000 in
set_option maxRecDepth 100000 in
theorem L_hp_copyWords_l22 (l : Launch) (G : va_G) (cL cZ : ClassId) (Q : Nat → Nat) (w : va_W) (p : Program) (e : Env) (s : State) (m : MethodId) (args : Array Value) (below : List Frame) (meth : Method) (c : Code) (O0 : Hs × Unit) (mcT msT : Nat) (C : MC p s m args meth c cX0_copyWords 5 (none) RX0 vX0_copyWords) (hK : va_K G vwCl (ct cL cZ) s) : ∀ n : Nat, At_hp_copyWords_l22 l G cL cZ Q w p e s m args below meth c O0 mcT msT (hp_copyWords_l22 n) := by
  obtain ⟨hx, hb, hr, hml, hown, hts, hlocks⟩ := id C
  have FX : CallFix p m c cX0_copyWords 5 s args vX0_copyWords RX0 := ⟨hx, hb, hml, hown, hts⟩
  have hA : ∀ q9 : Nat, s.heap.size ≤ q9 → va_A w s.heap.size q9 := fun q9 h => Or.inr h
  intro n
  induction n with
  | zero =>
    intro A z x1 x2 x3 x4 H locs ls cells slots hP hD hS hl hf hcc hss
    exact nomatch (show none = some _ from hf)
  | succ n ih =>
    intro A z x1 x2 x3 x4 H locs ls cells slots hP hD hS hl hf hcc hss
    rw [hp_copyWords_l22] at hf
    refine lv_iload hx hb dX0_copyWords_22 (lv_at hl 4 rfl) ?_
    refine lv_iload_n hx hb dX0_copyWords_24 rfl (lv_at hl 3 rfl) ?_
    refine lv_icmp_ge (tgt := 52) hx hb dX0_copyWords_25 (by decide) (fun c6 => ?_) (fun c6 => ?_)
    · have hf := (if_pos c6).symm.trans hf
      refine lv_goto (tgt := 89) hx hb dX0_copyWords_52 (by decide) ?_
      obtain rfl := Option.some.inj hf
      exact grWv hx hb hr hlocks hP hK hD hS dX0_copyWords_89 (by omega) (by omega)
    · have hf := (if_neg c6).symm.trans hf
      refine lv_aload_n hx hb dX0_copyWords_28 rfl (lv_at hl 0 rfl) ?_
      refine va_get (D := G) (ci := 0) (v := .ref (A 5)) (C := RX0) (T := TX0) (N := 14) hx hb hts (fun w h => .tail _ (wl_X0 w h)) hown hK hP 1 rfl rfl 2 (by decide) (hts _ (.tail _ wd_1)) (fun _ h9 => h9) rfl dX0_copyWords_29 ?_
      refine lv_iload_n hx hb dX0_copyWords_32 rfl (lv_at hl 1 rfl) ?_
      refine lv_iload hx hb dX0_copyWords_33 (lv_at hl 4 rfl) ?_
      refine lv_iadd hx hb dX0_copyWords_35 ?_
      refine lv_aload_n hx hb dX0_copyWords_36 rfl (lv_at hl 0 rfl) ?_
      refine va_get (D := G) (ci := 0) (v := .ref (A 5)) (C := RX0) (T := TX0) (N := 14) hx hb hts (fun w h => .tail _ (wl_X0 w h)) hown hK hP 1 rfl rfl 2 (by decide) (hts _ (.tail _ wd_1)) (fun _ h9 => h9) rfl dX0_copyWords_37 ?_
      refine lv_iload_n hx hb dX0_copyWords_40 rfl (lv_at hl 2 rfl) ?_
      refine lv_iload hx hb dX0_copyWords_41 (lv_at hl 4 rfl) ?_
      refine lv_iadd hx hb dX0_copyWords_43 ?_
      obtain ⟨hg7, hf⟩ := of_gd hf
      refine va_zald (f := (Hs.arf z)) (n := (Hs.nrf z)) hx hb hK hP 5 1 rfl rfl (inb_in hg7) dX0_copyWords_44 ?_
      obtain ⟨hg8, hf⟩ := of_gd hf
      refine va_zast (f := (Hs.arf z)) (n := (Hs.nrf z)) hx hb hK hP hD hS 5 1 rfl rfl (inb_in hg8) dX0_copyWords_45 (fun H locs hP hD hS => ?_)
      have hP : va_P G vwCl (cw cL cZ Q A (Hs.wrf z (upd (Hs.arf z) ((x1 + x4).toNatClampNeg) (vp_nar .boolean ((Hs.arf z) (x2 + x4).toNatClampNeg))))) H := hP
      have hD : va_D _ (cw cL cZ Q A (Hs.wrf z (upd (Hs.arf z) ((x1 + x4).toNatClampNeg) (vp_nar .boolean ((Hs.arf z) (x2 + x4).toNatClampNeg))))) := hD
      refine lv_iinc (v := (x4 + 1)) (lv' := [(4, .int (x4 + 1)), (0, .ref (Q 1)), (1, .int x1), (2, .int x2), (3, .int x3)]) hx hb dX0_copyWords_46 hl (k := 4) rfl rfl (by decide) rfl (fun ls hl => ?_)
      refine lv_goto (tgt := 22) hx hb dX0_copyWords_49 (by decide) ?_
      exact ih _ _ _ _ _ _ _ _ _ _ _ hP hD hS (lv_sub hl [1, 2, 3, 4, 0] rfl) hf (by omega) (by omega)
set_option maxHeartbeats 4000000 in
set_option maxRecDepth 100000 in
theorem c_hp_copyWords (l : Launch) (G : va_G) (cL cZ : ClassId) (Q : Nat → Nat) (A : Nat → Nat) (z : Hs) (sz : Nat) (p0 : Int32) (p1 : Int32) (p2 : Int32) (O0 : Hs × Unit) (hf : hp_copyWords z p0 p1 p2 = some O0) : Met l yX0_copyWords vX0_copyWords { frames := 1, cells := 0, slots := 0, locals := 40 } (gPc G vwCl (ct cL cZ) [.ref (Q 1), .int p0, .int p1, .int p2] (cw cL cZ Q A z) sz) (qWv G vwCl (ct cL cZ) (cw cL cZ Q A z) sz (cw cL cZ Q) O0) 0 0 (va_A (cw cL cZ Q A z) sz) := by
  refine gMet (by decide) rfl (Nat.le_of_ble_eq_true rfl) ?_
  intro p e s m below meth c ls C hK hP hD hsz hl
  subst hsz
  obtain ⟨hx, hb, hr, hml, hown, hts, hlocks⟩ := id C
  have FX : CallFix p m c cX0_copyWords 5 s _ vX0_copyWords RX0 := ⟨hx, hb, hml, hown, hts⟩
  have hA : ∀ q9 : Nat, s.heap.size ≤ q9 → va_A (cw cL cZ Q A z) s.heap.size q9 := fun q9 h => Or.inr h
  have hS : va_S (va_A (cw cL cZ Q A z) s.heap.size) s.heap s.heap [] := va_S.rf
  have hl : lv_has ls 5 [(0, .ref (Q 1)), (1, .int p0), (2, .int p1), (3, .int p2)] := hl
  unfold hp_copyWords at hf
  refine lv_aload_n hx hb dX0_copyWords_0 rfl (lv_at hl 0 rfl) ?_
  refine va_get (D := G) (ci := 0) (v := .ref (A 4)) (C := RX0) (T := TX0) (N := 14) hx hb hts (fun w h => .tail _ (wl_X0 w h)) hown hK hP 1 rfl rfl 1 (by decide) (hts _ (.tail _ wd_0)) (fun _ h9 => h9) rfl dX0_copyWords_1 ?_
  refine lv_iload_n hx hb dX0_copyWords_4 rfl (lv_at hl 2 rfl) ?_
  refine lv_aload_n hx hb dX0_copyWords_5 rfl (lv_at hl 0 rfl) ?_
  refine va_get (D := G) (ci := 0) (v := .ref (A 4)) (C := RX0) (T := TX0) (N := 14) hx hb hts (fun w h => .tail _ (wl_X0 w h)) hown hK hP 1 rfl rfl 1 (by decide) (hts _ (.tail _ wd_0)) (fun _ h9 => h9) rfl dX0_copyWords_6 ?_
  refine lv_iload_n hx hb dX0_copyWords_9 rfl (lv_at hl 1 rfl) ?_
  refine lv_iload_n hx hb dX0_copyWords_10 rfl (lv_at hl 3 rfl) ?_
  obtain ⟨hg1, hf⟩ := of_gd hf
  obtain ⟨g1hg1, g2hg1, g3hg1, g4hg1, g5hg1⟩ := cpb_in hg1
  refine va_copyl hx hb (hml.trans hl.1.symm) hown (hts _ (.tail _ wd_17)) (hts _ (.tail _ wd_18)) (hts _ (.tail _ wd_19)) (hts _ (.tail _ wd_20)) hK hP hD hS 4 4 0 0 rfl rfl rfl rfl rfl g1hg1 g2hg1 g3hg1 g4hg1 g5hg1 (fun _ _ => rfl) (Nat.le_of_ble_eq_true rfl) (Nat.le_of_ble_eq_true rfl) dX0_copyWords_11 (fun H locs hP hD hS => ?_)
  have hP : va_P G vwCl (cw cL cZ Q A (Hs.wbt z (va_cpy (Hs.abt z) (Hs.abt z) p1.toNatClampNeg p0.toNatClampNeg p2.toNatClampNeg))) H := hP
  have hD : va_D _ (cw cL cZ Q A (Hs.wbt z (va_cpy (Hs.abt z) (Hs.abt z) p1.toNatClampNeg p0.toNatClampNeg p2.toNatClampNeg))) := hD
  refine lv_iload_n hx hb dX0_copyWords_14 rfl (lv_at hl 1 rfl) ?_
  refine lv_iload_n hx hb dX0_copyWords_15 rfl (lv_at hl 2 rfl) ?_
  refine lv_icmp_gt (tgt := 55) hx hb dX0_copyWords_16 (by decide) (fun c2 => ?_) (fun c2 => ?_)
  · have hf := (if_pos c2).symm.trans hf
    refine lv_iload_n hx hb dX0_copyWords_55 rfl (lv_at hl 3 rfl) ?_
    refine lv_iconst (v := 1) hx hb dX0_copyWords_56 (by decide) ?_
    refine lv_isub hx hb dX0_copyWords_57 ?_
    refine lv_istore (lv' := [(4, .int (p2 - 1)), (0, .ref (Q 1)), (1, .int p0), (2, .int p1), (3, .int p2)]) hx hb dX0_copyWords_58 hl (by decide) rfl (fun ls hl => ?_)
    exact L_hp_copyWords_l60 _ _ _ _ _ _ _ _ _ _ _ _ _ _ _ _ _ C hK FU _ _ _ _ _ _ _ _ _ _ hP hD hS (lv_sub hl [1, 2, 3, 0] rfl) hf (by omega) (by omega)
  · have hf := (if_neg c2).symm.trans hf
    refine lv_iconst (v := 0) hx hb dX0_copyWords_19 (by decide) ?_
    refine lv_istore (lv' := [(4, .int 0), (0, .ref (Q 1)), (1, .int p0), (2, .int p1), (3, .int p2)]) hx hb dX0_copyWords_20 hl (by decide) rfl (fun ls hl => ?_)
    exact L_hp_copyWords_l22 _ _ _ _ _ _ _ _ _ _ _ _ _ _ _ _ _ C hK FU _ _ _ _ _ _ _ _ _ _ _ hP hD hS (lv_sub hl [1, 2, 3, 4, 0] rfl) hf (by omega) (by omega)
set_option maxHeartbeats 4000000 in
set_option maxRecDepth 100000 in
theorem c_ja_rangeCheck (l : Launch) (G : va_G) (cL cZ : ClassId) (Q : Nat → Nat) (A : Nat → Nat) (z : Hs) (sz : Nat) (p0 : Int32) (p1 : Int32) (p2 : Int32) (O0 : Unit) (hf : ja_rangeCheck z p0 p1 p2 = some O0) : Met l yJA_rangeCheck vJA_rangeCheck { frames := 0, cells := 0, slots := 0, locals := 0 } (gPc G vwCl (ct cL cZ) [.int p0, .int p1, .int p2] (cw cL cZ Q A z) sz) (qRv G vwCl (ct cL cZ) (cw cL cZ Q A z) sz O0) 0 0 (va_A (cw cL cZ Q A z) sz) := by
  refine gMet (by decide) rfl (Nat.le_of_ble_eq_true rfl) ?_
  intro p e s m below meth c ls C hK hP hD hsz hl
  subst hsz
  obtain ⟨hx, hb, hr, hml, hown, hts, hlocks⟩ := id C
  have FX : CallFix p m c cJA_rangeCheck 3 s _ vJA_rangeCheck "java/util/Arrays" := ⟨hx, hb, hml, hown, hts⟩
  have hA : ∀ q9 : Nat, s.heap.size ≤ q9 → va_A (cw cL cZ Q A z) s.heap.size q9 := fun q9 h => Or.inr h
  have hS : va_S (va_A (cw cL cZ Q A z) s.heap.size) s.heap s.heap [] := va_S.rf
  have hl : lv_has ls 3 [(0, .int p0), (1, .int p1), (2, .int p2)] := hl
  unfold ja_rangeCheck at hf
  refine lv_iload_n hx hb dJA_rangeCheck_0 rfl (lv_at hl 1 rfl) ?_
  refine lv_iload_n hx hb dJA_rangeCheck_1 rfl (lv_at hl 2 rfl) ?_
  refine lv_icmp_le (tgt := 46) hx hb dJA_rangeCheck_2 (by decide) (fun c1 => ?_) (fun c1 => ?_)
  · have hf := (if_pos c1).symm.trans hf
    refine lv_iload_n hx hb dJA_rangeCheck_46 rfl (lv_at hl 1 rfl) ?_
    refine lv_if_ge (tgt := 59) hx hb dJA_rangeCheck_47 (by decide) (fun c2 => ?_) (fun c2 => ?_)
    · have hf := (if_pos c2).symm.trans hf
      refine lv_iload_n hx hb dJA_rangeCheck_59 rfl (lv_at hl 2 rfl) ?_
      refine lv_iload_n hx hb dJA_rangeCheck_60 rfl (lv_at hl 0 rfl) ?_
      refine lv_icmp_le (tgt := 73) hx hb dJA_rangeCheck_61 (by decide) (fun c3 => ?_) (fun c3 => ?_)
      · have hf := (if_pos c3).symm.trans hf
        obtain rfl := Option.some.inj hf
        exact grRv hx hb hr hlocks hP hK hD hS dJA_rangeCheck_73 (by omega) (by omega)
      · have hf := (if_neg c3).symm.trans hf
        cases hf
    · have hf := (if_neg c2).symm.trans hf
      cases hf
  · have hf := (if_neg c1).symm.trans hf
    cases hf
def At_ja_fill_l10 (l : Launch) (G : va_G) (cL cZ : ClassId) (Q : Nat → Nat) (w : va_W) (p : Program) (e : Env) (s : State) (m : MethodId) (args : Array Value) (below : List Frame) (meth : Method) (c : Code) (O0 : Hs × Unit) (mcT msT : Nat) (F : Int32 → Int64 → Int32 → Hs → Option (Hs × Unit)) : Prop := ∀ (A : Nat → Nat) (z : Hs) (x2 : Int32) (x3 : Int64) (x5 : Int32) (H : Heap) (locs : List Loc) (ls : Array Slot) (cells slots : Nat), va_P G vwCl (cw cL cZ Q A z) H → va_D (va_A w s.heap.size) (cw cL cZ Q A z) → va_S (va_A w s.heap.size) s.heap H locs → lv_has ls 6 [(0, .ref (A 4)), (2, .int x2), (3, .long x3), (5, .int x5)] → F x2 x3 x5 z = some O0 → cells + 0 ≤ mcT → slots + 0 ≤ msT → W p l e { frames := 1, cells := mcT, slots := msT, locals := 22 } s m args below meth c H locs cells slots (MQ below (qWv G vwCl (ct cL cZ) w s.heap.size (cw cL cZ Q) O0) args s mcT msT (va_A w s.heap.size)) (F0 m 10 ls [])
set_option maxHeartbeats 4000000 in
set_option maxRecDepth 100000 in
theorem L_ja_fill_l10 (l : Launch) (G : va_G) (cL cZ : ClassId) (Q : Nat → Nat) (w : va_W) (p : Program) (e : Env) (s : State) (m : MethodId) (args : Array Value) (below : List Frame) (meth : Method) (c : Code) (O0 : Hs × Unit) (mcT msT : Nat) (C : MC p s m args meth c cJA_fill 6 (none) "java/util/Arrays" vJA_fill) (hK : va_K G vwCl (ct cL cZ) s) : ∀ n : Nat, At_ja_fill_l10 l G cL cZ Q w p e s m args below meth c O0 mcT msT (ja_fill_l10 n) := by
  obtain ⟨hx, hb, hr, hml, hown, hts, hlocks⟩ := id C
  have FX : CallFix p m c cJA_fill 6 s args vJA_fill "java/util/Arrays" := ⟨hx, hb, hml, hown, hts⟩
  have hA : ∀ q9 : Nat, s.heap.size ≤ q9 → va_A w s.heap.size q9 := fun q9 h => Or.inr h
  intro n
  induction n with
  | zero =>
    intro A z x2 x3 x5 H locs ls cells slots hP hD hS hl hf hcc hss
    exact nomatch (show none = some _ from hf)
  | succ n ih =>
    intro A z x2 x3 x5 H locs ls cells slots hP hD hS hl hf hcc hss
    rw [ja_fill_l10] at hf
    refine lv_iload hx hb dJA_fill_10 (lv_at hl 3 rfl) ?_
    refine lv_iload_n hx hb dJA_fill_12 rfl (lv_at hl 1 rfl) ?_
    refine lv_icmp_ge (tgt := 27) hx hb dJA_fill_13 (by decide) (fun c2 => ?_) (fun c2 => ?_)
    · have hf := (if_pos c2).symm.trans hf
      obtain rfl := Option.some.inj hf
      exact grWv hx hb hr hlocks hP hK hD hS dJA_fill_27 (by omega) (by omega)
    · have hf := (if_neg c2).symm.trans hf
      refine lv_aload_n hx hb dJA_fill_16 rfl (lv_at hl 0 rfl) ?_
      refine lv_iload hx hb dJA_fill_17 (lv_at hl 3 rfl) ?_
      refine lv_lload_n hx hb dJA_fill_19 rfl (lv_at hl 2 rfl) ?_
      obtain ⟨hg3, hf⟩ := of_gd hf
      refine va_last (f := (Hs.abt z)) (n := (Hs.nbt z)) hx hb hK hP hD hS 4 0 rfl rfl (inb_in hg3) dJA_fill_20 (fun H locs hP hD hS => ?_)
      have hP : va_P G vwCl (cw cL cZ Q A (Hs.wbt z (vp_updL (Hs.abt z) (x5.toNatClampNeg) x3))) H := hP
      have hD : va_D _ (cw cL cZ Q A (Hs.wbt z (vp_updL (Hs.abt z) (x5.toNatClampNeg) x3))) := hD
      refine lv_iinc (v := (x5 + 1)) (lv' := [(5, .int (x5 + 1)), (0, .ref (A 4)), (2, .int x2), (3, .long x3)]) hx hb dJA_fill_21 hl (k := 3) rfl rfl (by decide) rfl (fun ls hl => ?_)
      refine lv_goto (tgt := 10) hx hb dJA_fill_24 (by decide) ?_
      exact ih _ _ _ _ _ _ _ _ _ _ hP hD hS (lv_sub hl [1, 2, 3, 0] rfl) hf (by omega) (by omega)
set_option maxHeartbeats 4000000 in
set_option maxRecDepth 100000 in
theorem c_ja_fill (l : Launch) (G : va_G) (cL cZ : ClassId) (Q : Nat → Nat) (A : Nat → Nat) (z : Hs) (sz : Nat) (p1 : Int32) (p2 : Int32) (p3 : Int64) (O0 : Hs × Unit) (hf : ja_fill z p1 p2 p3 = some O0) : Met l yJA_fill vJA_fill { frames := 1, cells := 0, slots := 0, locals := 22 } (gPc G vwCl (ct cL cZ) [.ref (A 4), .int p1, .int p2, .long p3] (cw cL cZ Q A z) sz) (qWv G vwCl (ct cL cZ) (cw cL cZ Q A z) sz (cw cL cZ Q) O0) 0 0 (va_A (cw cL cZ Q A z) sz) := by
  refine gMet (by decide) rfl (Nat.le_of_ble_eq_true rfl) ?_
  intro p e s m below meth c ls C hK hP hD hsz hl
  subst hsz
  obtain ⟨hx, hb, hr, hml, hown, hts, hlocks⟩ := id C
  have FX : CallFix p m c cJA_fill 6 s _ vJA_fill "java/util/Arrays" := ⟨hx, hb, hml, hown, hts⟩
  have hA : ∀ q9 : Nat, s.heap.size ≤ q9 → va_A (cw cL cZ Q A z) s.heap.size q9 := fun q9 h => Or.inr h
  have hS : va_S (va_A (cw cL cZ Q A z) s.heap.size) s.heap s.heap [] := va_S.rf
  have hl : lv_has ls 6 [(0, .ref (A 4)), (1, .int p1), (2, .int p2), (3, .long p3)] := hl
  unfold ja_fill at hf
  refine lv_aload_n hx hb dJA_fill_0 rfl (lv_at hl 0 rfl) ?_
  refine va_alen hx hb hK hP 4 0 rfl rfl (v := (Int32.ofNat (Hs.nbt z))) rfl dJA_fill_1 ?_
  refine lv_iload_n hx hb dJA_fill_2 rfl (lv_at hl 1 rfl) ?_
  refine lv_iload_n hx hb dJA_fill_3 rfl (lv_at hl 2 rfl) ?_
  obtain ⟨o9, ho1, hf⟩ := of_b0 hf
  refine gcRv (gS FX [.int (Int32.ofNat (Hs.nbt z)), .int p1, .int p2] (c_ja_rangeCheck l G cL cZ Q A z _ (Int32.ofNat (Hs.nbt z)) p1 p2 _ ho1) (cwS 3 hts (gi_S wd_21 wd_22 wd_23 wd_24) rfl rfl rfl hdS_JA_rangeCheck ⟨Nat.le_of_ble_eq_true rfl, Nat.le_of_ble_eq_true rfl⟩) hK hP hD rfl hl.1 (Nat.le_of_ble_eq_true rfl) dJA_fill_4 ⟨by show _ ≤ 0; omega, by show _ ≤ 0; omega⟩) hS hD hA (fun H locs hP hS => ?_)
  refine lv_iload_n hx hb dJA_fill_7 rfl (lv_at hl 1 rfl) ?_
  refine lv_istore (lv' := [(5, .int p1), (0, .ref (A 4)), (1, .int p1), (2, .int p2), (3, .long p3)]) hx hb dJA_fill_8 hl (by decide) rfl (fun ls hl => ?_)
  exact L_ja_fill_l10 _ _ _ _ _ _ _ _ _ _ _ _ _ _ _ _ _ C hK FU _ _ _ _ _ _ _ _ _ _ hP hD hS (lv_sub hl [1, 3, 4, 0] rfl) hf (by omega) (by omega)
def At_hp_clearWords_l14 (l : Launch) (G : va_G) (cL cZ : ClassId) (Q : Nat → Nat) (w : va_W) (p : Program) (e : Env) (s : State) (m : MethodId) (args : Array Value) (below : List Frame) (meth : Method) (c : Code) (O0 : Hs × Unit) (mcT msT : Nat) (F : Int32 → Int32 → Int32 → Hs → Option (Hs × Unit)) : Prop := ∀ (A : Nat → Nat) (z : Hs) (x1 : Int32) (x2 : Int32) (x3 : Int32) (H : Heap) (locs : List Loc) (ls : Array Slot) (cells slots : Nat), va_P G vwCl (cw cL cZ Q A z) H → va_D (va_A w s.heap.size) (cw cL cZ Q A z) → va_S (va_A w s.heap.size) s.heap H locs → lv_has ls 4 [(0, .ref (Q 1)), (1, .int x1), (2, .int x2), (3, .int x3)] → F x1 x2 x3 z = some O0 → cells + 0 ≤ mcT → slots + 0 ≤ msT → W p l e { frames := 2, cells := mcT, slots := msT, locals := 47 } s m args below meth c H locs cells slots (MQ below (qWv G vwCl (ct cL cZ) w s.heap.size (cw cL cZ Q) O0) args s mcT msT (va_A w s.heap.size)) (F0 m 14 ls [])
set_option maxHeartbeats 4000000 in
set_option maxRecDepth 100000 in
theorem L_hp_clearWords_l14 (l : Launch) (G : va_G) (cL cZ : ClassId) (Q : Nat → Nat) (w : va_W) (p : Program) (e : Env) (s : State) (m : MethodId) (args : Array Value) (below : List Frame) (meth : Method) (c : Code) (O0 : Hs × Unit) (mcT msT : Nat) (C : MC p s m args meth c cX0_clearWords 4 (none) RX0 vX0_clearWords) (hK : va_K G vwCl (ct cL cZ) s) : ∀ n : Nat, At_hp_clearWords_l14 l G cL cZ Q w p e s m args below meth c O0 mcT msT (hp_clearWords_l14 n) := by
  obtain ⟨hx, hb, hr, hml, hown, hts, hlocks⟩ := id C
  have FX : CallFix p m c cX0_clearWords 4 s args vX0_clearWords RX0 := ⟨hx, hb, hml, hown, hts⟩
  have hA : ∀ q9 : Nat, s.heap.size ≤ q9 → va_A w s.heap.size q9 := fun q9 h => Or.inr h
  intro n
  induction n with
  | zero =>
    intro A z x1 x2 x3 H locs ls cells slots hP hD hS hl hf hcc hss
    exact nomatch (show none = some _ from hf)
  | succ n ih =>
    intro A z x1 x2 x3 H locs ls cells slots hP hD hS hl hf hcc hss
    rw [hp_clearWords_l14] at hf
    refine lv_iload_n hx hb dX0_clearWords_14 rfl (lv_at hl 3 rfl) ?_
    refine lv_iload_n hx hb dX0_clearWords_15 rfl (lv_at hl 1 rfl) ?_
    refine lv_iload_n hx hb dX0_clearWords_16 rfl (lv_at hl 2 rfl) ?_
    refine lv_iadd hx hb dX0_clearWords_17 ?_
    refine lv_icmp_ge (tgt := 34) hx hb dX0_clearWords_18 (by decide) (fun c2 => ?_) (fun c2 => ?_)
    · have hf := (if_pos c2).symm.trans hf
      obtain rfl := Option.some.inj hf
      exact grWv hx hb hr hlocks hP hK hD hS dX0_clearWords_34 (by omega) (by omega)
    · have hf := (if_neg c2).symm.trans hf
      refine lv_aload_n hx hb dX0_clearWords_21 rfl (lv_at hl 0 rfl) ?_
      refine va_get (D := G) (ci := 0) (v := .ref (A 5)) (C := RX0) (T := TX0) (N := 14) hx hb hts (fun w h => .tail _ (wl_X0 w h)) hown hK hP 1 rfl rfl 2 (by decide) (hts _ (.tail _ wd_1)) (fun _ h9 => h9) rfl dX0_clearWords_22 ?_
      refine lv_iload_n hx hb dX0_clearWords_25 rfl (lv_at hl 3 rfl) ?_
      refine lv_iconst (v := 0) hx hb dX0_clearWords_26 (by decide) ?_
      obtain ⟨hg3, hf⟩ := of_gd hf
      refine va_zast (f := (Hs.arf z)) (n := (Hs.nrf z)) hx hb hK hP hD hS 5 1 rfl rfl (inb_in hg3) dX0_clearWords_27 (fun H locs hP hD hS => ?_)
      have hP : va_P G vwCl (cw cL cZ Q A (Hs.wrf z (upd (Hs.arf z) (x3.toNatClampNeg) (vp_nar .boolean 0)))) H := hP
      have hD : va_D _ (cw cL cZ Q A (Hs.wrf z (upd (Hs.arf z) (x3.toNatClampNeg) (vp_nar .boolean 0)))) := hD
      refine lv_iinc (v := (x3 + 1)) (lv' := [(3, .int (x3 + 1)), (0, .ref (Q 1)), (1, .int x1), (2, .int x2)]) hx hb dX0_clearWords_28 hl (k := 3) rfl rfl (by decide) rfl (fun ls hl => ?_)
      refine lv_goto (tgt := 14) hx hb dX0_clearWords_31 (by decide) ?_
      exact ih _ _ _ _ _ _ _ _ _ _ hP hD hS (lv_sub hl [1, 2, 3, 0] rfl) hf (by omega) (by omega)
set_option maxHeartbeats 4000000 in
set_option maxRecDepth 100000 in
theorem c_hp_clearWords (l : Launch) (G : va_G) (cL cZ : ClassId) (Q : Nat → Nat) (A : Nat → Nat) (z : Hs) (sz : Nat) (p0 : Int32) (p1 : Int32) (O0 : Hs × Unit) (hf : hp_clearWords z p0 p1 = some O0) : Met l yX0_clearWords vX0_clearWords { frames := 2, cells := 0, slots := 0, locals := 47 } (gPc G vwCl (ct cL cZ) [.ref (Q 1), .int p0, .int p1] (cw cL cZ Q A z) sz) (qWv G vwCl (ct cL cZ) (cw cL cZ Q A z) sz (cw cL cZ Q) O0) 0 0 (va_A (cw cL cZ Q A z) sz) := by
  refine gMet (by decide) rfl (Nat.le_of_ble_eq_true rfl) ?_
  intro p e s m below meth c ls C hK hP hD hsz hl
  subst hsz
  obtain ⟨hx, hb, hr, hml, hown, hts, hlocks⟩ := id C
  have FX : CallFix p m c cX0_clearWords 4 s _ vX0_clearWords RX0 := ⟨hx, hb, hml, hown, hts⟩
  have hA : ∀ q9 : Nat, s.heap.size ≤ q9 → va_A (cw cL cZ Q A z) s.heap.size q9 := fun q9 h => Or.inr h
  have hS : va_S (va_A (cw cL cZ Q A z) s.heap.size) s.heap s.heap [] := va_S.rf
  have hl : lv_has ls 4 [(0, .ref (Q 1)), (1, .int p0), (2, .int p1)] := hl
  unfold hp_clearWords at hf
  refine lv_aload_n hx hb dX0_clearWords_0 rfl (lv_at hl 0 rfl) ?_
  refine va_get (D := G) (ci := 0) (v := .ref (A 4)) (C := RX0) (T := TX0) (N := 14) hx hb hts (fun w h => .tail _ (wl_X0 w h)) hown hK hP 1 rfl rfl 1 (by decide) (hts _ (.tail _ wd_0)) (fun _ h9 => h9) rfl dX0_clearWords_1 ?_
  refine lv_iload_n hx hb dX0_clearWords_4 rfl (lv_at hl 1 rfl) ?_
  refine lv_iload_n hx hb dX0_clearWords_5 rfl (lv_at hl 1 rfl) ?_
  refine lv_iload_n hx hb dX0_clearWords_6 rfl (lv_at hl 2 rfl) ?_
  refine lv_iadd hx hb dX0_clearWords_7 ?_
  refine lv_lconst (v := 0) hx hb dX0_clearWords_8 (by decide) ?_
  obtain ⟨z1, o9, ho1, hf⟩ := of_bw hf
  refine gcWv (gS FX [.ref (A 4), .int p0, .int (p0 + p1), .long 0] (c_ja_fill l G cL cZ Q A z _ p0 (p0 + p1) 0 _ ho1) (va_cwS 4 hts (gi_SU wd_25 wd_26 wd_27 wd_28) rfl rfl rfl hdU_JA_fill ⟨Nat.le_of_ble_eq_true rfl, Nat.le_of_ble_eq_true rfl⟩) hK hP hD rfl hl.1 (Nat.le_of_ble_eq_true rfl) dX0_clearWords_9 ⟨by show _ ≤ 0; omega, by show _ ≤ 0; omega⟩) hS hD hA (fun A H locs hP hD hS => ?_)
  refine lv_iload_n hx hb dX0_clearWords_12 rfl (lv_at hl 1 rfl) ?_
  refine lv_istore_n (lv' := [(3, .int p0), (0, .ref (Q 1)), (1, .int p0), (2, .int p1)]) hx hb dX0_clearWords_13 rfl hl (by decide) rfl (fun ls hl => ?_)
  exact L_hp_clearWords_l14 _ _ _ _ _ _ _ _ _ _ _ _ _ _ _ _ _ C hK FU _ _ _ _ _ _ _ _ _ _ hP hD hS (lv_sub hl [1, 2, 3, 0] rfl) hf (by omega) (by omega)
set_option maxHeartbeats 4000000 in
set_option maxRecDepth 100000 in
theorem c_hp_first (l : Launch) (G : va_G) (cL cZ : ClassId) (Q : Nat → Nat) (A : Nat → Nat) (z : Hs) (sz : Nat) (p0 : Int32) (O0 : Int32) (hf : hp_first z p0 = some O0) : Met l yX0_first vX0_first { frames := 0, cells := 0, slots := 0, locals := 0 } (gPc G vwCl (ct cL cZ) [.ref (Q 1), .int p0] (cw cL cZ Q A z) sz) (qRi G vwCl (ct cL cZ) (cw cL cZ Q A z) sz O0) 0 0 (va_A (cw cL cZ Q A z) sz) := by
  refine gMet (by decide) rfl (Nat.le_of_ble_eq_true rfl) ?_
  intro p e s m below meth c ls C hK hP hD hsz hl
  subst hsz
  obtain ⟨hx, hb, hr, hml, hown, hts, hlocks⟩ := id C
  have FX : CallFix p m c cX0_first 2 s _ vX0_first RX0 := ⟨hx, hb, hml, hown, hts⟩
  have hA : ∀ q9 : Nat, s.heap.size ≤ q9 → va_A (cw cL cZ Q A z) s.heap.size q9 := fun q9 h => Or.inr h
  have hS : va_S (va_A (cw cL cZ Q A z) s.heap.size) s.heap s.heap [] := va_S.rf
  have hl : lv_has ls 2 [(0, .ref (Q 1)), (1, .int p0)] := hl
  unfold hp_first at hf
  refine lv_aload_n hx hb dX0_first_0 rfl (lv_at hl 0 rfl) ?_
  refine va_get (D := G) (ci := 0) (v := .ref (A 6)) (C := RX0) (T := TX0) (N := 14) hx hb hts (fun w h => .tail _ (wl_X0 w h)) hown hK hP 1 rfl rfl 3 (by decide) (hts _ (.tail _ wd_3)) (fun _ h9 => h9) rfl dX0_first_1 ?_
  refine lv_iload_n hx hb dX0_first_4 rfl (lv_at hl 1 rfl) ?_
  obtain ⟨hg1, hf⟩ := of_gd hf
  refine va_lald (f := (Hs.ast z)) (n := (Hs.nst z)) hx hb hK hP 6 0 rfl rfl (inb_in hg1) dX0_first_5 ?_
  refine lv_l2i hx hb dX0_first_6 rfl ?_
  refine lv_iconst (v := 1) hx hb dX0_first_7 (by decide) ?_
  refine lv_iadd hx hb dX0_first_8 ?_
  obtain rfl := Option.some.inj hf
  exact grRi hx hb hr hlocks hP hK hD hS dX0_first_9 (by omega) (by omega)
set_option maxHeartbeats 4000000 in
set_option maxRecDepth 100000 in
theorem c_hp_lengthIn (l : Launch) (G : va_G) (cL cZ : ClassId) (Q : Nat → Nat) (A : Nat → Nat) (z : Hs) (sz : Nat) (p0 : Int64) (O0 : Int32) (hf : hp_lengthIn z p0 = some O0) : Met l yX0_lengthIn vX0_lengthIn { frames := 0, cells := 0, slots := 0, locals := 0 } (gPc G vwCl (ct cL cZ) [.long p0] (cw cL cZ Q A z) sz) (qRi G vwCl (ct cL cZ) (cw cL cZ Q A z) sz O0) 0 0 (va_A (cw cL cZ Q A z) sz) := by
  refine gMet (by decide) rfl (Nat.le_of_ble_eq_true rfl) ?_
  intro p e s m below meth c ls C hK hP hD hsz hl
  subst hsz
  obtain ⟨hx, hb, hr, hml, hown, hts, hlocks⟩ := id C
  have FX : CallFix p m c cX0_lengthIn 2 s _ vX0_lengthIn RX0 := ⟨hx, hb, hml, hown, hts⟩
  have hA : ∀ q9 : Nat, s.heap.size ≤ q9 → va_A (cw cL cZ Q A z) s.heap.size q9 := fun q9 h => Or.inr h
  have hS : va_S (va_A (cw cL cZ Q A z) s.heap.size) s.heap s.heap [] := va_S.rf
  have hl : lv_has ls 2 [(0, .long p0)] := hl
  unfold hp_lengthIn at hf
  refine lv_lload_n hx hb dX0_lengthIn_0 rfl (lv_at hl 0 rfl) ?_
  refine lv_bipush (v := 22) hx hb dX0_lengthIn_1 (by decide) ?_
  refine lv_lushr hx hb dX0_lengthIn_3 rfl ?_
  refine lv_ldc2 (v := 262143) hx hb hown (hts _ (.tail _ wd_29)) dX0_lengthIn_4 ?_
  refine lv_land hx hb dX0_lengthIn_7 ?_
  refine lv_l2i hx hb dX0_lengthIn_8 rfl ?_
  obtain rfl := Option.some.inj hf
  exact grRi hx hb hr hlocks hP hK hD hS dX0_lengthIn_9 (by omega) (by omega)
set_option maxHeartbeats 4000000 in
set_option maxRecDepth 100000 in
theorem c_hp_length (l : Launch) (G : va_G) (cL cZ : ClassId) (Q : Nat → Nat) (A : Nat → Nat) (z : Hs) (sz : Nat) (p0 : Int32) (O0 : Int32) (hf : hp_length z p0 = some O0) : Met l yX0_length vX0_length { frames := 1, cells := 0, slots := 0, locals := 21 } (gPc G vwCl (ct cL cZ) [.ref (Q 1), .int p0] (cw cL cZ Q A z) sz) (qRi G vwCl (ct cL cZ) (cw cL cZ Q A z) sz O0) 0 0 (va_A (cw cL cZ Q A z) sz) := by
  refine gMet (by decide) rfl (Nat.le_of_ble_eq_true rfl) ?_
  intro p e s m below meth c ls C hK hP hD hsz hl
  subst hsz
  obtain ⟨hx, hb, hr, hml, hown, hts, hlocks⟩ := id C
  have FX : CallFix p m c cX0_length 2 s _ vX0_length RX0 := ⟨hx, hb, hml, hown, hts⟩
  have hA : ∀ q9 : Nat, s.heap.size ≤ q9 → va_A (cw cL cZ Q A z) s.heap.size q9 := fun q9 h => Or.inr h
  have hS : va_S (va_A (cw cL cZ Q A z) s.heap.size) s.heap s.heap [] := va_S.rf
  have hl : lv_has ls 2 [(0, .ref (Q 1)), (1, .int p0)] := hl
  unfold hp_length at hf
  refine lv_aload_n hx hb dX0_length_0 rfl (lv_at hl 0 rfl) ?_
  refine lv_iload_n hx hb dX0_length_1 rfl (lv_at hl 1 rfl) ?_
  obtain ⟨r1, ho1, hf⟩ := of_b0 hf
  refine gcRl (gV FX [.int p0] (c_hp_header l G cL cZ Q A z _ p0 _ ho1) (cwV 1 hts (gi_V wd_9 wd_10 wd_11 wd_7 wd_12) rfl rfl rfl hdV_X0_header ⟨Nat.le_of_ble_eq_true rfl, Nat.le_of_ble_eq_true rfl⟩) hK hP hD 1 rfl rfl rfl hl.1 (Nat.le_of_ble_eq_true rfl) dX0_length_2 ⟨by show _ ≤ 0; omega, by show _ ≤ 0; omega⟩) hS hD hA (fun H locs hP hS => ?_)
  obtain ⟨r2, ho2, hf⟩ := of_b0 hf
  refine gcRi (gS FX [.long r1] (c_hp_lengthIn l G cL cZ Q A z _ r1 _ ho2) (cwS 1 hts (gi_S wd_30 wd_31 wd_7 wd_32) rfl rfl rfl hdS_X0_lengthIn ⟨Nat.le_of_ble_eq_true rfl, Nat.le_of_ble_eq_true rfl⟩) hK hP hD rfl hl.1 (Nat.le_of_ble_eq_true rfl) dX0_length_5 ⟨by show _ ≤ 0; omega, by show _ ≤ 0; omega⟩) hS hD hA (fun H locs hP hS => ?_)
  obtain rfl := Option.some.inj hf
  exact grRi hx hb hr hlocks hP hK hD hS dX0_length_8 (by omega) (by omega)
set_option maxHeartbeats 4000000 in
set_option maxRecDepth 100000 in
theorem c_hp_serial (l : Launch) (G : va_G) (cL cZ : ClassId) (Q : Nat → Nat) (A : Nat → Nat) (z : Hs) (sz : Nat) (p0 : Int32) (O0 : Int32) (hf : hp_serial z p0 = some O0) : Met l yX0_serial vX0_serial { frames := 1, cells := 0, slots := 0, locals := 21 } (gPc G vwCl (ct cL cZ) [.ref (Q 1), .int p0] (cw cL cZ Q A z) sz) (qRi G vwCl (ct cL cZ) (cw cL cZ Q A z) sz O0) 0 0 (va_A (cw cL cZ Q A z) sz) := by
  refine gMet (by decide) rfl (Nat.le_of_ble_eq_true rfl) ?_
  intro p e s m below meth c ls C hK hP hD hsz hl
  subst hsz
  obtain ⟨hx, hb, hr, hml, hown, hts, hlocks⟩ := id C
  have FX : CallFix p m c cX0_serial 2 s _ vX0_serial RX0 := ⟨hx, hb, hml, hown, hts⟩
  have hA : ∀ q9 : Nat, s.heap.size ≤ q9 → va_A (cw cL cZ Q A z) s.heap.size q9 := fun q9 h => Or.inr h
  have hS : va_S (va_A (cw cL cZ Q A z) s.heap.size) s.heap s.heap [] := va_S.rf
  have hl : lv_has ls 2 [(0, .ref (Q 1)), (1, .int p0)] := hl
  unfold hp_serial at hf
  refine lv_aload_n hx hb dX0_serial_0 rfl (lv_at hl 0 rfl) ?_
  refine lv_iload_n hx hb dX0_serial_1 rfl (lv_at hl 1 rfl) ?_
  obtain ⟨r1, ho1, hf⟩ := of_b0 hf
  refine gcRl (gV FX [.int p0] (c_hp_header l G cL cZ Q A z _ p0 _ ho1) (cwV 1 hts (gi_V wd_9 wd_10 wd_11 wd_7 wd_12) rfl rfl rfl hdV_X0_header ⟨Nat.le_of_ble_eq_true rfl, Nat.le_of_ble_eq_true rfl⟩) hK hP hD 1 rfl rfl rfl hl.1 (Nat.le_of_ble_eq_true rfl) dX0_serial_2 ⟨by show _ ≤ 0; omega, by show _ ≤ 0; omega⟩) hS hD hA (fun H locs hP hS => ?_)
  refine lv_bipush (v := 40) hx hb dX0_serial_5 (by decide) ?_
  refine lv_lushr hx hb dX0_serial_7 rfl ?_
  refine lv_l2i hx hb dX0_serial_8 rfl ?_
  obtain rfl := Option.some.inj hf
  exact grRi hx hb hr hlocks hP hK hD hS dX0_serial_9 (by omega) (by omega)
set_option maxHeartbeats 4000000 in
set_option maxRecDepth 100000 in
theorem c_hp_isFrozen (l : Launch) (G : va_G) (cL cZ : ClassId) (Q : Nat → Nat) (A : Nat → Nat) (z : Hs) (sz : Nat) (p0 : Int32) (O0 : Int32) (hf : hp_isFrozen z p0 = some O0) : Met l yX0_isFrozen vX0_isFrozen { frames := 1, cells := 0, slots := 0, locals := 21 } (gPc G vwCl (ct cL cZ) [.ref (Q 1), .int p0] (cw cL cZ Q A z) sz) (qRi G vwCl (ct cL cZ) (cw cL cZ Q A z) sz O0) 0 0 (va_A (cw cL cZ Q A z) sz) := by
  refine gMet (by decide) rfl (Nat.le_of_ble_eq_true rfl) ?_
  intro p e s m below meth c ls C hK hP hD hsz hl
  subst hsz
  obtain ⟨hx, hb, hr, hml, hown, hts, hlocks⟩ := id C
  have FX : CallFix p m c cX0_isFrozen 2 s _ vX0_isFrozen RX0 := ⟨hx, hb, hml, hown, hts⟩
  have hA : ∀ q9 : Nat, s.heap.size ≤ q9 → va_A (cw cL cZ Q A z) s.heap.size q9 := fun q9 h => Or.inr h
  have hS : va_S (va_A (cw cL cZ Q A z) s.heap.size) s.heap s.heap [] := va_S.rf
  have hl : lv_has ls 2 [(0, .ref (Q 1)), (1, .int p0)] := hl
  unfold hp_isFrozen at hf
  refine lv_aload_n hx hb dX0_isFrozen_0 rfl (lv_at hl 0 rfl) ?_
  refine lv_iload_n hx hb dX0_isFrozen_1 rfl (lv_at hl 1 rfl) ?_
  obtain ⟨r1, ho1, hf⟩ := of_b0 hf
  refine gcRl (gV FX [.int p0] (c_hp_header l G cL cZ Q A z _ p0 _ ho1) (cwV 1 hts (gi_V wd_9 wd_10 wd_11 wd_7 wd_12) rfl rfl rfl hdV_X0_header ⟨Nat.le_of_ble_eq_true rfl, Nat.le_of_ble_eq_true rfl⟩) hK hP hD 1 rfl rfl rfl hl.1 (Nat.le_of_ble_eq_true rfl) dX0_isFrozen_2 ⟨by show _ ≤ 0; omega, by show _ ≤ 0; omega⟩) hS hD hA (fun H locs hP hS => ?_)
  refine lv_bipush (v := 21) hx hb dX0_isFrozen_5 (by decide) ?_
  refine lv_lushr hx hb dX0_isFrozen_7 rfl ?_
  refine lv_lconst (v := 1) hx hb dX0_isFrozen_8 (by decide) ?_
  refine lv_land hx hb dX0_isFrozen_9 ?_
  refine lv_lconst (v := 0) hx hb dX0_isFrozen_10 (by decide) ?_
  refine W.lcmp hx hb dX0_isFrozen_11 ?_
  refine lv_if_eq (tgt := 19) hx hb dX0_isFrozen_12 (by decide) (fun c2 => ?_) (fun c2 => ?_)
  · have hf := (if_pos c2).symm.trans hf
    refine lv_iconst (v := 0) hx hb dX0_isFrozen_19 (by decide) ?_
    obtain rfl := Option.some.inj hf
    exact grRz (by decide) hx hb hr hlocks hP hK hD hS dX0_isFrozen_20 (by omega) (by omega)
  · have hf := (if_neg c2).symm.trans hf
    refine lv_iconst (v := 1) hx hb dX0_isFrozen_15 (by decide) ?_
    refine lv_goto (tgt := 20) hx hb dX0_isFrozen_16 (by decide) ?_
    obtain rfl := Option.some.inj hf
    exact grRz (by decide) hx hb hr hlocks hP hK hD hS dX0_isFrozen_20 (by omega) (by omega)
