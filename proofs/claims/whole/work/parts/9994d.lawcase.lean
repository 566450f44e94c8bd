set_option maxHeartbeats 4000000 in
set_option maxRecDepth 100000 in
theorem law_c21 {p : Program} {l : Launch} {e : Env} {s : State} {m : MethodId} {below : List Frame} {meth : Method} {c : Code} {b L : Nat} {xs : Nat → Int32} {G : va_G} {cI cL cZ cB : ClassId} (X : LX p l s m meth c b L xs G cI cL cZ cB) {Qf : Nat → Nat} {q bo lm t i : Nat} {iv : Int32} (hi : i + 5 ≤ L) (hiv : iv = Int32.ofNat i) (ht : t < 512) {H : Heap} {locs : List Loc} {ls : Array Slot} {A1 A2 : Nat → Nat} {z : Lo} {mm : Ms} {cells slots : Nat} (hI : LI s G cI cL cZ cB Qf q bo H locs A1 A2 z mm) (hl : lv_has ls 8 (lvL b Qf q bo iv)) (hB : LB lm t cells slots z mm)
    (kk : LK p l e s m below meth c b G cI cL cZ cB Qf q bo iv lm t) : W p l e room_1 s m #[Value.ref b] below meth c H locs cells slots (lw_Z below #[Value.ref b] s) (F0 m 1513 ls []) := by
  obtain ⟨hx, hb, hr, hml, hown, hts, hX, hbl, hlocks, hl0, hK, hT, hN, hL⟩ := X
  obtain ⟨hP, hD, hS⟩ := hI
  obtain ⟨S, hc1, hs1⟩ := hB
  have FX : CallFix p m c code 8 s _ lwT RL := ⟨hx, hb, hml, hown, hts⟩
  have hA : ∀ q9 : Nat, s.heap.size ≤ q9 → lwA s q9 := fun _ h => h
  have hbA : ¬ lwA s b := Nat.not_le.mpr hbl
  have hKc : va_K G vwCl (ct cL cZ) s := hK.sub (tys' := ct cL cZ) [1, 2] rfl
  have h1 : vp_in (iv + 1) L := lw_in (k := 1) hi hL hiv (by omega) rfl
  have h2 : vp_in (iv + 2) L := lw_in (k := 2) hi hL hiv (by omega) rfl
  have h3 : vp_in (iv + 3) L := lw_in (k := 3) hi hL hiv (by omega) rfl
  have h4 : vp_in (iv + 4) L := lw_in (k := 4) hi hL hiv (by omega) rfl
  have hl : lv_has ls 8 [(0, .ref b), (1, .ref (Qf 0)), (2, .ref q), (3, .ref bo), (4, .int iv)] := hl
  rcases Decidable.em (xs (iv + 1).toNatClampNeg = 0) with hs0 | hs0
  · obtain ⟨z2, m2, e1, e2, S2, e5⟩ := J_eager 0 (by decide) S
    have S2 : St (Lo.h (Lo.sh z z2)) m2 lm t := S2
    have pm := PotM S2
    have e5 : Pot lm (Lo.h (Lo.sh z z2)) m2 = Pot lm (Lo.h z) mm := e5
    refine lv_aload_n hx hb dL_law_1513 rfl (lv_at hl 1 rfl) ?_
    refine lv_aload_n hx hb dL_law_1514 rfl (lv_at hl 0 rfl) ?_
    refine lv_iload hx hb dL_law_1515 (lv_at hl 4 rfl) ?_
    refine lv_iconst (v := 1) hx hb dL_law_1517 (by decide) ?_
    refine lv_iadd hx hb dL_law_1518 ?_
    refine va_sld hx hb hX hbl hbA hS h1 dL_law_1519 ?_
    refine lv_if_eq (tgt := 1527) hx hb dL_law_1520 (by decide) (fun _ => ?_) (fun h9 => absurd hs0 h9)
    refine lv_iconst (v := 0) hx hb dL_law_1527 (by decide) ?_
    have hP : va_P G vwCl (cw cL cZ Qf A1 (Lo.h z) ++ ([(bo, .inl (cL, 1, .inr (.inl (Lo.aot z))))] ++ mw cI cL cZ cB q A2 mm)) H := by rw [← List.append_assoc]; exact hP
    have hD : va_D (lwA s) (cw cL cZ Qf A1 (Lo.h z) ++ ([(bo, .inl (cL, 1, .inr (.inl (Lo.aot z))))] ++ mw cI cL cZ cB q A2 mm)) := by rw [← List.append_assoc]; exact hD
    refine gfWv (gV FX [.int 0] (c_wh_eager l G cL cZ Qf A1 (Lo.h z) _ 0 (z2, ()) e1) (cwV 1 hts (gi_V wq_175 wq_176 wq_177 wq_169 wq_178) rfl rfl rfl hdV_X3_eager ⟨(Nat.le_of_ble_eq_true rfl), (Nat.le_of_ble_eq_true rfl)⟩) hKc (gPl hP) (gDl hD) 0 rfl rfl rfl hl.1 (Nat.le_of_ble_eq_true rfl) dL_law_1528 ⟨by show _ ≤ 601024; omega, by show _ ≤ 7293000; omega⟩) hP hS hD hA (fun A1 H locs hP hD hS => ?_)
    have hP : va_P G vwCl (lwd cL cZ Qf bo A1 (Lo.sh z z2) ++ mw cI cL cZ cB q A2 mm) H := by rw [← List.append_assoc] at hP; exact hP
    have hD : va_D (lwA s) (lwd cL cZ Qf bo A1 (Lo.sh z z2) ++ mw cI cL cZ cB q A2 mm) := by rw [← List.append_assoc] at hD; exact hD
    have hP := gsP hP
    have hD := gsD hD
    refine lv_aload_n hx hb dL_law_1531 rfl (lv_at hl 2 rfl) ?_
    refine lv_aload_n hx hb dL_law_1532 rfl (lv_at hl 0 rfl) ?_
    refine lv_iload hx hb dL_law_1533 (lv_at hl 4 rfl) ?_
    refine lv_iconst (v := 1) hx hb dL_law_1535 (by decide) ?_
    refine lv_iadd hx hb dL_law_1536 ?_
    refine va_sld hx hb hX hbl hbA hS h1 dL_law_1537 ?_
    refine lv_if_eq (tgt := 1545) hx hb dL_law_1538 (by decide) (fun _ => ?_) (fun h9 => absurd hs0 h9)
    refine lv_iconst (v := 0) hx hb dL_law_1545 (by decide) ?_
    refine gfWv (gV FX [.int 0] (c_md_eager l G cI cL cZ cB q A2 mm _ 0 (m2, ()) e2) (cwV 1 hts (gi_V wq_179 wq_180 wq_181 wq_8 wq_182) rfl rfl rfl hdV_X4_eager ⟨(Nat.le_of_ble_eq_true rfl), (Nat.le_of_ble_eq_true rfl)⟩) hK (gPl hP) (gDl hD) 0 rfl rfl rfl hl.1 (Nat.le_of_ble_eq_true rfl) dL_law_1546 ⟨by show _ ≤ 601024; omega, by show _ ≤ 7293000; omega⟩) hP hS hD hA (fun A2 H locs hP hD hS => ?_)
    refine lv_goto (tgt := 1806) hx hb dL_law_1549 (by decide) ?_
    exact kk _ _ _ _ _ _ _ _ _ ⟨gsP hP, gsD hD, hS⟩ (lv_sub hl [0, 1, 2, 3, 4] rfl) ⟨S2.mono (by omega), by omega, by omega⟩
  · obtain ⟨z2, m2, e1, e2, S2, e5⟩ := J_eager 1 (by decide) S
    have S2 : St (Lo.h (Lo.sh z z2)) m2 lm t := S2
    have pm := PotM S2
    have e5 : Pot lm (Lo.h (Lo.sh z z2)) m2 = Pot lm (Lo.h z) mm := e5
    refine lv_aload_n hx hb dL_law_1513 rfl (lv_at hl 1 rfl) ?_
    refine lv_aload_n hx hb dL_law_1514 rfl (lv_at hl 0 rfl) ?_
    refine lv_iload hx hb dL_law_1515 (lv_at hl 4 rfl) ?_
    refine lv_iconst (v := 1) hx hb dL_law_1517 (by decide) ?_
    refine lv_iadd hx hb dL_law_1518 ?_
    refine va_sld hx hb hX hbl hbA hS h1 dL_law_1519 ?_
    refine lv_if_eq (tgt := 1527) hx hb dL_law_1520 (by decide) (fun h9 => absurd h9 hs0) (fun _ => ?_)
    refine lv_iconst (v := 1) hx hb dL_law_1523 (by decide) ?_
    refine lv_goto (tgt := 1528) hx hb dL_law_1524 (by decide) ?_
    have hP : va_P G vwCl (cw cL cZ Qf A1 (Lo.h z) ++ ([(bo, .inl (cL, 1, .inr (.inl (Lo.aot z))))] ++ mw cI cL cZ cB q A2 mm)) H := by rw [← List.append_assoc]; exact hP
    have hD : va_D (lwA s) (cw cL cZ Qf A1 (Lo.h z) ++ ([(bo, .inl (cL, 1, .inr (.inl (Lo.aot z))))] ++ mw cI cL cZ cB q A2 mm)) := by rw [← List.append_assoc]; exact hD
    refine gfWv (gV FX [.int 1] (c_wh_eager l G cL cZ Qf A1 (Lo.h z) _ 1 (z2, ()) e1) (cwV 1 hts (gi_V wq_175 wq_176 wq_177 wq_169 wq_178) rfl rfl rfl hdV_X3_eager ⟨(Nat.le_of_ble_eq_true rfl), (Nat.le_of_ble_eq_true rfl)⟩) hKc (gPl hP) (gDl hD) 0 rfl rfl rfl hl.1 (Nat.le_of_ble_eq_true rfl) dL_law_1528 ⟨by show _ ≤ 601024; omega, by show _ ≤ 7293000; omega⟩) hP hS hD hA (fun A1 H locs hP hD hS => ?_)
    have hP : va_P G vwCl (lwd cL cZ Qf bo A1 (Lo.sh z z2) ++ mw cI cL cZ cB q A2 mm) H := by rw [← List.append_assoc] at hP; exact hP
    have hD : va_D (lwA s) (lwd cL cZ Qf bo A1 (Lo.sh z z2) ++ mw cI cL cZ cB q A2 mm) := by rw [← List.append_assoc] at hD; exact hD
    have hP := gsP hP
    have hD := gsD hD
    refine lv_aload_n hx hb dL_law_1531 rfl (lv_at hl 2 rfl) ?_
    refine lv_aload_n hx hb dL_law_1532 rfl (lv_at hl 0 rfl) ?_
    refine lv_iload hx hb dL_law_1533 (lv_at hl 4 rfl) ?_
    refine lv_iconst (v := 1) hx hb dL_law_1535 (by decide) ?_
    refine lv_iadd hx hb dL_law_1536 ?_
    refine va_sld hx hb hX hbl hbA hS h1 dL_law_1537 ?_
    refine lv_if_eq (tgt := 1545) hx hb dL_law_1538 (by decide) (fun h9 => absurd h9 hs0) (fun _ => ?_)
    refine lv_iconst (v := 1) hx hb dL_law_1541 (by decide) ?_
    refine lv_goto (tgt := 1546) hx hb dL_law_1542 (by decide) ?_
    refine gfWv (gV FX [.int 1] (c_md_eager l G cI cL cZ cB q A2 mm _ 1 (m2, ()) e2) (cwV 1 hts (gi_V wq_179 wq_180 wq_181 wq_8 wq_182) rfl rfl rfl hdV_X4_eager ⟨(Nat.le_of_ble_eq_true rfl), (Nat.le_of_ble_eq_true rfl)⟩) hK (gPl hP) (gDl hD) 0 rfl rfl rfl hl.1 (Nat.le_of_ble_eq_true rfl) dL_law_1546 ⟨by show _ ≤ 601024; omega, by show _ ≤ 7293000; omega⟩) hP hS hD hA (fun A2 H locs hP hD hS => ?_)
    refine lv_goto (tgt := 1806) hx hb dL_law_1549 (by decide) ?_
    exact kk _ _ _ _ _ _ _ _ _ ⟨gsP hP, gsD hD, hS⟩ (lv_sub hl [0, 1, 2, 3, 4] rfl) ⟨S2.mono (by omega), by omega, by omega⟩
set_option maxHeartbeats 4000000 in
set_option maxRecDepth 100000 in
theorem law_c22 {p : Program} {l : Launch} {e : Env} {s : State} {m : MethodId} {below : List Frame} {meth : Method} {c : Code} {b L : Nat} {xs : Nat → Int32} {G : va_G} {cI cL cZ cB : ClassId} (X : LX p l s m meth c b L xs G cI cL cZ cB) {Qf : Nat → Nat} {q bo lm t i : Nat} {iv : Int32} (hi : i + 5 ≤ L) (hiv : iv = Int32.ofNat i) (ht : t < 512) {H : Heap} {locs : List Loc} {ls : Array Slot} {A1 A2 : Nat → Nat} {z : Lo} {mm : Ms} {cells slots : Nat} (hI : LI s G cI cL cZ cB Qf q bo H locs A1 A2 z mm) (hl : lv_has ls 8 (lvL b Qf q bo iv)) (hB : LB lm t cells slots z mm)
    (kk : LK p l e s m below meth c b G cI cL cZ cB Qf q bo iv lm t) : W p l e room_1 s m #[Value.ref b] below meth c H locs cells slots (lw_Z below #[Value.ref b] s) (F0 m 1552 ls []) := by
  obtain ⟨hx, hb, hr, hml, hown, hts, hX, hbl, hlocks, hl0, hK, hT, hN, hL⟩ := X
  obtain ⟨hP, hD, hS⟩ := hI
  obtain ⟨S, hc1, hs1⟩ := hB
  have FX : CallFix p m c code 8 s _ lwT RL := ⟨hx, hb, hml, hown, hts⟩
  have hA : ∀ q9 : Nat, s.heap.size ≤ q9 → lwA s q9 := fun _ h => h
  have hbA : ¬ lwA s b := Nat.not_le.mpr hbl
  have hKc : va_K G vwCl (ct cL cZ) s := hK.sub (tys' := ct cL cZ) [1, 2] rfl
  have h1 : vp_in (iv + 1) L := lw_in (k := 1) hi hL hiv (by omega) rfl
  have h2 : vp_in (iv + 2) L := lw_in (k := 2) hi hL hiv (by omega) rfl
  have h3 : vp_in (iv + 3) L := lw_in (k := 3) hi hL hiv (by omega) rfl
  have h4 : vp_in (iv + 4) L := lw_in (k := 4) hi hL hiv (by omega) rfl
  have hl : lv_has ls 8 [(0, .ref b), (1, .ref (Qf 0)), (2, .ref q), (3, .ref bo), (4, .int iv)] := hl
  obtain ⟨z2, m2, k, bb, e1, e2, e3, e4, S2, e5⟩ := J_tell (xs (iv + 1).toNatClampNeg) (xs (iv + 2).toNatClampNeg) S
  have pm := PotM S2
  refine lv_aload_n hx hb dL_law_1552 rfl (lv_at hl 1 rfl) ?_
  refine lv_aload_n hx hb dL_law_1553 rfl (lv_at hl 0 rfl) ?_
  refine lv_iload hx hb dL_law_1554 (lv_at hl 4 rfl) ?_
  refine lv_iconst (v := 1) hx hb dL_law_1556 (by decide) ?_
  refine lv_iadd hx hb dL_law_1557 ?_
  refine va_sld hx hb hX hbl hbA hS h1 dL_law_1558 ?_
  refine lv_aload_n hx hb dL_law_1559 rfl (lv_at hl 0 rfl) ?_
  refine lv_iload hx hb dL_law_1560 (lv_at hl 4 rfl) ?_
  refine lv_iconst (v := 2) hx hb dL_law_1562 (by decide) ?_
  refine lv_iadd hx hb dL_law_1563 ?_
  refine va_sld hx hb hX hbl hbA hS h2 dL_law_1564 ?_
  refine lv_aload_n hx hb dL_law_1565 rfl (lv_at hl 3 rfl) ?_
  refine gfWi (gSn FX [.ref (Qf 0), .int (xs (iv + 1).toNatClampNeg), .int (xs (iv + 2).toNatClampNeg), .ref bo] (c_la_tell l hl0 G cL cZ Qf bo A1 z _ (xs (iv + 1).toNatClampNeg) (xs (iv + 2).toNatClampNeg) (z2, k) e1) (vx_cwSW 4 hts (gi_SU wq_183 wq_184 wq_185 wq_186) rfl rfl rfl hdU_L_tell ⟨(Nat.le_of_ble_eq_true rfl), (Nat.le_of_ble_eq_true rfl)⟩) hKc (gPl hP) (gDl hD) hT hN hS hA rfl hl.1 (Nat.le_of_ble_eq_true rfl) dL_law_1566 ⟨by show _ ≤ 601024; omega, by show _ ≤ 7293000; omega⟩) hP hS hD hA (fun A1 H locs hP hD hS => ?_)
  refine lv_istore (lv' := [(5, .int k), (0, .ref b), (1, .ref (Qf 0)), (2, .ref q), (3, .ref bo), (4, .int iv)]) hx hb dL_law_1569 hl (by decide) rfl (fun ls hl => ?_)
  refine lv_aload_n hx hb dL_law_1571 rfl (lv_at hl 3 rfl) ?_
  refine lv_aload_n hx hb dL_law_1572 rfl (lv_at hl 1 rfl) ?_
  refine lv_iload hx hb dL_law_1573 (lv_at hl 5 rfl) ?_
  refine lv_iconst (v := 1) hx hb dL_law_1575 (by decide) ?_
  refine lv_iadd hx hb dL_law_1576 ?_
  refine va_sld hx hb hX hbl hbA hS h1 dL_law_1577 ?_
  refine lv_aload_n hx hb dL_law_1578 rfl (lv_at hl 1 rfl) ?_
  refine lv_iload hx hb dL_law_1579 (lv_at hl 5 rfl) ?_
  refine lv_iconst (v := 2) hx hb dL_law_1581 (by decide) ?_
  refine lv_iadd hx hb dL_law_1582 ?_
  refine va_sld hx hb hX hbl hbA hS h2 dL_law_1583 ?_
  have hP := gsP hP
  have hD := gsD hD
  refine gfWi (gV FX [.int (xs (iv + 1).toNatClampNeg), .int (xs (iv + 2).toNatClampNeg)] (c_md_tell l G cI cL cZ cB q A2 mm _ (xs (iv + 1).toNatClampNeg) (xs (iv + 2).toNatClampNeg) (m2, bb) e2) (cwV 2 hts (gi_V wq_187 wq_188 wq_189 wq_8 wq_190) rfl rfl rfl hdV_X4_tell ⟨(Nat.le_of_ble_eq_true rfl), (Nat.le_of_ble_eq_true rfl)⟩) hK (gPl hP) (gDl hD) 0 rfl rfl rfl hl.1 (Nat.le_of_ble_eq_true rfl) dL_law_1584 ⟨by show _ ≤ 601024; omega, by show _ ≤ 7293000; omega⟩) hP hS hD hA (fun A2 H locs hP hD hS => ?_)
  refine lv_istore (lv' := [(6, .int bb), (5, .int k), (0, .ref b), (1, .ref (Qf 0)), (2, .ref q), (3, .ref bo), (4, .int iv)]) hx hb dL_law_1587 hl (by decide) rfl (fun ls hl => ?_)
  refine lv_aload_n hx hb dL_law_1589 rfl (lv_at hl 4 rfl) ?_
  refine gfRi (gV FX [] (c_md_thrown l G cI cL cZ cB q A2 m2 _ (Ms.thr m2) rfl) (cwV 0 hts (gi_V wq_10 wq_11 wq_12 wq_8 wq_13) rfl rfl rfl hdV_X4_thrown ⟨(Nat.le_of_ble_eq_true rfl), (Nat.le_of_ble_eq_true rfl)⟩) hK (gPl hP) (gDl hD) 0 rfl rfl rfl hl.1 (Nat.le_of_ble_eq_true rfl) dL_law_1590 ⟨by show _ ≤ 601024; omega, by show _ ≤ 7293000; omega⟩) hP hS hD hA (fun H locs hP hS => ?_)
  refine lv_iload hx hb dL_law_1593 (lv_at hl 1 rfl) ?_
  refine lv_icmp_eq (tgt := 1600) hx hb dL_law_1595 (by decide) (fun _ => ?_) (fun h9 => absurd e3 h9)
  refine lv_iload hx hb dL_law_1600 (lv_at hl 1 rfl) ?_
  refine lv_if_ne (tgt := 1617) hx hb dL_law_1602 (by decide) (fun _ => ?_) (fun hk0 => ?_)
  · refine lv_goto (tgt := 1806) hx hb dL_law_1617 (by decide) ?_
    exact kk _ _ _ _ _ _ _ _ _ ⟨gsP hP, gsD hD, hS⟩ (lv_sub hl [2, 3, 4, 5, 6] rfl) ⟨S2.mono (by omega), by omega, by omega⟩
  · refine lv_aload_n hx hb dL_law_1605 rfl (lv_at hl 5 rfl) ?_
    refine lv_iconst (v := 0) hx hb dL_law_1606 (by decide) ?_
    refine va_lald hx hb hK hP 31 1 rfl rfl (inb_in inb01) dL_law_1607 ?_
    refine lv_iload hx hb dL_law_1608 (lv_at hl 0 rfl) ?_
    refine lv_i2l hx hb dL_law_1610 rfl ?_
    refine W.lcmp hx hb dL_law_1611 ?_
    refine lv_if_eq (tgt := 1617) hx hb dL_law_1612 (by decide) (fun _ => ?_) (fun h9 => absurd (lgc0 (e4 hk0)) h9)
    refine lv_goto (tgt := 1806) hx hb dL_law_1617 (by decide) ?_
    exact kk _ _ _ _ _ _ _ _ _ ⟨gsP hP, gsD hD, hS⟩ (lv_sub hl [2, 3, 4, 5, 6] rfl) ⟨S2.mono (by omega), by omega, by omega⟩
set_option maxHeartbeats 4000000 in
set_option maxRecDepth 100000 in
theorem law_c23 {p : Program} {l : Launch} {e : Env} {s : State} {m : MethodId} {below : List Frame} {meth : Method} {c : Code} {b L : Nat} {xs : Nat → Int32} {G : va_G} {cI cL cZ cB : ClassId} (X : LX p l s m meth c b L xs G cI cL cZ cB) {Qf : Nat → Nat} {q bo lm t i : Nat} {iv : Int32} (hi : i + 5 ≤ L) (hiv : iv = Int32.ofNat i) (ht : t < 512) {H : Heap} {locs : List Loc} {ls : Array Slot} {A1 A2 : Nat → Nat} {z : Lo} {mm : Ms} {cells slots : Nat} (hI : LI s G cI cL cZ cB Qf q bo H locs A1 A2 z mm) (hl : lv_has ls 8 (lvL b Qf q bo iv)) (hB : LB lm t cells slots z mm)
    (kk : LK p l e s m below meth c b G cI cL cZ cB Qf q bo iv lm t) : W p l e room_1 s m #[Value.ref b] below meth c H locs cells slots (lw_Z below #[Value.ref b] s) (F0 m 1620 ls []) := by
  obtain ⟨hx, hb, hr, hml, hown, hts, hX, hbl, hlocks, hl0, hK, hT, hN, hL⟩ := X
  obtain ⟨hP, hD, hS⟩ := hI
  obtain ⟨S, hc1, hs1⟩ := hB
  have FX : CallFix p m c code 8 s _ lwT RL := ⟨hx, hb, hml, hown, hts⟩
  have hA : ∀ q9 : Nat, s.heap.size ≤ q9 → lwA s q9 := fun _ h => h
  have hbA : ¬ lwA s b := Nat.not_le.mpr hbl
  have hKc : va_K G vwCl (ct cL cZ) s := hK.sub (tys' := ct cL cZ) [1, 2] rfl
  have h1 : vp_in (iv + 1) L := lw_in (k := 1) hi hL hiv (by omega) rfl
  have h2 : vp_in (iv + 2) L := lw_in (k := 2) hi hL hiv (by omega) rfl
  have h3 : vp_in (iv + 3) L := lw_in (k := 3) hi hL hiv (by omega) rfl
  have h4 : vp_in (iv + 4) L := lw_in (k := 4) hi hL hiv (by omega) rfl
  have hl : lv_has ls 8 [(0, .ref b), (1, .ref (Qf 0)), (2, .ref q), (3, .ref bo), (4, .int iv)] := hl
  obtain ⟨z2, m2, k, bb, e1, e2, e3, e4, S2, e5⟩ := J_value (xs (iv + 1).toNatClampNeg) S
  have pm := PotM S2
  refine lv_aload_n hx hb dL_law_1620 rfl (lv_at hl 1 rfl) ?_
  refine lv_aload_n hx hb dL_law_1621 rfl (lv_at hl 0 rfl) ?_
  refine lv_iload hx hb dL_law_1622 (lv_at hl 4 rfl) ?_
  refine lv_iconst (v := 1) hx hb dL_law_1624 (by decide) ?_
  refine lv_iadd hx hb dL_law_1625 ?_
  refine va_sld hx hb hX hbl hbA hS h1 dL_law_1626 ?_
  refine lv_aload_n hx hb dL_law_1627 rfl (lv_at hl 3 rfl) ?_
  refine gfWi (gSn FX [.ref (Qf 0), .int (xs (iv + 1).toNatClampNeg), .ref bo] (c_la_value l hl0 G cL cZ Qf bo A1 z _ (xs (iv + 1).toNatClampNeg) (z2, k) e1) (vx_cwSW 3 hts (gi_SU wq_191 wq_192 wq_193 wq_194) rfl rfl rfl hdU_L_value ⟨(Nat.le_of_ble_eq_true rfl), (Nat.le_of_ble_eq_true rfl)⟩) hKc (gPl hP) (gDl hD) hT hN hS hA rfl hl.1 (Nat.le_of_ble_eq_true rfl) dL_law_1628 ⟨by show _ ≤ 601024; omega, by show _ ≤ 7293000; omega⟩) hP hS hD hA (fun A1 H locs hP hD hS => ?_)
  refine lv_istore (lv' := [(5, .int k), (0, .ref b), (1, .ref (Qf 0)), (2, .ref q), (3, .ref bo), (4, .int iv)]) hx hb dL_law_1631 hl (by decide) rfl (fun ls hl => ?_)
  refine lv_aload_n hx hb dL_law_1633 rfl (lv_at hl 3 rfl) ?_
  refine lv_aload_n hx hb dL_law_1634 rfl (lv_at hl 1 rfl) ?_
  refine lv_iload hx hb dL_law_1635 (lv_at hl 5 rfl) ?_
  refine lv_iconst (v := 1) hx hb dL_law_1637 (by decide) ?_
  refine lv_iadd hx hb dL_law_1638 ?_
  refine va_sld hx hb hX hbl hbA hS h1 dL_law_1639 ?_
  have hP := gsP hP
  have hD := gsD hD
  refine gfWl (gV FX [.int (xs (iv + 1).toNatClampNeg)] (c_md_value l G cI cL cZ cB q A2 mm _ (xs (iv + 1).toNatClampNeg) (m2, bb) e2) (cwV 1 hts (gi_V wq_195 wq_196 wq_197 wq_8 wq_198) rfl rfl rfl hdV_X4_value ⟨(Nat.le_of_ble_eq_true rfl), (Nat.le_of_ble_eq_true rfl)⟩) hK (gPl hP) (gDl hD) 0 rfl rfl rfl hl.1 (Nat.le_of_ble_eq_true rfl) dL_law_1640 ⟨by show _ ≤ 601024; omega, by show _ ≤ 7293000; omega⟩) hP hS hD hA (fun A2 H locs hP hD hS => ?_)
  refine lv_lstore (lv' := [(6, .long bb), (5, .int k), (0, .ref b), (1, .ref (Qf 0)), (2, .ref q), (3, .ref bo), (4, .int iv)]) hx hb dL_law_1643 hl (by decide) rfl (fun ls hl => ?_)
  refine lv_aload_n hx hb dL_law_1645 rfl (lv_at hl 4 rfl) ?_
  refine gfRi (gV FX [] (c_md_thrown l G cI cL cZ cB q A2 m2 _ (Ms.thr m2) rfl) (cwV 0 hts (gi_V wq_10 wq_11 wq_12 wq_8 wq_13) rfl rfl rfl hdV_X4_thrown ⟨(Nat.le_of_ble_eq_true rfl), (Nat.le_of_ble_eq_true rfl)⟩) hK (gPl hP) (gDl hD) 0 rfl rfl rfl hl.1 (Nat.le_of_ble_eq_true rfl) dL_law_1646 ⟨by show _ ≤ 601024; omega, by show _ ≤ 7293000; omega⟩) hP hS hD hA (fun H locs hP hS => ?_)
  refine lv_iload hx hb dL_law_1649 (lv_at hl 1 rfl) ?_
  refine lv_icmp_eq (tgt := 1656) hx hb dL_law_1651 (by decide) (fun _ => ?_) (fun h9 => absurd e3 h9)
  refine lv_iload hx hb dL_law_1656 (lv_at hl 1 rfl) ?_
  refine lv_if_ne (tgt := 1672) hx hb dL_law_1658 (by decide) (fun _ => ?_) (fun hk0 => ?_)
  · refine lv_goto (tgt := 1806) hx hb dL_law_1672 (by decide) ?_
    exact kk _ _ _ _ _ _ _ _ _ ⟨gsP hP, gsD hD, hS⟩ (lv_sub hl [2, 3, 4, 5, 6] rfl) ⟨S2.mono (by omega), by omega, by omega⟩
  · refine lv_aload_n hx hb dL_law_1661 rfl (lv_at hl 5 rfl) ?_
    refine lv_iconst (v := 0) hx hb dL_law_1662 (by decide) ?_
    refine va_lald hx hb hK hP 31 1 rfl rfl (inb_in inb01) dL_law_1663 ?_
    refine lv_lload hx hb dL_law_1664 (lv_at hl 0 rfl) ?_
    refine W.lcmp hx hb dL_law_1666 ?_
    refine lv_if_eq (tgt := 1672) hx hb dL_law_1667 (by decide) (fun _ => ?_) (fun h9 => absurd (lgc0 (e4 hk0)) h9)
    refine lv_goto (tgt := 1806) hx hb dL_law_1672 (by decide) ?_
    exact kk _ _ _ _ _ _ _ _ _ ⟨gsP hP, gsD hD, hS⟩ (lv_sub hl [2, 3, 4, 5, 6] rfl) ⟨S2.mono (by omega), by omega, by omega⟩
set_option maxHeartbeats 4000000 in
set_option maxRecDepth 100000 in
theorem law_c24 {p : Program} {l : Launch} {e : Env} {s : State} {m : MethodId} {below : List Frame} {meth : Method} {c : Code} {b L : Nat} {xs : Nat → Int32} {G : va_G} {cI cL cZ cB : ClassId} (X : LX p l s m meth c b L xs G cI cL cZ cB) {Qf : Nat → Nat} {q bo lm t i : Nat} {iv : Int32} (hi : i + 5 ≤ L) (hiv : iv = Int32.ofNat i) (ht : t < 512) {H : Heap} {locs : List Loc} {ls : Array Slot} {A1 A2 : Nat → Nat} {z : Lo} {mm : Ms} {cells slots : Nat} (hI : LI s G cI cL cZ cB Qf q bo H locs A1 A2 z mm) (hl : lv_has ls 8 (lvL b Qf q bo iv)) (hB : LB lm t cells slots z mm)
    (kk : LK p l e s m below meth c b G cI cL cZ cB Qf q bo iv lm t) : W p l e room_1 s m #[Value.ref b] below meth c H locs cells slots (lw_Z below #[Value.ref b] s) (F0 m 1675 ls []) := by
  obtain ⟨hx, hb, hr, hml, hown, hts, hX, hbl, hlocks, hl0, hK, hT, hN, hL⟩ := X
  obtain ⟨hP, hD, hS⟩ := hI
  obtain ⟨S, hc1, hs1⟩ := hB
  have FX : CallFix p m c code 8 s _ lwT RL := ⟨hx, hb, hml, hown, hts⟩
  have hA : ∀ q9 : Nat, s.heap.size ≤ q9 → lwA s q9 := fun _ h => h
  have hbA : ¬ lwA s b := Nat.not_le.mpr hbl
  have hKc : va_K G vwCl (ct cL cZ) s := hK.sub (tys' := ct cL cZ) [1, 2] rfl
  have h1 : vp_in (iv + 1) L := lw_in (k := 1) hi hL hiv (by omega) rfl
  have h2 : vp_in (iv + 2) L := lw_in (k := 2) hi hL hiv (by omega) rfl
  have h3 : vp_in (iv + 3) L := lw_in (k := 3) hi hL hiv (by omega) rfl
  have h4 : vp_in (iv + 4) L := lw_in (k := 4) hi hL hiv (by omega) rfl
  have hl : lv_has ls 8 [(0, .ref b), (1, .ref (Qf 0)), (2, .ref q), (3, .ref bo), (4, .int iv)] := hl
  obtain ⟨z2, m2, k, bb, e1, e2, e3, e4, S2, e5⟩ := J_same (xs (iv + 1).toNatClampNeg) (xs (iv + 2).toNatClampNeg) S
  have pm := PotM S2
  refine lv_aload_n hx hb dL_law_1675 rfl (lv_at hl 1 rfl) ?_
  refine lv_aload_n hx hb dL_law_1676 rfl (lv_at hl 0 rfl) ?_
  refine lv_iload hx hb dL_law_1677 (lv_at hl 4 rfl) ?_
  refine lv_iconst (v := 1) hx hb dL_law_1679 (by decide) ?_
  refine lv_iadd hx hb dL_law_1680 ?_
  refine va_sld hx hb hX hbl hbA hS h1 dL_law_1681 ?_
  refine lv_aload_n hx hb dL_law_1682 rfl (lv_at hl 0 rfl) ?_
  refine lv_iload hx hb dL_law_1683 (lv_at hl 4 rfl) ?_
  refine lv_iconst (v := 2) hx hb dL_law_1685 (by decide) ?_
  refine lv_iadd hx hb dL_law_1686 ?_
  refine va_sld hx hb hX hbl hbA hS h2 dL_law_1687 ?_
  refine lv_aload_n hx hb dL_law_1688 rfl (lv_at hl 3 rfl) ?_
  refine gfWi (gSn FX [.ref (Qf 0), .int (xs (iv + 1).toNatClampNeg), .int (xs (iv + 2).toNatClampNeg), .ref bo] (c_la_same l hl0 G cL cZ Qf bo A1 z _ (xs (iv + 1).toNatClampNeg) (xs (iv + 2).toNatClampNeg) (z2, k) e1) (vx_cwSW 4 hts (gi_SU wq_199 wq_200 wq_201 wq_202) rfl rfl rfl hdU_L_same ⟨(Nat.le_of_ble_eq_true rfl), (Nat.le_of_ble_eq_true rfl)⟩) hKc (gPl hP) (gDl hD) hT hN hS hA rfl hl.1 (Nat.le_of_ble_eq_true rfl) dL_law_1689 ⟨by show _ ≤ 601024; omega, by show _ ≤ 7293000; omega⟩) hP hS hD hA (fun A1 H locs hP hD hS => ?_)
  refine lv_istore (lv' := [(5, .int k), (0, .ref b), (1, .ref (Qf 0)), (2, .ref q), (3, .ref bo), (4, .int iv)]) hx hb dL_law_1692 hl (by decide) rfl (fun ls hl => ?_)
  refine lv_aload_n hx hb dL_law_1694 rfl (lv_at hl 3 rfl) ?_
  refine lv_aload_n hx hb dL_law_1695 rfl (lv_at hl 1 rfl) ?_
  refine lv_iload hx hb dL_law_1696 (lv_at hl 5 rfl) ?_
  refine lv_iconst (v := 1) hx hb dL_law_1698 (by decide) ?_
  refine lv_iadd hx hb dL_law_1699 ?_
  refine va_sld hx hb hX hbl hbA hS h1 dL_law_1700 ?_
  refine lv_aload_n hx hb dL_law_1701 rfl (lv_at hl 1 rfl) ?_
  refine lv_iload hx hb dL_law_1702 (lv_at hl 5 rfl) ?_
  refine lv_iconst (v := 2) hx hb dL_law_1704 (by decide) ?_
  refine lv_iadd hx hb dL_law_1705 ?_
  refine va_sld hx hb hX hbl hbA hS h2 dL_law_1706 ?_
  have hP := gsP hP
  have hD := gsD hD
  refine gfWi (gV FX [.int (xs (iv + 1).toNatClampNeg), .int (xs (iv + 2).toNatClampNeg)] (c_md_same l G cI cL cZ cB q A2 mm _ (xs (iv + 1).toNatClampNeg) (xs (iv + 2).toNatClampNeg) (m2, bb) e2) (cwV 2 hts (gi_V wq_203 wq_204 wq_205 wq_8 wq_206) rfl rfl rfl hdV_X4_same ⟨(Nat.le_of_ble_eq_true rfl), (Nat.le_of_ble_eq_true rfl)⟩) hK (gPl hP) (gDl hD) 0 rfl rfl rfl hl.1 (Nat.le_of_ble_eq_true rfl) dL_law_1707 ⟨by show _ ≤ 601024; omega, by show _ ≤ 7293000; omega⟩) hP hS hD hA (fun A2 H locs hP hD hS => ?_)
  refine lv_istore (lv' := [(6, .int bb), (5, .int k), (0, .ref b), (1, .ref (Qf 0)), (2, .ref q), (3, .ref bo), (4, .int iv)]) hx hb dL_law_1710 hl (by decide) rfl (fun ls hl => ?_)
  refine lv_aload_n hx hb dL_law_1712 rfl (lv_at hl 4 rfl) ?_
  refine gfRi (gV FX [] (c_md_thrown l G cI cL cZ cB q A2 m2 _ (Ms.thr m2) rfl) (cwV 0 hts (gi_V wq_10 wq_11 wq_12 wq_8 wq_13) rfl rfl rfl hdV_X4_thrown ⟨(Nat.le_of_ble_eq_true rfl), (Nat.le_of_ble_eq_true rfl)⟩) hK (gPl hP) (gDl hD) 0 rfl rfl rfl hl.1 (Nat.le_of_ble_eq_true rfl) dL_law_1713 ⟨by show _ ≤ 601024; omega, by show _ ≤ 7293000; omega⟩) hP hS hD hA (fun H locs hP hS => ?_)
  refine lv_iload hx hb dL_law_1716 (lv_at hl 1 rfl) ?_
  refine lv_icmp_eq (tgt := 1723) hx hb dL_law_1718 (by decide) (fun _ => ?_) (fun h9 => absurd e3 h9)
  refine lv_iload hx hb dL_law_1723 (lv_at hl 1 rfl) ?_
  refine lv_if_ne (tgt := 1747) hx hb dL_law_1725 (by decide) (fun _ => ?_) (fun hk0 => ?_)
  · refine lv_goto (tgt := 1806) hx hb dL_law_1747 (by decide) ?_
    exact kk _ _ _ _ _ _ _ _ _ ⟨gsP hP, gsD hD, hS⟩ (lv_sub hl [2, 3, 4, 5, 6] rfl) ⟨S2.mono (by omega), by omega, by omega⟩
  · refine lv_aload_n hx hb dL_law_1728 rfl (lv_at hl 5 rfl) ?_
    refine lv_iconst (v := 0) hx hb dL_law_1729 (by decide) ?_
    refine va_lald hx hb hK hP 31 1 rfl rfl (inb_in inb01) dL_law_1730 ?_
    refine lv_iload hx hb dL_law_1731 (lv_at hl 0 rfl) ?_
    refine lv_if_eq (tgt := 1740) hx hb dL_law_1733 (by decide) (fun hb0 => ?_) (fun hb0 => ?_)
    · refine lv_lconst (v := 0) hx hb dL_law_1740 (by decide) ?_
      refine W.lcmp hx hb dL_law_1741 ?_
      refine lv_if_eq (tgt := 1747) hx hb dL_law_1742 (by decide) (fun _ => ?_) (fun h9 => absurd (lgc0 ((e4 hk0).trans (if_pos hb0))) h9)
      refine lv_goto (tgt := 1806) hx hb dL_law_1747 (by decide) ?_
      exact kk _ _ _ _ _ _ _ _ _ ⟨gsP hP, gsD hD, hS⟩ (lv_sub hl [2, 3, 4, 5, 6] rfl) ⟨S2.mono (by omega), by omega, by omega⟩
    · refine lv_lconst (v := 1) hx hb dL_law_1736 (by decide) ?_
      refine lv_goto (tgt := 1741) hx hb dL_law_1737 (by decide) ?_
      refine W.lcmp hx hb dL_law_1741 ?_
      refine lv_if_eq (tgt := 1747) hx hb dL_law_1742 (by decide) (fun _ => ?_) (fun h9 => absurd (lgc0 ((e4 hk0).trans (if_neg hb0))) h9)
      refine lv_goto (tgt := 1806) hx hb dL_law_1747 (by decide) ?_
      exact kk _ _ _ _ _ _ _ _ _ ⟨gsP hP, gsD hD, hS⟩ (lv_sub hl [2, 3, 4, 5, 6] rfl) ⟨S2.mono (by omega), by omega, by omega⟩
set_option maxHeartbeats 4000000 in
set_option maxRecDepth 100000 in
theorem law_c25 {p : Program} {l : Launch} {e : Env} {s : State} {m : MethodId} {below : List Frame} {meth : Method} {c : Code} {b L : Nat} {xs : Nat → Int32} {G : va_G} {cI cL cZ cB : ClassId} (X : LX p l s m meth c b L xs G cI cL cZ cB) {Qf : Nat → Nat} {q bo lm t i : Nat} {iv : Int32} (hi : i + 5 ≤ L) (hiv : iv = Int32.ofNat i) (ht : t < 512) {H : Heap} {locs : List Loc} {ls : Array Slot} {A1 A2 : Nat → Nat} {z : Lo} {mm : Ms} {cells slots : Nat} (hI : LI s G cI cL cZ cB Qf q bo H locs A1 A2 z mm) (hl : lv_has ls 8 (lvL b Qf q bo iv)) (hB : LB lm t cells slots z mm)
    (kk : LK p l e s m below meth c b G cI cL cZ cB Qf q bo iv lm t) : W p l e room_1 s m #[Value.ref b] below meth c H locs cells slots (lw_Z below #[Value.ref b] s) (F0 m 1750 ls []) := by
  obtain ⟨hx, hb, hr, hml, hown, hts, hX, hbl, hlocks, hl0, hK, hT, hN, hL⟩ := X
  obtain ⟨hP, hD, hS⟩ := hI
  obtain ⟨S, hc1, hs1⟩ := hB
  have FX : CallFix p m c code 8 s _ lwT RL := ⟨hx, hb, hml, hown, hts⟩
  have hA : ∀ q9 : Nat, s.heap.size ≤ q9 → lwA s q9 := fun _ h => h
  have hbA : ¬ lwA s b := Nat.not_le.mpr hbl
  have hKc : va_K G vwCl (ct cL cZ) s := hK.sub (tys' := ct cL cZ) [1, 2] rfl
  have h1 : vp_in (iv + 1) L := lw_in (k := 1) hi hL hiv (by omega) rfl
  have h2 : vp_in (iv + 2) L := lw_in (k := 2) hi hL hiv (by omega) rfl
  have h3 : vp_in (iv + 3) L := lw_in (k := 3) hi hL hiv (by omega) rfl
  have h4 : vp_in (iv + 4) L := lw_in (k := 4) hi hL hiv (by omega) rfl
  have hl : lv_has ls 8 [(0, .ref b), (1, .ref (Qf 0)), (2, .ref q), (3, .ref bo), (4, .int iv)] := hl
  obtain ⟨z2, m2, k, bb, e1, e2, e3, e4, S2, e5⟩ := J_total (xs (iv + 1).toNatClampNeg) S
  have pm := PotM S2
  refine lv_aload_n hx hb dL_law_1750 rfl (lv_at hl 1 rfl) ?_
  refine lv_aload_n hx hb dL_law_1751 rfl (lv_at hl 0 rfl) ?_
  refine lv_iload hx hb dL_law_1752 (lv_at hl 4 rfl) ?_
  refine lv_iconst (v := 1) hx hb dL_law_1754 (by decide) ?_
  refine lv_iadd hx hb dL_law_1755 ?_
  refine va_sld hx hb hX hbl hbA hS h1 dL_law_1756 ?_
  refine lv_aload_n hx hb dL_law_1757 rfl (lv_at hl 3 rfl) ?_
  refine gfWi (gSn FX [.ref (Qf 0), .int (xs (iv + 1).toNatClampNeg), .ref bo] (c_la_total l hl0 G cL cZ Qf bo A1 z _ (xs (iv + 1).toNatClampNeg) (z2, k) e1) (vx_cwSW 3 hts (gi_SU wq_207 wq_208 wq_209 wq_210) rfl rfl rfl hdU_L_total ⟨(Nat.le_of_ble_eq_true rfl), (Nat.le_of_ble_eq_true rfl)⟩) hKc (gPl hP) (gDl hD) hT hN hS hA rfl hl.1 (Nat.le_of_ble_eq_true rfl) dL_law_1758 ⟨by show _ ≤ 601024; omega, by show _ ≤ 7293000; omega⟩) hP hS hD hA (fun A1 H locs hP hD hS => ?_)
  refine lv_istore (lv' := [(5, .int k), (0, .ref b), (1, .ref (Qf 0)), (2, .ref q), (3, .ref bo), (4, .int iv)]) hx hb dL_law_1761 hl (by decide) rfl (fun ls hl => ?_)
  refine lv_aload_n hx hb dL_law_1763 rfl (lv_at hl 3 rfl) ?_
  refine lv_aload_n hx hb dL_law_1764 rfl (lv_at hl 1 rfl) ?_
  refine lv_iload hx hb dL_law_1765 (lv_at hl 5 rfl) ?_
  refine lv_iconst (v := 1) hx hb dL_law_1767 (by decide) ?_
  refine lv_iadd hx hb dL_law_1768 ?_
  refine va_sld hx hb hX hbl hbA hS h1 dL_law_1769 ?_
  have hP := gsP hP
  have hD := gsD hD
  refine gfWi (gV FX [.int (xs (iv + 1).toNatClampNeg)] (c_md_total l G cI cL cZ cB q A2 mm _ (xs (iv + 1).toNatClampNeg) (m2, bb) e2) (cwV 1 hts (gi_V wq_211 wq_212 wq_213 wq_8 wq_214) rfl rfl rfl hdV_X4_total ⟨(Nat.le_of_ble_eq_true rfl), (Nat.le_of_ble_eq_true rfl)⟩) hK (gPl hP) (gDl hD) 0 rfl rfl rfl hl.1 (Nat.le_of_ble_eq_true rfl) dL_law_1770 ⟨by show _ ≤ 601024; omega, by show _ ≤ 7293000; omega⟩) hP hS hD hA (fun A2 H locs hP hD hS => ?_)
  refine lv_istore (lv' := [(6, .int bb), (5, .int k), (0, .ref b), (1, .ref (Qf 0)), (2, .ref q), (3, .ref bo), (4, .int iv)]) hx hb dL_law_1773 hl (by decide) rfl (fun ls hl => ?_)
  refine lv_aload_n hx hb dL_law_1775 rfl (lv_at hl 4 rfl) ?_
  refine gfRi (gV FX [] (c_md_thrown l G cI cL cZ cB q A2 m2 _ (Ms.thr m2) rfl) (cwV 0 hts (gi_V wq_10 wq_11 wq_12 wq_8 wq_13) rfl rfl rfl hdV_X4_thrown ⟨(Nat.le_of_ble_eq_true rfl), (Nat.le_of_ble_eq_true rfl)⟩) hK (gPl hP) (gDl hD) 0 rfl rfl rfl hl.1 (Nat.le_of_ble_eq_true rfl) dL_law_1776 ⟨by show _ ≤ 601024; omega, by show _ ≤ 7293000; omega⟩) hP hS hD hA (fun H locs hP hS => ?_)
  refine lv_iload hx hb dL_law_1779 (lv_at hl 1 rfl) ?_
  refine lv_icmp_eq (tgt := 1786) hx hb dL_law_1781 (by decide) (fun _ => ?_) (fun h9 => absurd e3 h9)
  refine lv_iload hx hb dL_law_1786 (lv_at hl 1 rfl) ?_
  refine lv_if_ne (tgt := 1803) hx hb dL_law_1788 (by decide) (fun _ => ?_) (fun hk0 => ?_)
  · refine lv_goto (tgt := 1806) hx hb dL_law_1803 (by decide) ?_
    exact kk _ _ _ _ _ _ _ _ _ ⟨gsP hP, gsD hD, hS⟩ (lv_sub hl [2, 3, 4, 5, 6] rfl) ⟨S2.mono (by omega), by omega, by omega⟩
  · refine lv_aload_n hx hb dL_law_1791 rfl (lv_at hl 5 rfl) ?_
    refine lv_iconst (v := 0) hx hb dL_law_1792 (by decide) ?_
    refine va_lald hx hb hK hP 31 1 rfl rfl (inb_in inb01) dL_law_1793 ?_
    refine lv_iload hx hb dL_law_1794 (lv_at hl 0 rfl) ?_
    refine lv_i2l hx hb dL_law_1796 rfl ?_
    refine W.lcmp hx hb dL_law_1797 ?_
    refine lv_if_eq (tgt := 1803) hx hb dL_law_1798 (by decide) (fun _ => ?_) (fun h9 => absurd (lgc0 (e4 hk0)) h9)
    refine lv_goto (tgt := 1806) hx hb dL_law_1803 (by decide) ?_
    exact kk _ _ _ _ _ _ _ _ _ ⟨gsP hP, gsD hD, hS⟩ (lv_sub hl [2, 3, 4, 5, 6] rfl) ⟨S2.mono (by omega), by omega, by omega⟩
