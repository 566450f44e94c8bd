set_option maxHeartbeats 4000000 in
set_option maxRecDepth 100000 in
theorem law_c7 {p : Program} {l : Launch} {e : Env} {s : State} {m : MethodId} {below : List Frame} {meth : Method} {c : Code} {b L : Nat} {xs : Nat → Int32} {G : va_G} {cI cL cZ cB : ClassId} (X : LX p l s m meth c b L xs G cI cL cZ cB) {Qf : Nat → Nat} {q bo lm t i : Nat} {iv : Int32} (hi : i + 5 ≤ L) (hiv : iv = Int32.ofNat i) (ht : t < 512) {H : Heap} {locs : List Loc} {ls : Array Slot} {A1 A2 : Nat → Nat} {z : Lo} {mm : Ms} {cells slots : Nat} (hI : LI s G cI cL cZ cB Qf q bo H locs A1 A2 z mm) (hl : lv_has ls 8 (lvL b Qf q bo iv)) (hB : LB lm t cells slots z mm)
    (kk : LK p l e s m below meth c b G cI cL cZ cB Qf q bo iv lm t) : W p l e room_1 s m #[Value.ref b] below meth c H locs cells slots (lw_Z below #[Value.ref b] s) (F0 m 640 ls []) := by
  obtain ⟨hx, hb, hr, hml, hown, hts, hX, hbl, hlocks, hl0, hK, hT, hN, hL⟩ := X
  obtain ⟨hP, hD, hS⟩ := hI
  obtain ⟨S, hc1, hs1⟩ := hB
  have FX : CallFix p m c code 8 s _ lwT RL := ⟨hx, hb, hml, hown, hts⟩
  have hA : ∀ q9 : Nat, s.heap.size ≤ q9 → lwA s q9 := fun _ h => h
  have hbA : ¬ lwA s b := Nat.not_le.mpr hbl
  have hKc : va_K G vwCl (ct cL cZ) s := hK.sub (tys' := ct cL cZ) [1, 2] rfl
  have h1 : vp_in (iv + 1) L := lw_in (k := 1) hi hL hiv (by omega) rfl
  have h2 : vp_in (iv + 2) L := lw_in (k := 2) hi hL hiv (by omega) rfl
  have h3 : vp_in (iv + 3) L := lw_in (k := 3) hi hL hiv (by omega) rfl
  have h4 : vp_in (iv + 4) L := lw_in (k := 4) hi hL hiv (by omega) rfl
  have hl : lv_has ls 8 [(0, .ref b), (1, .ref (Qf 0)), (2, .ref q), (3, .ref bo), (4, .int iv)] := hl
  obtain ⟨c1, d1, z2, m2, k, bb, e1, e2, e3, e4, S2, e5⟩ := J_part (xs (iv + 1).toNatClampNeg) (xs (iv + 2).toNatClampNeg) (xs (iv + 3).toNatClampNeg) (xs (iv + 4).toNatClampNeg) S (by omega)
  have pm := PotM S2
  refine lv_aload_n hx hb dL_law_640 rfl (lv_at hl 1 rfl) ?_
  refine lv_aload_n hx hb dL_law_641 rfl (lv_at hl 0 rfl) ?_
  refine lv_iload hx hb dL_law_642 (lv_at hl 4 rfl) ?_
  refine lv_iconst (v := 1) hx hb dL_law_644 (by decide) ?_
  refine lv_iadd hx hb dL_law_645 ?_
  refine va_sld hx hb hX hbl hbA hS h1 dL_law_646 ?_
  refine lv_aload_n hx hb dL_law_647 rfl (lv_at hl 0 rfl) ?_
  refine lv_iload hx hb dL_law_648 (lv_at hl 4 rfl) ?_
  refine lv_iconst (v := 2) hx hb dL_law_650 (by decide) ?_
  refine lv_iadd hx hb dL_law_651 ?_
  refine va_sld hx hb hX hbl hbA hS h2 dL_law_652 ?_
  refine lv_aload_n hx hb dL_law_653 rfl (lv_at hl 0 rfl) ?_
  refine lv_iload hx hb dL_law_654 (lv_at hl 4 rfl) ?_
  refine lv_iconst (v := 3) hx hb dL_law_656 (by decide) ?_
  refine lv_iadd hx hb dL_law_657 ?_
  refine va_sld hx hb hX hbl hbA hS h3 dL_law_658 ?_
  refine lv_aload_n hx hb dL_law_659 rfl (lv_at hl 0 rfl) ?_
  refine lv_iload hx hb dL_law_660 (lv_at hl 4 rfl) ?_
  refine lv_iconst (v := 4) hx hb dL_law_662 (by decide) ?_
  refine lv_iadd hx hb dL_law_663 ?_
  refine va_sld hx hb hX hbl hbA hS h4 dL_law_664 ?_
  refine lv_aload_n hx hb dL_law_665 rfl (lv_at hl 3 rfl) ?_
  refine gfWi (gSn FX [.ref (Qf 0), .int (xs (iv + 1).toNatClampNeg), .int (xs (iv + 2).toNatClampNeg), .int (xs (iv + 3).toNatClampNeg), .int (xs (iv + 4).toNatClampNeg), .ref bo] (c_la_part l hl0 G cL cZ Qf bo A1 z _ (xs (iv + 1).toNatClampNeg) (xs (iv + 2).toNatClampNeg) (xs (iv + 3).toNatClampNeg) (xs (iv + 4).toNatClampNeg) c1 (z2, k) e1) (vx_cwSW 6 hts (gi_SU wq_62 wq_63 wq_64 wq_65) rfl rfl rfl hdU_L_part ⟨(Nat.le_of_ble_eq_true rfl), (Nat.le_of_ble_eq_true rfl)⟩) hKc (gPl hP) (gDl hD) hT hN hS hA rfl hl.1 (Nat.le_of_ble_eq_true rfl) dL_law_666 ⟨by show _ ≤ 601024; omega, by show _ ≤ 7293000; omega⟩) hP hS hD hA (fun A1 H locs hP hD hS => ?_)
  refine lv_istore (lv' := [(5, .int k), (0, .ref b), (1, .ref (Qf 0)), (2, .ref q), (3, .ref bo), (4, .int iv)]) hx hb dL_law_669 hl (by decide) rfl (fun ls hl => ?_)
  refine lv_aload_n hx hb dL_law_671 rfl (lv_at hl 3 rfl) ?_
  refine lv_aload_n hx hb dL_law_672 rfl (lv_at hl 1 rfl) ?_
  refine lv_iload hx hb dL_law_673 (lv_at hl 5 rfl) ?_
  refine lv_iconst (v := 1) hx hb dL_law_675 (by decide) ?_
  refine lv_iadd hx hb dL_law_676 ?_
  refine va_sld hx hb hX hbl hbA hS h1 dL_law_677 ?_
  refine lv_aload_n hx hb dL_law_678 rfl (lv_at hl 1 rfl) ?_
  refine lv_iload hx hb dL_law_679 (lv_at hl 5 rfl) ?_
  refine lv_iconst (v := 2) hx hb dL_law_681 (by decide) ?_
  refine lv_iadd hx hb dL_law_682 ?_
  refine va_sld hx hb hX hbl hbA hS h2 dL_law_683 ?_
  refine lv_aload_n hx hb dL_law_684 rfl (lv_at hl 1 rfl) ?_
  refine lv_iload hx hb dL_law_685 (lv_at hl 5 rfl) ?_
  refine lv_iconst (v := 3) hx hb dL_law_687 (by decide) ?_
  refine lv_iadd hx hb dL_law_688 ?_
  refine va_sld hx hb hX hbl hbA hS h3 dL_law_689 ?_
  refine lv_aload_n hx hb dL_law_690 rfl (lv_at hl 1 rfl) ?_
  refine lv_iload hx hb dL_law_691 (lv_at hl 5 rfl) ?_
  refine lv_iconst (v := 4) hx hb dL_law_693 (by decide) ?_
  refine lv_iadd hx hb dL_law_694 ?_
  refine va_sld hx hb hX hbl hbA hS h4 dL_law_695 ?_
  have hP := gsP hP
  have hD := gsD hD
  refine gfWi (gV FX [.int (xs (iv + 1).toNatClampNeg), .int (xs (iv + 2).toNatClampNeg), .int (xs (iv + 3).toNatClampNeg), .int (xs (iv + 4).toNatClampNeg)] (c_md_part l G cI cL cZ cB q A2 mm _ (xs (iv + 1).toNatClampNeg) (xs (iv + 2).toNatClampNeg) (xs (iv + 3).toNatClampNeg) (xs (iv + 4).toNatClampNeg) d1 (m2, bb) e2) (cwV 4 hts (gi_V wq_66 wq_67 wq_68 wq_8 wq_69) rfl rfl rfl hdV_X4_part ⟨(Nat.le_of_ble_eq_true rfl), (Nat.le_of_ble_eq_true rfl)⟩) hK (gPl hP) (gDl hD) 0 rfl rfl rfl hl.1 (Nat.le_of_ble_eq_true rfl) dL_law_696 ⟨by show _ ≤ 601024; omega, by show _ ≤ 7293000; omega⟩) hP hS hD hA (fun A2 H locs hP hD hS => ?_)
  refine lv_istore (lv' := [(6, .int bb), (5, .int k), (0, .ref b), (1, .ref (Qf 0)), (2, .ref q), (3, .ref bo), (4, .int iv)]) hx hb dL_law_699 hl (by decide) rfl (fun ls hl => ?_)
  refine lv_aload_n hx hb dL_law_701 rfl (lv_at hl 4 rfl) ?_
  refine gfRi (gV FX [] (c_md_thrown l G cI cL cZ cB q A2 m2 _ (Ms.thr m2) rfl) (cwV 0 hts (gi_V wq_10 wq_11 wq_12 wq_8 wq_13) rfl rfl rfl hdV_X4_thrown ⟨(Nat.le_of_ble_eq_true rfl), (Nat.le_of_ble_eq_true rfl)⟩) hK (gPl hP) (gDl hD) 0 rfl rfl rfl hl.1 (Nat.le_of_ble_eq_true rfl) dL_law_702 ⟨by show _ ≤ 601024; omega, by show _ ≤ 7293000; omega⟩) hP hS hD hA (fun H locs hP hS => ?_)
  refine lv_iload hx hb dL_law_705 (lv_at hl 1 rfl) ?_
  refine lv_icmp_eq (tgt := 712) hx hb dL_law_707 (by decide) (fun _ => ?_) (fun h9 => absurd e3 h9)
  refine lv_iload hx hb dL_law_712 (lv_at hl 1 rfl) ?_
  refine lv_if_ne (tgt := 729) hx hb dL_law_714 (by decide) (fun _ => ?_) (fun hk0 => ?_)
  · refine lv_goto (tgt := 1806) hx hb dL_law_729 (by decide) ?_
    exact kk _ _ _ _ _ _ _ _ _ ⟨gsP hP, gsD hD, hS⟩ (lv_sub hl [2, 3, 4, 5, 6] rfl) ⟨S2.mono (by omega), by omega, by omega⟩
  · refine lv_aload_n hx hb dL_law_717 rfl (lv_at hl 5 rfl) ?_
    refine lv_iconst (v := 0) hx hb dL_law_718 (by decide) ?_
    refine va_lald hx hb hK hP 31 1 rfl rfl (inb_in inb01) dL_law_719 ?_
    refine lv_iload hx hb dL_law_720 (lv_at hl 0 rfl) ?_
    refine lv_i2l hx hb dL_law_722 rfl ?_
    refine W.lcmp hx hb dL_law_723 ?_
    refine lv_if_eq (tgt := 729) hx hb dL_law_724 (by decide) (fun _ => ?_) (fun h9 => absurd (lgc0 (e4 hk0)) h9)
    refine lv_goto (tgt := 1806) hx hb dL_law_729 (by decide) ?_
    exact kk _ _ _ _ _ _ _ _ _ ⟨gsP hP, gsD hD, hS⟩ (lv_sub hl [2, 3, 4, 5, 6] rfl) ⟨S2.mono (by omega), by omega, by omega⟩
set_option maxHeartbeats 4000000 in
set_option maxRecDepth 100000 in
theorem law_c8 {p : Program} {l : Launch} {e : Env} {s : State} {m : MethodId} {below : List Frame} {meth : Method} {c : Code} {b L : Nat} {xs : Nat → Int32} {G : va_G} {cI cL cZ cB : ClassId} (X : LX p l s m meth c b L xs G cI cL cZ cB) {Qf : Nat → Nat} {q bo lm t i : Nat} {iv : Int32} (hi : i + 5 ≤ L) (hiv : iv = Int32.ofNat i) (ht : t < 512) {H : Heap} {locs : List Loc} {ls : Array Slot} {A1 A2 : Nat → Nat} {z : Lo} {mm : Ms} {cells slots : Nat} (hI : LI s G cI cL cZ cB Qf q bo H locs A1 A2 z mm) (hl : lv_has ls 8 (lvL b Qf q bo iv)) (hB : LB lm t cells slots z mm)
    (kk : LK p l e s m below meth c b G cI cL cZ cB Qf q bo iv lm t) : W p l e room_1 s m #[Value.ref b] below meth c H locs cells slots (lw_Z below #[Value.ref b] s) (F0 m 732 ls []) := by
  obtain ⟨hx, hb, hr, hml, hown, hts, hX, hbl, hlocks, hl0, hK, hT, hN, hL⟩ := X
  obtain ⟨hP, hD, hS⟩ := hI
  obtain ⟨S, hc1, hs1⟩ := hB
  have FX : CallFix p m c code 8 s _ lwT RL := ⟨hx, hb, hml, hown, hts⟩
  have hA : ∀ q9 : Nat, s.heap.size ≤ q9 → lwA s q9 := fun _ h => h
  have hbA : ¬ lwA s b := Nat.not_le.mpr hbl
  have hKc : va_K G vwCl (ct cL cZ) s := hK.sub (tys' := ct cL cZ) [1, 2] rfl
  have h1 : vp_in (iv + 1) L := lw_in (k := 1) hi hL hiv (by omega) rfl
  have h2 : vp_in (iv + 2) L := lw_in (k := 2) hi hL hiv (by omega) rfl
  have h3 : vp_in (iv + 3) L := lw_in (k := 3) hi hL hiv (by omega) rfl
  have h4 : vp_in (iv + 4) L := lw_in (k := 4) hi hL hiv (by omega) rfl
  have hl : lv_has ls 8 [(0, .ref b), (1, .ref (Qf 0)), (2, .ref q), (3, .ref bo), (4, .int iv)] := hl
  obtain ⟨z2, m2, k, bb, e1, e2, e3, e4, S2, e5⟩ := J_compare (xs (iv + 1).toNatClampNeg) (xs (iv + 2).toNatClampNeg) S
  have pm := PotM S2
  refine lv_aload_n hx hb dL_law_732 rfl (lv_at hl 1 rfl) ?_
  refine lv_aload_n hx hb dL_law_733 rfl (lv_at hl 0 rfl) ?_
  refine lv_iload hx hb dL_law_734 (lv_at hl 4 rfl) ?_
  refine lv_iconst (v := 1) hx hb dL_law_736 (by decide) ?_
  refine lv_iadd hx hb dL_law_737 ?_
  refine va_sld hx hb hX hbl hbA hS h1 dL_law_738 ?_
  refine lv_aload_n hx hb dL_law_739 rfl (lv_at hl 0 rfl) ?_
  refine lv_iload hx hb dL_law_740 (lv_at hl 4 rfl) ?_
  refine lv_iconst (v := 2) hx hb dL_law_742 (by decide) ?_
  refine lv_iadd hx hb dL_law_743 ?_
  refine va_sld hx hb hX hbl hbA hS h2 dL_law_744 ?_
  refine lv_aload_n hx hb dL_law_745 rfl (lv_at hl 3 rfl) ?_
  refine gfWi (gSn FX [.ref (Qf 0), .int (xs (iv + 1).toNatClampNeg), .int (xs (iv + 2).toNatClampNeg), .ref bo] (c_la_compare l hl0 G cL cZ Qf bo A1 z _ (xs (iv + 1).toNatClampNeg) (xs (iv + 2).toNatClampNeg) (z2, k) e1) (vx_cwSW 4 hts (gi_SU wq_70 wq_71 wq_72 wq_73) rfl rfl rfl hdU_L_compare ⟨(Nat.le_of_ble_eq_true rfl), (Nat.le_of_ble_eq_true rfl)⟩) hKc (gPl hP) (gDl hD) hT hN hS hA rfl hl.1 (Nat.le_of_ble_eq_true rfl) dL_law_746 ⟨by show _ ≤ 601024; omega, by show _ ≤ 7293000; omega⟩) hP hS hD hA (fun A1 H locs hP hD hS => ?_)
  refine lv_istore (lv' := [(5, .int k), (0, .ref b), (1, .ref (Qf 0)), (2, .ref q), (3, .ref bo), (4, .int iv)]) hx hb dL_law_749 hl (by decide) rfl (fun ls hl => ?_)
  refine lv_aload_n hx hb dL_law_751 rfl (lv_at hl 3 rfl) ?_
  refine lv_aload_n hx hb dL_law_752 rfl (lv_at hl 1 rfl) ?_
  refine lv_iload hx hb dL_law_753 (lv_at hl 5 rfl) ?_
  refine lv_iconst (v := 1) hx hb dL_law_755 (by decide) ?_
  refine lv_iadd hx hb dL_law_756 ?_
  refine va_sld hx hb hX hbl hbA hS h1 dL_law_757 ?_
  refine lv_aload_n hx hb dL_law_758 rfl (lv_at hl 1 rfl) ?_
  refine lv_iload hx hb dL_law_759 (lv_at hl 5 rfl) ?_
  refine lv_iconst (v := 2) hx hb dL_law_761 (by decide) ?_
  refine lv_iadd hx hb dL_law_762 ?_
  refine va_sld hx hb hX hbl hbA hS h2 dL_law_763 ?_
  have hP := gsP hP
  have hD := gsD hD
  refine gfWi (gV FX [.int (xs (iv + 1).toNatClampNeg), .int (xs (iv + 2).toNatClampNeg)] (c_md_compare l G cI cL cZ cB q A2 mm _ (xs (iv + 1).toNatClampNeg) (xs (iv + 2).toNatClampNeg) (m2, bb) e2) (cwV 2 hts (gi_V wq_74 wq_75 wq_76 wq_8 wq_77) rfl rfl rfl hdV_X4_compare ⟨(Nat.le_of_ble_eq_true rfl), (Nat.le_of_ble_eq_true rfl)⟩) hK (gPl hP) (gDl hD) 0 rfl rfl rfl hl.1 (Nat.le_of_ble_eq_true rfl) dL_law_764 ⟨by show _ ≤ 601024; omega, by show _ ≤ 7293000; omega⟩) hP hS hD hA (fun A2 H locs hP hD hS => ?_)
  refine lv_istore (lv' := [(6, .int bb), (5, .int k), (0, .ref b), (1, .ref (Qf 0)), (2, .ref q), (3, .ref bo), (4, .int iv)]) hx hb dL_law_767 hl (by decide) rfl (fun ls hl => ?_)
  refine lv_aload_n hx hb dL_law_769 rfl (lv_at hl 4 rfl) ?_
  refine gfRi (gV FX [] (c_md_thrown l G cI cL cZ cB q A2 m2 _ (Ms.thr m2) rfl) (cwV 0 hts (gi_V wq_10 wq_11 wq_12 wq_8 wq_13) rfl rfl rfl hdV_X4_thrown ⟨(Nat.le_of_ble_eq_true rfl), (Nat.le_of_ble_eq_true rfl)⟩) hK (gPl hP) (gDl hD) 0 rfl rfl rfl hl.1 (Nat.le_of_ble_eq_true rfl) dL_law_770 ⟨by show _ ≤ 601024; omega, by show _ ≤ 7293000; omega⟩) hP hS hD hA (fun H locs hP hS => ?_)
  refine lv_iload hx hb dL_law_773 (lv_at hl 1 rfl) ?_
  refine lv_icmp_eq (tgt := 780) hx hb dL_law_775 (by decide) (fun _ => ?_) (fun h9 => absurd e3 h9)
  refine lv_iload hx hb dL_law_780 (lv_at hl 1 rfl) ?_
  refine lv_if_ne (tgt := 797) hx hb dL_law_782 (by decide) (fun _ => ?_) (fun hk0 => ?_)
  · refine lv_goto (tgt := 1806) hx hb dL_law_797 (by decide) ?_
    exact kk _ _ _ _ _ _ _ _ _ ⟨gsP hP, gsD hD, hS⟩ (lv_sub hl [2, 3, 4, 5, 6] rfl) ⟨S2.mono (by omega), by omega, by omega⟩
  · refine lv_aload_n hx hb dL_law_785 rfl (lv_at hl 5 rfl) ?_
    refine lv_iconst (v := 0) hx hb dL_law_786 (by decide) ?_
    refine va_lald hx hb hK hP 31 1 rfl rfl (inb_in inb01) dL_law_787 ?_
    refine lv_iload hx hb dL_law_788 (lv_at hl 0 rfl) ?_
    refine lv_i2l hx hb dL_law_790 rfl ?_
    refine W.lcmp hx hb dL_law_791 ?_
    refine lv_if_eq (tgt := 797) hx hb dL_law_792 (by decide) (fun _ => ?_) (fun h9 => absurd (lgc0 (e4 hk0)) h9)
    refine lv_goto (tgt := 1806) hx hb dL_law_797 (by decide) ?_
    exact kk _ _ _ _ _ _ _ _ _ ⟨gsP hP, gsD hD, hS⟩ (lv_sub hl [2, 3, 4, 5, 6] rfl) ⟨S2.mono (by omega), by omega, by omega⟩
set_option maxHeartbeats 4000000 in
set_option maxRecDepth 100000 in
theorem law_c9 {p : Program} {l : Launch} {e : Env} {s : State} {m : MethodId} {below : List Frame} {meth : Method} {c : Code} {b L : Nat} {xs : Nat → Int32} {G : va_G} {cI cL cZ cB : ClassId} (X : LX p l s m meth c b L xs G cI cL cZ cB) {Qf : Nat → Nat} {q bo lm t i : Nat} {iv : Int32} (hi : i + 5 ≤ L) (hiv : iv = Int32.ofNat i) (ht : t < 512) {H : Heap} {locs : List Loc} {ls : Array Slot} {A1 A2 : Nat → Nat} {z : Lo} {mm : Ms} {cells slots : Nat} (hI : LI s G cI cL cZ cB Qf q bo H locs A1 A2 z mm) (hl : lv_has ls 8 (lvL b Qf q bo iv)) (hB : LB lm t cells slots z mm)
    (kk : LK p l e s m below meth c b G cI cL cZ cB Qf q bo iv lm t) : W p l e room_1 s m #[Value.ref b] below meth c H locs cells slots (lw_Z below #[Value.ref b] s) (F0 m 800 ls []) := by
  obtain ⟨hx, hb, hr, hml, hown, hts, hX, hbl, hlocks, hl0, hK, hT, hN, hL⟩ := X
  obtain ⟨hP, hD, hS⟩ := hI
  obtain ⟨S, hc1, hs1⟩ := hB
  have FX : CallFix p m c code 8 s _ lwT RL := ⟨hx, hb, hml, hown, hts⟩
  have hA : ∀ q9 : Nat, s.heap.size ≤ q9 → lwA s q9 := fun _ h => h
  have hbA : ¬ lwA s b := Nat.not_le.mpr hbl
  have hKc : va_K G vwCl (ct cL cZ) s := hK.sub (tys' := ct cL cZ) [1, 2] rfl
  have h1 : vp_in (iv + 1) L := lw_in (k := 1) hi hL hiv (by omega) rfl
  have h2 : vp_in (iv + 2) L := lw_in (k := 2) hi hL hiv (by omega) rfl
  have h3 : vp_in (iv + 3) L := lw_in (k := 3) hi hL hiv (by omega) rfl
  have h4 : vp_in (iv + 4) L := lw_in (k := 4) hi hL hiv (by omega) rfl
  have hl : lv_has ls 8 [(0, .ref b), (1, .ref (Qf 0)), (2, .ref q), (3, .ref bo), (4, .int iv)] := hl
  obtain ⟨z2, m2, k, bb, e1, e2, e3, e4, S2, e5⟩ := J_byteAt (xs (iv + 1).toNatClampNeg) (xs (iv + 2).toNatClampNeg) S
  have pm := PotM S2
  refine lv_aload_n hx hb dL_law_800 rfl (lv_at hl 1 rfl) ?_
  refine lv_aload_n hx hb dL_law_801 rfl (lv_at hl 0 rfl) ?_
  refine lv_iload hx hb dL_law_802 (lv_at hl 4 rfl) ?_
  refine lv_iconst (v := 1) hx hb dL_law_804 (by decide) ?_
  refine lv_iadd hx hb dL_law_805 ?_
  refine va_sld hx hb hX hbl hbA hS h1 dL_law_806 ?_
  refine lv_aload_n hx hb dL_law_807 rfl (lv_at hl 0 rfl) ?_
  refine lv_iload hx hb dL_law_808 (lv_at hl 4 rfl) ?_
  refine lv_iconst (v := 2) hx hb dL_law_810 (by decide) ?_
  refine lv_iadd hx hb dL_law_811 ?_
  refine va_sld hx hb hX hbl hbA hS h2 dL_law_812 ?_
  refine lv_aload_n hx hb dL_law_813 rfl (lv_at hl 3 rfl) ?_
  refine gfWi (gSn FX [.ref (Qf 0), .int (xs (iv + 1).toNatClampNeg), .int (xs (iv + 2).toNatClampNeg), .ref bo] (c_la_byteAt l hl0 G cL cZ Qf bo A1 z _ (xs (iv + 1).toNatClampNeg) (xs (iv + 2).toNatClampNeg) (z2, k) e1) (vx_cwSW 4 hts (gi_SU wq_78 wq_79 wq_80 wq_81) rfl rfl rfl hdU_L_byteAt ⟨(Nat.le_of_ble_eq_true rfl), (Nat.le_of_ble_eq_true rfl)⟩) hKc (gPl hP) (gDl hD) hT hN hS hA rfl hl.1 (Nat.le_of_ble_eq_true rfl) dL_law_814 ⟨by show _ ≤ 601024; omega, by show _ ≤ 7293000; omega⟩) hP hS hD hA (fun A1 H locs hP hD hS => ?_)
  refine lv_istore (lv' := [(5, .int k), (0, .ref b), (1, .ref (Qf 0)), (2, .ref q), (3, .ref bo), (4, .int iv)]) hx hb dL_law_817 hl (by decide) rfl (fun ls hl => ?_)
  refine lv_aload_n hx hb dL_law_819 rfl (lv_at hl 3 rfl) ?_
  refine lv_aload_n hx hb dL_law_820 rfl (lv_at hl 1 rfl) ?_
  refine lv_iload hx hb dL_law_821 (lv_at hl 5 rfl) ?_
  refine lv_iconst (v := 1) hx hb dL_law_823 (by decide) ?_
  refine lv_iadd hx hb dL_law_824 ?_
  refine va_sld hx hb hX hbl hbA hS h1 dL_law_825 ?_
  refine lv_aload_n hx hb dL_law_826 rfl (lv_at hl 1 rfl) ?_
  refine lv_iload hx hb dL_law_827 (lv_at hl 5 rfl) ?_
  refine lv_iconst (v := 2) hx hb dL_law_829 (by decide) ?_
  refine lv_iadd hx hb dL_law_830 ?_
  refine va_sld hx hb hX hbl hbA hS h2 dL_law_831 ?_
  have hP := gsP hP
  have hD := gsD hD
  refine gfWi (gV FX [.int (xs (iv + 1).toNatClampNeg), .int (xs (iv + 2).toNatClampNeg)] (c_md_byteAt l G cI cL cZ cB q A2 mm _ (xs (iv + 1).toNatClampNeg) (xs (iv + 2).toNatClampNeg) (m2, bb) e2) (cwV 2 hts (gi_V wq_82 wq_83 wq_84 wq_8 wq_85) rfl rfl rfl hdV_X4_byteAt ⟨(Nat.le_of_ble_eq_true rfl), (Nat.le_of_ble_eq_true rfl)⟩) hK (gPl hP) (gDl hD) 0 rfl rfl rfl hl.1 (Nat.le_of_ble_eq_true rfl) dL_law_832 ⟨by show _ ≤ 601024; omega, by show _ ≤ 7293000; omega⟩) hP hS hD hA (fun A2 H locs hP hD hS => ?_)
  refine lv_istore (lv' := [(6, .int bb), (5, .int k), (0, .ref b), (1, .ref (Qf 0)), (2, .ref q), (3, .ref bo), (4, .int iv)]) hx hb dL_law_835 hl (by decide) rfl (fun ls hl => ?_)
  refine lv_aload_n hx hb dL_law_837 rfl (lv_at hl 4 rfl) ?_
  refine gfRi (gV FX [] (c_md_thrown l G cI cL cZ cB q A2 m2 _ (Ms.thr m2) rfl) (cwV 0 hts (gi_V wq_10 wq_11 wq_12 wq_8 wq_13) rfl rfl rfl hdV_X4_thrown ⟨(Nat.le_of_ble_eq_true rfl), (Nat.le_of_ble_eq_true rfl)⟩) hK (gPl hP) (gDl hD) 0 rfl rfl rfl hl.1 (Nat.le_of_ble_eq_true rfl) dL_law_838 ⟨by show _ ≤ 601024; omega, by show _ ≤ 7293000; omega⟩) hP hS hD hA (fun H locs hP hS => ?_)
  refine lv_iload hx hb dL_law_841 (lv_at hl 1 rfl) ?_
  refine lv_icmp_eq (tgt := 848) hx hb dL_law_843 (by decide) (fun _ => ?_) (fun h9 => absurd e3 h9)
  refine lv_iload hx hb dL_law_848 (lv_at hl 1 rfl) ?_
  refine lv_if_ne (tgt := 865) hx hb dL_law_850 (by decide) (fun _ => ?_) (fun hk0 => ?_)
  · refine lv_goto (tgt := 1806) hx hb dL_law_865 (by decide) ?_
    exact kk _ _ _ _ _ _ _ _ _ ⟨gsP hP, gsD hD, hS⟩ (lv_sub hl [2, 3, 4, 5, 6] rfl) ⟨S2.mono (by omega), by omega, by omega⟩
  · refine lv_aload_n hx hb dL_law_853 rfl (lv_at hl 5 rfl) ?_
    refine lv_iconst (v := 0) hx hb dL_law_854 (by decide) ?_
    refine va_lald hx hb hK hP 31 1 rfl rfl (inb_in inb01) dL_law_855 ?_
    refine lv_iload hx hb dL_law_856 (lv_at hl 0 rfl) ?_
    refine lv_i2l hx hb dL_law_858 rfl ?_
    refine W.lcmp hx hb dL_law_859 ?_
    refine lv_if_eq (tgt := 865) hx hb dL_law_860 (by decide) (fun _ => ?_) (fun h9 => absurd (lgc0 (e4 hk0)) h9)
    refine lv_goto (tgt := 1806) hx hb dL_law_865 (by decide) ?_
    exact kk _ _ _ _ _ _ _ _ _ ⟨gsP hP, gsD hD, hS⟩ (lv_sub hl [2, 3, 4, 5, 6] rfl) ⟨S2.mono (by omega), by omega, by omega⟩
set_option maxHeartbeats 4000000 in
set_option maxRecDepth 100000 in
theorem law_c10 {p : Program} {l : Launch} {e : Env} {s : State} {m : MethodId} {below : List Frame} {meth : Method} {c : Code} {b L : Nat} {xs : Nat → Int32} {G : va_G} {cI cL cZ cB : ClassId} (X : LX p l s m meth c b L xs G cI cL cZ cB) {Qf : Nat → Nat} {q bo lm t i : Nat} {iv : Int32} (hi : i + 5 ≤ L) (hiv : iv = Int32.ofNat i) (ht : t < 512) {H : Heap} {locs : List Loc} {ls : Array Slot} {A1 A2 : Nat → Nat} {z : Lo} {mm : Ms} {cells slots : Nat} (hI : LI s G cI cL cZ cB Qf q bo H locs A1 A2 z mm) (hl : lv_has ls 8 (lvL b Qf q bo iv)) (hB : LB lm t cells slots z mm)
    (kk : LK p l e s m below meth c b G cI cL cZ cB Qf q bo iv lm t) : W p l e room_1 s m #[Value.ref b] below meth c H locs cells slots (lw_Z below #[Value.ref b] s) (F0 m 868 ls []) := by
  obtain ⟨hx, hb, hr, hml, hown, hts, hX, hbl, hlocks, hl0, hK, hT, hN, hL⟩ := X
  obtain ⟨hP, hD, hS⟩ := hI
  obtain ⟨S, hc1, hs1⟩ := hB
  have FX : CallFix p m c code 8 s _ lwT RL := ⟨hx, hb, hml, hown, hts⟩
  have hA : ∀ q9 : Nat, s.heap.size ≤ q9 → lwA s q9 := fun _ h => h
  have hbA : ¬ lwA s b := Nat.not_le.mpr hbl
  have hKc : va_K G vwCl (ct cL cZ) s := hK.sub (tys' := ct cL cZ) [1, 2] rfl
  have h1 : vp_in (iv + 1) L := lw_in (k := 1) hi hL hiv (by omega) rfl
  have h2 : vp_in (iv + 2) L := lw_in (k := 2) hi hL hiv (by omega) rfl
  have h3 : vp_in (iv + 3) L := lw_in (k := 3) hi hL hiv (by omega) rfl
  have h4 : vp_in (iv + 4) L := lw_in (k := 4) hi hL hiv (by omega) rfl
  have hl : lv_has ls 8 [(0, .ref b), (1, .ref (Qf 0)), (2, .ref q), (3, .ref bo), (4, .int iv)] := hl
  obtain ⟨z2, m2, k, e1, e2, e3, S2, e5⟩ := J_setByte (xs (iv + 1).toNatClampNeg) (xs (iv + 2).toNatClampNeg) (xs (iv + 3).toNatClampNeg) S
  have pm := PotM S2
  refine lv_aload_n hx hb dL_law_868 rfl (lv_at hl 1 rfl) ?_
  refine lv_aload_n hx hb dL_law_869 rfl (lv_at hl 0 rfl) ?_
  refine lv_iload hx hb dL_law_870 (lv_at hl 4 rfl) ?_
  refine lv_iconst (v := 1) hx hb dL_law_872 (by decide) ?_
  refine lv_iadd hx hb dL_law_873 ?_
  refine va_sld hx hb hX hbl hbA hS h1 dL_law_874 ?_
  refine lv_aload_n hx hb dL_law_875 rfl (lv_at hl 0 rfl) ?_
  refine lv_iload hx hb dL_law_876 (lv_at hl 4 rfl) ?_
  refine lv_iconst (v := 2) hx hb dL_law_878 (by decide) ?_
  refine lv_iadd hx hb dL_law_879 ?_
  refine va_sld hx hb hX hbl hbA hS h2 dL_law_880 ?_
  refine lv_aload_n hx hb dL_law_881 rfl (lv_at hl 0 rfl) ?_
  refine lv_iload hx hb dL_law_882 (lv_at hl 4 rfl) ?_
  refine lv_iconst (v := 3) hx hb dL_law_884 (by decide) ?_
  refine lv_iadd hx hb dL_law_885 ?_
  refine va_sld hx hb hX hbl hbA hS h3 dL_law_886 ?_
  refine gfWi (gSn FX [.ref (Qf 0), .int (xs (iv + 1).toNatClampNeg), .int (xs (iv + 2).toNatClampNeg), .int (xs (iv + 3).toNatClampNeg)] (c_la_setByte l hl0 G cL cZ Qf bo A1 z _ (xs (iv + 1).toNatClampNeg) (xs (iv + 2).toNatClampNeg) (xs (iv + 3).toNatClampNeg) (z2, k) e1) (vx_cwSW 4 hts (gi_SU wq_86 wq_87 wq_88 wq_89) rfl rfl rfl hdU_L_setByte ⟨(Nat.le_of_ble_eq_true rfl), (Nat.le_of_ble_eq_true rfl)⟩) hKc (gPl hP) (gDl hD) hT hN hS hA rfl hl.1 (Nat.le_of_ble_eq_true rfl) dL_law_887 ⟨by show _ ≤ 601024; omega, by show _ ≤ 7293000; omega⟩) hP hS hD hA (fun A1 H locs hP hD hS => ?_)
  refine lv_istore (lv' := [(5, .int k), (0, .ref b), (1, .ref (Qf 0)), (2, .ref q), (3, .ref bo), (4, .int iv)]) hx hb dL_law_890 hl (by decide) rfl (fun ls hl => ?_)
  refine lv_aload_n hx hb dL_law_892 rfl (lv_at hl 3 rfl) ?_
  refine lv_aload_n hx hb dL_law_893 rfl (lv_at hl 1 rfl) ?_
  refine lv_iload hx hb dL_law_894 (lv_at hl 5 rfl) ?_
  refine lv_iconst (v := 1) hx hb dL_law_896 (by decide) ?_
  refine lv_iadd hx hb dL_law_897 ?_
  refine va_sld hx hb hX hbl hbA hS h1 dL_law_898 ?_
  refine lv_aload_n hx hb dL_law_899 rfl (lv_at hl 1 rfl) ?_
  refine lv_iload hx hb dL_law_900 (lv_at hl 5 rfl) ?_
  refine lv_iconst (v := 2) hx hb dL_law_902 (by decide) ?_
  refine lv_iadd hx hb dL_law_903 ?_
  refine va_sld hx hb hX hbl hbA hS h2 dL_law_904 ?_
  refine lv_aload_n hx hb dL_law_905 rfl (lv_at hl 1 rfl) ?_
  refine lv_iload hx hb dL_law_906 (lv_at hl 5 rfl) ?_
  refine lv_iconst (v := 3) hx hb dL_law_908 (by decide) ?_
  refine lv_iadd hx hb dL_law_909 ?_
  refine va_sld hx hb hX hbl hbA hS h3 dL_law_910 ?_
  have hP := gsP hP
  have hD := gsD hD
  refine gfWv (gV FX [.int (xs (iv + 1).toNatClampNeg), .int (xs (iv + 2).toNatClampNeg), .int (xs (iv + 3).toNatClampNeg)] (c_md_setByte l G cI cL cZ cB q A2 mm _ (xs (iv + 1).toNatClampNeg) (xs (iv + 2).toNatClampNeg) (xs (iv + 3).toNatClampNeg) (m2, ()) e2) (cwV 3 hts (gi_V wq_90 wq_91 wq_92 wq_8 wq_93) rfl rfl rfl hdV_X4_setByte ⟨(Nat.le_of_ble_eq_true rfl), (Nat.le_of_ble_eq_true rfl)⟩) hK (gPl hP) (gDl hD) 0 rfl rfl rfl hl.1 (Nat.le_of_ble_eq_true rfl) dL_law_911 ⟨by show _ ≤ 601024; omega, by show _ ≤ 7293000; omega⟩) hP hS hD hA (fun A2 H locs hP hD hS => ?_)
  refine lv_aload_n hx hb dL_law_914 rfl (lv_at hl 3 rfl) ?_
  refine gfRi (gV FX [] (c_md_thrown l G cI cL cZ cB q A2 m2 _ (Ms.thr m2) rfl) (cwV 0 hts (gi_V wq_10 wq_11 wq_12 wq_8 wq_13) rfl rfl rfl hdV_X4_thrown ⟨(Nat.le_of_ble_eq_true rfl), (Nat.le_of_ble_eq_true rfl)⟩) hK (gPl hP) (gDl hD) 0 rfl rfl rfl hl.1 (Nat.le_of_ble_eq_true rfl) dL_law_915 ⟨by show _ ≤ 601024; omega, by show _ ≤ 7293000; omega⟩) hP hS hD hA (fun H locs hP hS => ?_)
  refine lv_iload hx hb dL_law_918 (lv_at hl 0 rfl) ?_
  refine lv_icmp_eq (tgt := 925) hx hb dL_law_920 (by decide) (fun _ => ?_) (fun h9 => absurd e3 h9)
  refine lv_goto (tgt := 1806) hx hb dL_law_925 (by decide) ?_
  exact kk _ _ _ _ _ _ _ _ _ ⟨gsP hP, gsD hD, hS⟩ (lv_sub hl [1, 2, 3, 4, 5] rfl) ⟨S2.mono (by omega), by omega, by omega⟩
set_option maxHeartbeats 4000000 in
set_option maxRecDepth 100000 in
theorem law_c11 {p : Program} {l : Launch} {e : Env} {s : State} {m : MethodId} {below : List Frame} {meth : Method} {c : Code} {b L : Nat} {xs : Nat → Int32} {G : va_G} {cI cL cZ cB : ClassId} (X : LX p l s m meth c b L xs G cI cL cZ cB) {Qf : Nat → Nat} {q bo lm t i : Nat} {iv : Int32} (hi : i + 5 ≤ L) (hiv : iv = Int32.ofNat i) (ht : t < 512) {H : Heap} {locs : List Loc} {ls : Array Slot} {A1 A2 : Nat → Nat} {z : Lo} {mm : Ms} {cells slots : Nat} (hI : LI s G cI cL cZ cB Qf q bo H locs A1 A2 z mm) (hl : lv_has ls 8 (lvL b Qf q bo iv)) (hB : LB lm t cells slots z mm)
    (kk : LK p l e s m below meth c b G cI cL cZ cB Qf q bo iv lm t) : W p l e room_1 s m #[Value.ref b] below meth c H locs cells slots (lw_Z below #[Value.ref b] s) (F0 m 928 ls []) := by
  obtain ⟨hx, hb, hr, hml, hown, hts, hX, hbl, hlocks, hl0, hK, hT, hN, hL⟩ := X
  obtain ⟨hP, hD, hS⟩ := hI
  obtain ⟨S, hc1, hs1⟩ := hB
  have FX : CallFix p m c code 8 s _ lwT RL := ⟨hx, hb, hml, hown, hts⟩
  have hA : ∀ q9 : Nat, s.heap.size ≤ q9 → lwA s q9 := fun _ h => h
  have hbA : ¬ lwA s b := Nat.not_le.mpr hbl
  have hKc : va_K G vwCl (ct cL cZ) s := hK.sub (tys' := ct cL cZ) [1, 2] rfl
  have h1 : vp_in (iv + 1) L := lw_in (k := 1) hi hL hiv (by omega) rfl
  have h2 : vp_in (iv + 2) L := lw_in (k := 2) hi hL hiv (by omega) rfl
  have h3 : vp_in (iv + 3) L := lw_in (k := 3) hi hL hiv (by omega) rfl
  have h4 : vp_in (iv + 4) L := lw_in (k := 4) hi hL hiv (by omega) rfl
  have hl : lv_has ls 8 [(0, .ref b), (1, .ref (Qf 0)), (2, .ref q), (3, .ref bo), (4, .int iv)] := hl
  obtain ⟨z2, m2, k, e1, e2, e3, S2, e5⟩ := J_shift (xs (iv + 1).toNatClampNeg) (xs (iv + 2).toNatClampNeg) (xs (iv + 3).toNatClampNeg) S
  have pm := PotM S2
  refine lv_aload_n hx hb dL_law_928 rfl (lv_at hl 1 rfl) ?_
  refine lv_aload_n hx hb dL_law_929 rfl (lv_at hl 0 rfl) ?_
  refine lv_iload hx hb dL_law_930 (lv_at hl 4 rfl) ?_
  refine lv_iconst (v := 1) hx hb dL_law_932 (by decide) ?_
  refine lv_iadd hx hb dL_law_933 ?_
  refine va_sld hx hb hX hbl hbA hS h1 dL_law_934 ?_
  refine lv_aload_n hx hb dL_law_935 rfl (lv_at hl 0 rfl) ?_
  refine lv_iload hx hb dL_law_936 (lv_at hl 4 rfl) ?_
  refine lv_iconst (v := 2) hx hb dL_law_938 (by decide) ?_
  refine lv_iadd hx hb dL_law_939 ?_
  refine va_sld hx hb hX hbl hbA hS h2 dL_law_940 ?_
  refine lv_aload_n hx hb dL_law_941 rfl (lv_at hl 0 rfl) ?_
  refine lv_iload hx hb dL_law_942 (lv_at hl 4 rfl) ?_
  refine lv_iconst (v := 3) hx hb dL_law_944 (by decide) ?_
  refine lv_iadd hx hb dL_law_945 ?_
  refine va_sld hx hb hX hbl hbA hS h3 dL_law_946 ?_
  refine gfWi (gSn FX [.ref (Qf 0), .int (xs (iv + 1).toNatClampNeg), .int (xs (iv + 2).toNatClampNeg), .int (xs (iv + 3).toNatClampNeg)] (c_la_shift l hl0 G cL cZ Qf bo A1 z _ (xs (iv + 1).toNatClampNeg) (xs (iv + 2).toNatClampNeg) (xs (iv + 3).toNatClampNeg) (z2, k) e1) (vx_cwSW 4 hts (gi_SU wq_94 wq_95 wq_96 wq_97) rfl rfl rfl hdU_L_shift ⟨(Nat.le_of_ble_eq_true rfl), (Nat.le_of_ble_eq_true rfl)⟩) hKc (gPl hP) (gDl hD) hT hN hS hA rfl hl.1 (Nat.le_of_ble_eq_true rfl) dL_law_947 ⟨by show _ ≤ 601024; omega, by show _ ≤ 7293000; omega⟩) hP hS hD hA (fun A1 H locs hP hD hS => ?_)
  refine lv_istore (lv' := [(5, .int k), (0, .ref b), (1, .ref (Qf 0)), (2, .ref q), (3, .ref bo), (4, .int iv)]) hx hb dL_law_950 hl (by decide) rfl (fun ls hl => ?_)
  refine lv_aload_n hx hb dL_law_952 rfl (lv_at hl 3 rfl) ?_
  refine lv_aload_n hx hb dL_law_953 rfl (lv_at hl 1 rfl) ?_
  refine lv_iload hx hb dL_law_954 (lv_at hl 5 rfl) ?_
  refine lv_iconst (v := 1) hx hb dL_law_956 (by decide) ?_
  refine lv_iadd hx hb dL_law_957 ?_
  refine va_sld hx hb hX hbl hbA hS h1 dL_law_958 ?_
  refine lv_aload_n hx hb dL_law_959 rfl (lv_at hl 1 rfl) ?_
  refine lv_iload hx hb dL_law_960 (lv_at hl 5 rfl) ?_
  refine lv_iconst (v := 2) hx hb dL_law_962 (by decide) ?_
  refine lv_iadd hx hb dL_law_963 ?_
  refine va_sld hx hb hX hbl hbA hS h2 dL_law_964 ?_
  refine lv_aload_n hx hb dL_law_965 rfl (lv_at hl 1 rfl) ?_
  refine lv_iload hx hb dL_law_966 (lv_at hl 5 rfl) ?_
  refine lv_iconst (v := 3) hx hb dL_law_968 (by decide) ?_
  refine lv_iadd hx hb dL_law_969 ?_
  refine va_sld hx hb hX hbl hbA hS h3 dL_law_970 ?_
  have hP := gsP hP
  have hD := gsD hD
  refine gfWv (gV FX [.int (xs (iv + 1).toNatClampNeg), .int (xs (iv + 2).toNatClampNeg), .int (xs (iv + 3).toNatClampNeg)] (c_md_shift l G cI cL cZ cB q A2 mm _ (xs (iv + 1).toNatClampNeg) (xs (iv + 2).toNatClampNeg) (xs (iv + 3).toNatClampNeg) (m2, ()) e2) (cwV 3 hts (gi_V wq_98 wq_99 wq_100 wq_8 wq_101) rfl rfl rfl hdV_X4_shift ⟨(Nat.le_of_ble_eq_true rfl), (Nat.le_of_ble_eq_true rfl)⟩) hK (gPl hP) (gDl hD) 0 rfl rfl rfl hl.1 (Nat.le_of_ble_eq_true rfl) dL_law_971 ⟨by show _ ≤ 601024; omega, by show _ ≤ 7293000; omega⟩) hP hS hD hA (fun A2 H locs hP hD hS => ?_)
  refine lv_aload_n hx hb dL_law_974 rfl (lv_at hl 3 rfl) ?_
  refine gfRi (gV FX [] (c_md_thrown l G cI cL cZ cB q A2 m2 _ (Ms.thr m2) rfl) (cwV 0 hts (gi_V wq_10 wq_11 wq_12 wq_8 wq_13) rfl rfl rfl hdV_X4_thrown ⟨(Nat.le_of_ble_eq_true rfl), (Nat.le_of_ble_eq_true rfl)⟩) hK (gPl hP) (gDl hD) 0 rfl rfl rfl hl.1 (Nat.le_of_ble_eq_true rfl) dL_law_975 ⟨by show _ ≤ 601024; omega, by show _ ≤ 7293000; omega⟩) hP hS hD hA (fun H locs hP hS => ?_)
  refine lv_iload hx hb dL_law_978 (lv_at hl 0 rfl) ?_
  refine lv_icmp_eq (tgt := 985) hx hb dL_law_980 (by decide) (fun _ => ?_) (fun h9 => absurd e3 h9)
  refine lv_goto (tgt := 1806) hx hb dL_law_985 (by decide) ?_
  exact kk _ _ _ _ _ _ _ _ _ ⟨gsP hP, gsD hD, hS⟩ (lv_sub hl [1, 2, 3, 4, 5] rfl) ⟨S2.mono (by omega), by omega, by omega⟩
set_option maxHeartbeats 4000000 in
set_option maxRecDepth 100000 in
theorem law_c12 {p : Program} {l : Launch} {e : Env} {s : State} {m : MethodId} {below : List Frame} {meth : Method} {c : Code} {b L : Nat} {xs : Nat → Int32} {G : va_G} {cI cL cZ cB : ClassId} (X : LX p l s m meth c b L xs G cI cL cZ cB) {Qf : Nat → Nat} {q bo lm t i : Nat} {iv : Int32} (hi : i + 5 ≤ L) (hiv : iv = Int32.ofNat i) (ht : t < 512) {H : Heap} {locs : List Loc} {ls : Array Slot} {A1 A2 : Nat → Nat} {z : Lo} {mm : Ms} {cells slots : Nat} (hI : LI s G cI cL cZ cB Qf q bo H locs A1 A2 z mm) (hl : lv_has ls 8 (lvL b Qf q bo iv)) (hB : LB lm t cells slots z mm)
    (kk : LK p l e s m below meth c b G cI cL cZ cB Qf q bo iv lm t) : W p l e room_1 s m #[Value.ref b] below meth c H locs cells slots (lw_Z below #[Value.ref b] s) (F0 m 988 ls []) := by
  obtain ⟨hx, hb, hr, hml, hown, hts, hX, hbl, hlocks, hl0, hK, hT, hN, hL⟩ := X
  obtain ⟨hP, hD, hS⟩ := hI
  obtain ⟨S, hc1, hs1⟩ := hB
  have FX : CallFix p m c code 8 s _ lwT RL := ⟨hx, hb, hml, hown, hts⟩
  have hA : ∀ q9 : Nat, s.heap.size ≤ q9 → lwA s q9 := fun _ h => h
  have hbA : ¬ lwA s b := Nat.not_le.mpr hbl
  have hKc : va_K G vwCl (ct cL cZ) s := hK.sub (tys' := ct cL cZ) [1, 2] rfl
  have h1 : vp_in (iv + 1) L := lw_in (k := 1) hi hL hiv (by omega) rfl
  have h2 : vp_in (iv + 2) L := lw_in (k := 2) hi hL hiv (by omega) rfl
  have h3 : vp_in (iv + 3) L := lw_in (k := 3) hi hL hiv (by omega) rfl
  have h4 : vp_in (iv + 4) L := lw_in (k := 4) hi hL hiv (by omega) rfl
  have hl : lv_has ls 8 [(0, .ref b), (1, .ref (Qf 0)), (2, .ref q), (3, .ref bo), (4, .int iv)] := hl
  obtain ⟨z2, m2, k, e1, e2, e3, S2, e5⟩ := J_load (xs (iv + 1).toNatClampNeg) (xs (iv + 2).toNatClampNeg) (xs (iv + 3).toNatClampNeg) S
  have pm := PotM S2
  refine lv_aload_n hx hb dL_law_988 rfl (lv_at hl 1 rfl) ?_
  refine lv_aload_n hx hb dL_law_989 rfl (lv_at hl 0 rfl) ?_
  refine lv_iload hx hb dL_law_990 (lv_at hl 4 rfl) ?_
  refine lv_iconst (v := 1) hx hb dL_law_992 (by decide) ?_
  refine lv_iadd hx hb dL_law_993 ?_
  refine va_sld hx hb hX hbl hbA hS h1 dL_law_994 ?_
  refine lv_aload_n hx hb dL_law_995 rfl (lv_at hl 0 rfl) ?_
  refine lv_iload hx hb dL_law_996 (lv_at hl 4 rfl) ?_
  refine lv_iconst (v := 2) hx hb dL_law_998 (by decide) ?_
  refine lv_iadd hx hb dL_law_999 ?_
  refine va_sld hx hb hX hbl hbA hS h2 dL_law_1000 ?_
  refine lv_aload_n hx hb dL_law_1001 rfl (lv_at hl 0 rfl) ?_
  refine lv_iload hx hb dL_law_1002 (lv_at hl 4 rfl) ?_
  refine lv_iconst (v := 3) hx hb dL_law_1004 (by decide) ?_
  refine lv_iadd hx hb dL_law_1005 ?_
  refine va_sld hx hb hX hbl hbA hS h3 dL_law_1006 ?_
  refine gfWi (gSn FX [.ref (Qf 0), .int (xs (iv + 1).toNatClampNeg), .int (xs (iv + 2).toNatClampNeg), .int (xs (iv + 3).toNatClampNeg)] (c_la_load l hl0 G cL cZ Qf bo A1 z _ (xs (iv + 1).toNatClampNeg) (xs (iv + 2).toNatClampNeg) (xs (iv + 3).toNatClampNeg) (z2, k) e1) (vx_cwSW 4 hts (gi_SU wq_102 wq_103 wq_104 wq_105) rfl rfl rfl hdU_L_load ⟨(Nat.le_of_ble_eq_true rfl), (Nat.le_of_ble_eq_true rfl)⟩) hKc (gPl hP) (gDl hD) hT hN hS hA rfl hl.1 (Nat.le_of_ble_eq_true rfl) dL_law_1007 ⟨by show _ ≤ 601024; omega, by show _ ≤ 7293000; omega⟩) hP hS hD hA (fun A1 H locs hP hD hS => ?_)
  refine lv_istore (lv' := [(5, .int k), (0, .ref b), (1, .ref (Qf 0)), (2, .ref q), (3, .ref bo), (4, .int iv)]) hx hb dL_law_1010 hl (by decide) rfl (fun ls hl => ?_)
  refine lv_aload_n hx hb dL_law_1012 rfl (lv_at hl 3 rfl) ?_
  refine lv_aload_n hx hb dL_law_1013 rfl (lv_at hl 1 rfl) ?_
  refine lv_iload hx hb dL_law_1014 (lv_at hl 5 rfl) ?_
  refine lv_iconst (v := 1) hx hb dL_law_1016 (by decide) ?_
  refine lv_iadd hx hb dL_law_1017 ?_
  refine va_sld hx hb hX hbl hbA hS h1 dL_law_1018 ?_
  refine lv_aload_n hx hb dL_law_1019 rfl (lv_at hl 1 rfl) ?_
  refine lv_iload hx hb dL_law_1020 (lv_at hl 5 rfl) ?_
  refine lv_iconst (v := 2) hx hb dL_law_1022 (by decide) ?_
  refine lv_iadd hx hb dL_law_1023 ?_
  refine va_sld hx hb hX hbl hbA hS h2 dL_law_1024 ?_
  refine lv_aload_n hx hb dL_law_1025 rfl (lv_at hl 1 rfl) ?_
  refine lv_iload hx hb dL_law_1026 (lv_at hl 5 rfl) ?_
  refine lv_iconst (v := 3) hx hb dL_law_1028 (by decide) ?_
  refine lv_iadd hx hb dL_law_1029 ?_
  refine va_sld hx hb hX hbl hbA hS h3 dL_law_1030 ?_
  have hP := gsP hP
  have hD := gsD hD
  refine gfWv (gV FX [.int (xs (iv + 1).toNatClampNeg), .int (xs (iv + 2).toNatClampNeg), .int (xs (iv + 3).toNatClampNeg)] (c_md_load l G cI cL cZ cB q A2 mm _ (xs (iv + 1).toNatClampNeg) (xs (iv + 2).toNatClampNeg) (xs (iv + 3).toNatClampNeg) (m2, ()) e2) (cwV 3 hts (gi_V wq_106 wq_107 wq_108 wq_8 wq_109) rfl rfl rfl hdV_X4_load ⟨(Nat.le_of_ble_eq_true rfl), (Nat.le_of_ble_eq_true rfl)⟩) hK (gPl hP) (gDl hD) 0 rfl rfl rfl hl.1 (Nat.le_of_ble_eq_true rfl) dL_law_1031 ⟨by show _ ≤ 601024; omega, by show _ ≤ 7293000; omega⟩) hP hS hD hA (fun A2 H locs hP hD hS => ?_)
  refine lv_aload_n hx hb dL_law_1034 rfl (lv_at hl 3 rfl) ?_
  refine gfRi (gV FX [] (c_md_thrown l G cI cL cZ cB q A2 m2 _ (Ms.thr m2) rfl) (cwV 0 hts (gi_V wq_10 wq_11 wq_12 wq_8 wq_13) rfl rfl rfl hdV_X4_thrown ⟨(Nat.le_of_ble_eq_true rfl), (Nat.le_of_ble_eq_true rfl)⟩) hK (gPl hP) (gDl hD) 0 rfl rfl rfl hl.1 (Nat.le_of_ble_eq_true rfl) dL_law_1035 ⟨by show _ ≤ 601024; omega, by show _ ≤ 7293000; omega⟩) hP hS hD hA (fun H locs hP hS => ?_)
  refine lv_iload hx hb dL_law_1038 (lv_at hl 0 rfl) ?_
  refine lv_icmp_eq (tgt := 1045) hx hb dL_law_1040 (by decide) (fun _ => ?_) (fun h9 => absurd e3 h9)
  refine lv_goto (tgt := 1806) hx hb dL_law_1045 (by decide) ?_
  exact kk _ _ _ _ _ _ _ _ _ ⟨gsP hP, gsD hD, hS⟩ (lv_sub hl [1, 2, 3, 4, 5] rfl) ⟨S2.mono (by omega), by omega, by omega⟩
set_option maxHeartbeats 4000000 in
set_option maxRecDepth 100000 in
theorem law_c13 {p : Program} {l : Launch} {e : Env} {s : State} {m : MethodId} {below : List Frame} {meth : Method} {c : Code} {b L : Nat} {xs : Nat → Int32} {G : va_G} {cI cL cZ cB : ClassId} (X : LX p l s m meth c b L xs G cI cL cZ cB) {Qf : Nat → Nat} {q bo lm t i : Nat} {iv : Int32} (hi : i + 5 ≤ L) (hiv : iv = Int32.ofNat i) (ht : t < 512) {H : Heap} {locs : List Loc} {ls : Array Slot} {A1 A2 : Nat → Nat} {z : Lo} {mm : Ms} {cells slots : Nat} (hI : LI s G cI cL cZ cB Qf q bo H locs A1 A2 z mm) (hl : lv_has ls 8 (lvL b Qf q bo iv)) (hB : LB lm t cells slots z mm)
    (kk : LK p l e s m below meth c b G cI cL cZ cB Qf q bo iv lm t) : W p l e room_1 s m #[Value.ref b] below meth c H locs cells slots (lw_Z below #[Value.ref b] s) (F0 m 1048 ls []) := by
  obtain ⟨hx, hb, hr, hml, hown, hts, hX, hbl, hlocks, hl0, hK, hT, hN, hL⟩ := X
  obtain ⟨hP, hD, hS⟩ := hI
  obtain ⟨S, hc1, hs1⟩ := hB
  have FX : CallFix p m c code 8 s _ lwT RL := ⟨hx, hb, hml, hown, hts⟩
  have hA : ∀ q9 : Nat, s.heap.size ≤ q9 → lwA s q9 := fun _ h => h
  have hbA : ¬ lwA s b := Nat.not_le.mpr hbl
  have hKc : va_K G vwCl (ct cL cZ) s := hK.sub (tys' := ct cL cZ) [1, 2] rfl
  have h1 : vp_in (iv + 1) L := lw_in (k := 1) hi hL hiv (by omega) rfl
  have h2 : vp_in (iv + 2) L := lw_in (k := 2) hi hL hiv (by omega) rfl
  have h3 : vp_in (iv + 3) L := lw_in (k := 3) hi hL hiv (by omega) rfl
  have h4 : vp_in (iv + 4) L := lw_in (k := 4) hi hL hiv (by omega) rfl
  have hl : lv_has ls 8 [(0, .ref b), (1, .ref (Qf 0)), (2, .ref q), (3, .ref bo), (4, .int iv)] := hl
  obtain ⟨z2, m2, k, e1, e2, e3, S2, e5⟩ := J_store (xs (iv + 1).toNatClampNeg) (xs (iv + 2).toNatClampNeg) (xs (iv + 3).toNatClampNeg) S
  have pm := PotM S2
  refine lv_aload_n hx hb dL_law_1048 rfl (lv_at hl 1 rfl) ?_
  refine lv_aload_n hx hb dL_law_1049 rfl (lv_at hl 0 rfl) ?_
  refine lv_iload hx hb dL_law_1050 (lv_at hl 4 rfl) ?_
  refine lv_iconst (v := 1) hx hb dL_law_1052 (by decide) ?_
  refine lv_iadd hx hb dL_law_1053 ?_
  refine va_sld hx hb hX hbl hbA hS h1 dL_law_1054 ?_
  refine lv_aload_n hx hb dL_law_1055 rfl (lv_at hl 0 rfl) ?_
  refine lv_iload hx hb dL_law_1056 (lv_at hl 4 rfl) ?_
  refine lv_iconst (v := 2) hx hb dL_law_1058 (by decide) ?_
  refine lv_iadd hx hb dL_law_1059 ?_
  refine va_sld hx hb hX hbl hbA hS h2 dL_law_1060 ?_
  refine lv_aload_n hx hb dL_law_1061 rfl (lv_at hl 0 rfl) ?_
  refine lv_iload hx hb dL_law_1062 (lv_at hl 4 rfl) ?_
  refine lv_iconst (v := 3) hx hb dL_law_1064 (by decide) ?_
  refine lv_iadd hx hb dL_law_1065 ?_
  refine va_sld hx hb hX hbl hbA hS h3 dL_law_1066 ?_
  refine gfWi (gSn FX [.ref (Qf 0), .int (xs (iv + 1).toNatClampNeg), .int (xs (iv + 2).toNatClampNeg), .int (xs (iv + 3).toNatClampNeg)] (c_la_store l hl0 G cL cZ Qf bo A1 z _ (xs (iv + 1).toNatClampNeg) (xs (iv + 2).toNatClampNeg) (xs (iv + 3).toNatClampNeg) (z2, k) e1) (vx_cwSW 4 hts (gi_SU wq_110 wq_111 wq_112 wq_113) rfl rfl rfl hdU_L_store ⟨(Nat.le_of_ble_eq_true rfl), (Nat.le_of_ble_eq_true rfl)⟩) hKc (gPl hP) (gDl hD) hT hN hS hA rfl hl.1 (Nat.le_of_ble_eq_true rfl) dL_law_1067 ⟨by show _ ≤ 601024; omega, by show _ ≤ 7293000; omega⟩) hP hS hD hA (fun A1 H locs hP hD hS => ?_)
  refine lv_istore (lv' := [(5, .int k), (0, .ref b), (1, .ref (Qf 0)), (2, .ref q), (3, .ref bo), (4, .int iv)]) hx hb dL_law_1070 hl (by decide) rfl (fun ls hl => ?_)
  refine lv_aload_n hx hb dL_law_1072 rfl (lv_at hl 3 rfl) ?_
  refine lv_aload_n hx hb dL_law_1073 rfl (lv_at hl 1 rfl) ?_
  refine lv_iload hx hb dL_law_1074 (lv_at hl 5 rfl) ?_
  refine lv_iconst (v := 1) hx hb dL_law_1076 (by decide) ?_
  refine lv_iadd hx hb dL_law_1077 ?_
  refine va_sld hx hb hX hbl hbA hS h1 dL_law_1078 ?_
  refine lv_aload_n hx hb dL_law_1079 rfl (lv_at hl 1 rfl) ?_
  refine lv_iload hx hb dL_law_1080 (lv_at hl 5 rfl) ?_
  refine lv_iconst (v := 2) hx hb dL_law_1082 (by decide) ?_
  refine lv_iadd hx hb dL_law_1083 ?_
  refine va_sld hx hb hX hbl hbA hS h2 dL_law_1084 ?_
  refine lv_aload_n hx hb dL_law_1085 rfl (lv_at hl 1 rfl) ?_
  refine lv_iload hx hb dL_law_1086 (lv_at hl 5 rfl) ?_
  refine lv_iconst (v := 3) hx hb dL_law_1088 (by decide) ?_
  refine lv_iadd hx hb dL_law_1089 ?_
  refine va_sld hx hb hX hbl hbA hS h3 dL_law_1090 ?_
  have hP := gsP hP
  have hD := gsD hD
  refine gfWv (gV FX [.int (xs (iv + 1).toNatClampNeg), .int (xs (iv + 2).toNatClampNeg), .int (xs (iv + 3).toNatClampNeg)] (c_md_store l G cI cL cZ cB q A2 mm _ (xs (iv + 1).toNatClampNeg) (xs (iv + 2).toNatClampNeg) (xs (iv + 3).toNatClampNeg) (m2, ()) e2) (cwV 3 hts (gi_V wq_114 wq_115 wq_116 wq_8 wq_117) rfl rfl rfl hdV_X4_store ⟨(Nat.le_of_ble_eq_true rfl), (Nat.le_of_ble_eq_true rfl)⟩) hK (gPl hP) (gDl hD) 0 rfl rfl rfl hl.1 (Nat.le_of_ble_eq_true rfl) dL_law_1091 ⟨by show _ ≤ 601024; omega, by show _ ≤ 7293000; omega⟩) hP hS hD hA (fun A2 H locs hP hD hS => ?_)
  refine lv_aload_n hx hb dL_law_1094 rfl (lv_at hl 3 rfl) ?_
  refine gfRi (gV FX [] (c_md_thrown l G cI cL cZ cB q A2 m2 _ (Ms.thr m2) rfl) (cwV 0 hts (gi_V wq_10 wq_11 wq_12 wq_8 wq_13) rfl rfl rfl hdV_X4_thrown ⟨(Nat.le_of_ble_eq_true rfl), (Nat.le_of_ble_eq_true rfl)⟩) hK (gPl hP) (gDl hD) 0 rfl rfl rfl hl.1 (Nat.le_of_ble_eq_true rfl) dL_law_1095 ⟨by show _ ≤ 601024; omega, by show _ ≤ 7293000; omega⟩) hP hS hD hA (fun H locs hP hS => ?_)
  refine lv_iload hx hb dL_law_1098 (lv_at hl 0 rfl) ?_
  refine lv_icmp_eq (tgt := 1105) hx hb dL_law_1100 (by decide) (fun _ => ?_) (fun h9 => absurd e3 h9)
  refine lv_goto (tgt := 1806) hx hb dL_law_1105 (by decide) ?_
  exact kk _ _ _ _ _ _ _ _ _ ⟨gsP hP, gsD hD, hS⟩ (lv_sub hl [1, 2, 3, 4, 5] rfl) ⟨S2.mono (by omega), by omega, by omega⟩
