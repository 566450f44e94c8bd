set_option maxHeartbeats 4000000 in
set_option maxRecDepth 100000 in
theorem law_c14 {p : Program} {l : Launch} {e : Env} {s : State} {m : MethodId} {below : List Frame} {meth : Method} {c : Code} {b L : Nat} {xs : Nat → Int32} {G : va_G} {cI cL cZ cB : ClassId} (X : LX p l s m meth c b L xs G cI cL cZ cB) {Qf : Nat → Nat} {q bo lm t i : Nat} {iv : Int32} (hi : i + 5 ≤ L) (hiv : iv = Int32.ofNat i) (ht : t < 512) {H : Heap} {locs : List Loc} {ls : Array Slot} {A1 A2 : Nat → Nat} {z : Lo} {mm : Ms} {cells slots : Nat} (hI : LI s G cI cL cZ cB Qf q bo H locs A1 A2 z mm) (hl : lv_has ls 8 (lvL b Qf q bo iv)) (hB : LB lm t cells slots z mm)
    (kk : LK p l e s m below meth c b G cI cL cZ cB Qf q bo iv lm t) : W p l e room_1 s m #[Value.ref b] below meth c H locs cells slots (lw_Z below #[Value.ref b] s) (F0 m 1108 ls []) := by
  obtain ⟨hx, hb, hr, hml, hown, hts, hX, hbl, hlocks, hl0, hK, hT, hN, hL⟩ := X
  obtain ⟨hP, hD, hS⟩ := hI
  obtain ⟨S, hc1, hs1⟩ := hB
  have FX : CallFix p m c code 8 s _ lwT RL := ⟨hx, hb, hml, hown, hts⟩
  have hA : ∀ q9 : Nat, s.heap.size ≤ q9 → lwA s q9 := fun _ h => h
  have hbA : ¬ lwA s b := Nat.not_le.mpr hbl
  have hKc : va_K G vwCl (ct cL cZ) s := hK.sub (tys' := ct cL cZ) [1, 2] rfl
  have h1 : vp_in (iv + 1) L := lw_in (k := 1) hi hL hiv (by omega) rfl
  have h2 : vp_in (iv + 2) L := lw_in (k := 2) hi hL hiv (by omega) rfl
  have h3 : vp_in (iv + 3) L := lw_in (k := 3) hi hL hiv (by omega) rfl
  have h4 : vp_in (iv + 4) L := lw_in (k := 4) hi hL hiv (by omega) rfl
  have hl : lv_has ls 8 [(0, .ref b), (1, .ref (Qf 0)), (2, .ref q), (3, .ref bo), (4, .int iv)] := hl
  obtain ⟨z2, m2, k, e1, e2, e3, S2, e5⟩ := J_copy (xs (iv + 1).toNatClampNeg) (xs (iv + 2).toNatClampNeg) (xs (iv + 3).toNatClampNeg) S
  have pm := PotM S2
  refine lv_aload_n hx hb dL_law_1108 rfl (lv_at hl 1 rfl) ?_
  refine lv_aload_n hx hb dL_law_1109 rfl (lv_at hl 0 rfl) ?_
  refine lv_iload hx hb dL_law_1110 (lv_at hl 4 rfl) ?_
  refine lv_iconst (v := 1) hx hb dL_law_1112 (by decide) ?_
  refine lv_iadd hx hb dL_law_1113 ?_
  refine va_sld hx hb hX hbl hbA hS h1 dL_law_1114 ?_
  refine lv_aload_n hx hb dL_law_1115 rfl (lv_at hl 0 rfl) ?_
  refine lv_iload hx hb dL_law_1116 (lv_at hl 4 rfl) ?_
  refine lv_iconst (v := 2) hx hb dL_law_1118 (by decide) ?_
  refine lv_iadd hx hb dL_law_1119 ?_
  refine va_sld hx hb hX hbl hbA hS h2 dL_law_1120 ?_
  refine lv_aload_n hx hb dL_law_1121 rfl (lv_at hl 0 rfl) ?_
  refine lv_iload hx hb dL_law_1122 (lv_at hl 4 rfl) ?_
  refine lv_iconst (v := 3) hx hb dL_law_1124 (by decide) ?_
  refine lv_iadd hx hb dL_law_1125 ?_
  refine va_sld hx hb hX hbl hbA hS h3 dL_law_1126 ?_
  refine gfWi (gSn FX [.ref (Qf 0), .int (xs (iv + 1).toNatClampNeg), .int (xs (iv + 2).toNatClampNeg), .int (xs (iv + 3).toNatClampNeg)] (c_la_copy l hl0 G cL cZ Qf bo A1 z _ (xs (iv + 1).toNatClampNeg) (xs (iv + 2).toNatClampNeg) (xs (iv + 3).toNatClampNeg) (z2, k) e1) (vx_cwSW 4 hts (gi_SU wq_118 wq_119 wq_120 wq_121) rfl rfl rfl hdU_L_copy ⟨(Nat.le_of_ble_eq_true rfl), (Nat.le_of_ble_eq_true rfl)⟩) hKc (gPl hP) (gDl hD) hT hN hS hA rfl hl.1 (Nat.le_of_ble_eq_true rfl) dL_law_1127 ⟨by show _ ≤ 601024; omega, by show _ ≤ 7293000; omega⟩) hP hS hD hA (fun A1 H locs hP hD hS => ?_)
  refine lv_istore (lv' := [(5, .int k), (0, .ref b), (1, .ref (Qf 0)), (2, .ref q), (3, .ref bo), (4, .int iv)]) hx hb dL_law_1130 hl (by decide) rfl (fun ls hl => ?_)
  refine lv_aload_n hx hb dL_law_1132 rfl (lv_at hl 3 rfl) ?_
  refine lv_aload_n hx hb dL_law_1133 rfl (lv_at hl 1 rfl) ?_
  refine lv_iload hx hb dL_law_1134 (lv_at hl 5 rfl) ?_
  refine lv_iconst (v := 1) hx hb dL_law_1136 (by decide) ?_
  refine lv_iadd hx hb dL_law_1137 ?_
  refine va_sld hx hb hX hbl hbA hS h1 dL_law_1138 ?_
  refine lv_aload_n hx hb dL_law_1139 rfl (lv_at hl 1 rfl) ?_
  refine lv_iload hx hb dL_law_1140 (lv_at hl 5 rfl) ?_
  refine lv_iconst (v := 2) hx hb dL_law_1142 (by decide) ?_
  refine lv_iadd hx hb dL_law_1143 ?_
  refine va_sld hx hb hX hbl hbA hS h2 dL_law_1144 ?_
  refine lv_aload_n hx hb dL_law_1145 rfl (lv_at hl 1 rfl) ?_
  refine lv_iload hx hb dL_law_1146 (lv_at hl 5 rfl) ?_
  refine lv_iconst (v := 3) hx hb dL_law_1148 (by decide) ?_
  refine lv_iadd hx hb dL_law_1149 ?_
  refine va_sld hx hb hX hbl hbA hS h3 dL_law_1150 ?_
  have hP := gsP hP
  have hD := gsD hD
  refine gfWv (gV FX [.int (xs (iv + 1).toNatClampNeg), .int (xs (iv + 2).toNatClampNeg), .int (xs (iv + 3).toNatClampNeg)] (c_md_copy l G cI cL cZ cB q A2 mm _ (xs (iv + 1).toNatClampNeg) (xs (iv + 2).toNatClampNeg) (xs (iv + 3).toNatClampNeg) (m2, ()) e2) (cwV 3 hts (gi_V wq_122 wq_123 wq_124 wq_8 wq_125) rfl rfl rfl hdV_X4_copy ⟨(Nat.le_of_ble_eq_true rfl), (Nat.le_of_ble_eq_true rfl)⟩) hK (gPl hP) (gDl hD) 0 rfl rfl rfl hl.1 (Nat.le_of_ble_eq_true rfl) dL_law_1151 ⟨by show _ ≤ 601024; omega, by show _ ≤ 7293000; omega⟩) hP hS hD hA (fun A2 H locs hP hD hS => ?_)
  refine lv_aload_n hx hb dL_law_1154 rfl (lv_at hl 3 rfl) ?_
  refine gfRi (gV FX [] (c_md_thrown l G cI cL cZ cB q A2 m2 _ (Ms.thr m2) rfl) (cwV 0 hts (gi_V wq_10 wq_11 wq_12 wq_8 wq_13) rfl rfl rfl hdV_X4_thrown ⟨(Nat.le_of_ble_eq_true rfl), (Nat.le_of_ble_eq_true rfl)⟩) hK (gPl hP) (gDl hD) 0 rfl rfl rfl hl.1 (Nat.le_of_ble_eq_true rfl) dL_law_1155 ⟨by show _ ≤ 601024; omega, by show _ ≤ 7293000; omega⟩) hP hS hD hA (fun H locs hP hS => ?_)
  refine lv_iload hx hb dL_law_1158 (lv_at hl 0 rfl) ?_
  refine lv_icmp_eq (tgt := 1165) hx hb dL_law_1160 (by decide) (fun _ => ?_) (fun h9 => absurd e3 h9)
  refine lv_goto (tgt := 1806) hx hb dL_law_1165 (by decide) ?_
  exact kk _ _ _ _ _ _ _ _ _ ⟨gsP hP, gsD hD, hS⟩ (lv_sub hl [1, 2, 3, 4, 5] rfl) ⟨S2.mono (by omega), by omega, by omega⟩
set_option maxHeartbeats 4000000 in
set_option maxRecDepth 100000 in
theorem law_c15 {p : Program} {l : Launch} {e : Env} {s : State} {m : MethodId} {below : List Frame} {meth : Method} {c : Code} {b L : Nat} {xs : Nat → Int32} {G : va_G} {cI cL cZ cB : ClassId} (X : LX p l s m meth c b L xs G cI cL cZ cB) {Qf : Nat → Nat} {q bo lm t i : Nat} {iv : Int32} (hi : i + 5 ≤ L) (hiv : iv = Int32.ofNat i) (ht : t < 512) {H : Heap} {locs : List Loc} {ls : Array Slot} {A1 A2 : Nat → Nat} {z : Lo} {mm : Ms} {cells slots : Nat} (hI : LI s G cI cL cZ cB Qf q bo H locs A1 A2 z mm) (hl : lv_has ls 8 (lvL b Qf q bo iv)) (hB : LB lm t cells slots z mm)
    (kk : LK p l e s m below meth c b G cI cL cZ cB Qf q bo iv lm t) : W p l e room_1 s m #[Value.ref b] below meth c H locs cells slots (lw_Z below #[Value.ref b] s) (F0 m 1168 ls []) := by
  obtain ⟨hx, hb, hr, hml, hown, hts, hX, hbl, hlocks, hl0, hK, hT, hN, hL⟩ := X
  obtain ⟨hP, hD, hS⟩ := hI
  obtain ⟨S, hc1, hs1⟩ := hB
  have FX : CallFix p m c code 8 s _ lwT RL := ⟨hx, hb, hml, hown, hts⟩
  have hA : ∀ q9 : Nat, s.heap.size ≤ q9 → lwA s q9 := fun _ h => h
  have hbA : ¬ lwA s b := Nat.not_le.mpr hbl
  have hKc : va_K G vwCl (ct cL cZ) s := hK.sub (tys' := ct cL cZ) [1, 2] rfl
  have h1 : vp_in (iv + 1) L := lw_in (k := 1) hi hL hiv (by omega) rfl
  have h2 : vp_in (iv + 2) L := lw_in (k := 2) hi hL hiv (by omega) rfl
  have h3 : vp_in (iv + 3) L := lw_in (k := 3) hi hL hiv (by omega) rfl
  have h4 : vp_in (iv + 4) L := lw_in (k := 4) hi hL hiv (by omega) rfl
  have hl : lv_has ls 8 [(0, .ref b), (1, .ref (Qf 0)), (2, .ref q), (3, .ref bo), (4, .int iv)] := hl
  obtain ⟨c1, d1, z2, m2, k, bb, e1, e2, e3, e4, S2, e5⟩ := J_put (xs (iv + 1).toNatClampNeg) (xs (iv + 2).toNatClampNeg) S (by omega)
  have pm := PotM S2
  refine lv_aload_n hx hb dL_law_1168 rfl (lv_at hl 1 rfl) ?_
  refine lv_aload_n hx hb dL_law_1169 rfl (lv_at hl 0 rfl) ?_
  refine lv_iload hx hb dL_law_1170 (lv_at hl 4 rfl) ?_
  refine lv_iconst (v := 1) hx hb dL_law_1172 (by decide) ?_
  refine lv_iadd hx hb dL_law_1173 ?_
  refine va_sld hx hb hX hbl hbA hS h1 dL_law_1174 ?_
  refine lv_aload_n hx hb dL_law_1175 rfl (lv_at hl 0 rfl) ?_
  refine lv_iload hx hb dL_law_1176 (lv_at hl 4 rfl) ?_
  refine lv_iconst (v := 2) hx hb dL_law_1178 (by decide) ?_
  refine lv_iadd hx hb dL_law_1179 ?_
  refine va_sld hx hb hX hbl hbA hS h2 dL_law_1180 ?_
  refine lv_aload_n hx hb dL_law_1181 rfl (lv_at hl 3 rfl) ?_
  refine gfWi (gSn FX [.ref (Qf 0), .int (xs (iv + 1).toNatClampNeg), .int (xs (iv + 2).toNatClampNeg), .ref bo] (c_la_put l hl0 G cL cZ Qf bo A1 z _ (xs (iv + 1).toNatClampNeg) (xs (iv + 2).toNatClampNeg) c1 (z2, k) e1) (vx_cwSW 4 hts (gi_SU wq_126 wq_127 wq_128 wq_129) rfl rfl rfl hdU_L_put ⟨(Nat.le_of_ble_eq_true rfl), (Nat.le_of_ble_eq_true rfl)⟩) hKc (gPl hP) (gDl hD) hT hN hS hA rfl hl.1 (Nat.le_of_ble_eq_true rfl) dL_law_1182 ⟨by show _ ≤ 601024; omega, by show _ ≤ 7293000; omega⟩) hP hS hD hA (fun A1 H locs hP hD hS => ?_)
  refine lv_istore (lv' := [(5, .int k), (0, .ref b), (1, .ref (Qf 0)), (2, .ref q), (3, .ref bo), (4, .int iv)]) hx hb dL_law_1185 hl (by decide) rfl (fun ls hl => ?_)
  refine lv_aload_n hx hb dL_law_1187 rfl (lv_at hl 3 rfl) ?_
  refine lv_aload_n hx hb dL_law_1188 rfl (lv_at hl 1 rfl) ?_
  refine lv_iload hx hb dL_law_1189 (lv_at hl 5 rfl) ?_
  refine lv_iconst (v := 1) hx hb dL_law_1191 (by decide) ?_
  refine lv_iadd hx hb dL_law_1192 ?_
  refine va_sld hx hb hX hbl hbA hS h1 dL_law_1193 ?_
  refine lv_aload_n hx hb dL_law_1194 rfl (lv_at hl 1 rfl) ?_
  refine lv_iload hx hb dL_law_1195 (lv_at hl 5 rfl) ?_
  refine lv_iconst (v := 2) hx hb dL_law_1197 (by decide) ?_
  refine lv_iadd hx hb dL_law_1198 ?_
  refine va_sld hx hb hX hbl hbA hS h2 dL_law_1199 ?_
  have hP := gsP hP
  have hD := gsD hD
  refine gfWi (gV FX [.int (xs (iv + 1).toNatClampNeg), .int (xs (iv + 2).toNatClampNeg)] (c_md_put l G cI cL cZ cB q A2 mm _ (xs (iv + 1).toNatClampNeg) (xs (iv + 2).toNatClampNeg) d1 (m2, bb) e2) (cwV 2 hts (gi_V wq_130 wq_131 wq_132 wq_8 wq_133) rfl rfl rfl hdV_X4_put ⟨(Nat.le_of_ble_eq_true rfl), (Nat.le_of_ble_eq_true rfl)⟩) hK (gPl hP) (gDl hD) 0 rfl rfl rfl hl.1 (Nat.le_of_ble_eq_true rfl) dL_law_1200 ⟨by show _ ≤ 601024; omega, by show _ ≤ 7293000; omega⟩) hP hS hD hA (fun A2 H locs hP hD hS => ?_)
  refine lv_istore (lv' := [(6, .int bb), (5, .int k), (0, .ref b), (1, .ref (Qf 0)), (2, .ref q), (3, .ref bo), (4, .int iv)]) hx hb dL_law_1203 hl (by decide) rfl (fun ls hl => ?_)
  refine lv_aload_n hx hb dL_law_1205 rfl (lv_at hl 4 rfl) ?_
  refine gfRi (gV FX [] (c_md_thrown l G cI cL cZ cB q A2 m2 _ (Ms.thr m2) rfl) (cwV 0 hts (gi_V wq_10 wq_11 wq_12 wq_8 wq_13) rfl rfl rfl hdV_X4_thrown ⟨(Nat.le_of_ble_eq_true rfl), (Nat.le_of_ble_eq_true rfl)⟩) hK (gPl hP) (gDl hD) 0 rfl rfl rfl hl.1 (Nat.le_of_ble_eq_true rfl) dL_law_1206 ⟨by show _ ≤ 601024; omega, by show _ ≤ 7293000; omega⟩) hP hS hD hA (fun H locs hP hS => ?_)
  refine lv_iload hx hb dL_law_1209 (lv_at hl 1 rfl) ?_
  refine lv_icmp_eq (tgt := 1216) hx hb dL_law_1211 (by decide) (fun _ => ?_) (fun h9 => absurd e3 h9)
  refine lv_iload hx hb dL_law_1216 (lv_at hl 1 rfl) ?_
  refine lv_if_ne (tgt := 1233) hx hb dL_law_1218 (by decide) (fun _ => ?_) (fun hk0 => ?_)
  · refine lv_goto (tgt := 1806) hx hb dL_law_1233 (by decide) ?_
    exact kk _ _ _ _ _ _ _ _ _ ⟨gsP hP, gsD hD, hS⟩ (lv_sub hl [2, 3, 4, 5, 6] rfl) ⟨S2.mono (by omega), by omega, by omega⟩
  · refine lv_aload_n hx hb dL_law_1221 rfl (lv_at hl 5 rfl) ?_
    refine lv_iconst (v := 0) hx hb dL_law_1222 (by decide) ?_
    refine va_lald hx hb hK hP 31 1 rfl rfl (inb_in inb01) dL_law_1223 ?_
    refine lv_iload hx hb dL_law_1224 (lv_at hl 0 rfl) ?_
    refine lv_i2l hx hb dL_law_1226 rfl ?_
    refine W.lcmp hx hb dL_law_1227 ?_
    refine lv_if_eq (tgt := 1233) hx hb dL_law_1228 (by decide) (fun _ => ?_) (fun h9 => absurd (lgc0 (e4 hk0)) h9)
    refine lv_goto (tgt := 1806) hx hb dL_law_1233 (by decide) ?_
    exact kk _ _ _ _ _ _ _ _ _ ⟨gsP hP, gsD hD, hS⟩ (lv_sub hl [2, 3, 4, 5, 6] rfl) ⟨S2.mono (by omega), by omega, by omega⟩
set_option maxHeartbeats 4000000 in
set_option maxRecDepth 100000 in
theorem law_c16 {p : Program} {l : Launch} {e : Env} {s : State} {m : MethodId} {below : List Frame} {meth : Method} {c : Code} {b L : Nat} {xs : Nat → Int32} {G : va_G} {cI cL cZ cB : ClassId} (X : LX p l s m meth c b L xs G cI cL cZ cB) {Qf : Nat → Nat} {q bo lm t i : Nat} {iv : Int32} (hi : i + 5 ≤ L) (hiv : iv = Int32.ofNat i) (ht : t < 512) {H : Heap} {locs : List Loc} {ls : Array Slot} {A1 A2 : Nat → Nat} {z : Lo} {mm : Ms} {cells slots : Nat} (hI : LI s G cI cL cZ cB Qf q bo H locs A1 A2 z mm) (hl : lv_has ls 8 (lvL b Qf q bo iv)) (hB : LB lm t cells slots z mm)
    (kk : LK p l e s m below meth c b G cI cL cZ cB Qf q bo iv lm t) : W p l e room_1 s m #[Value.ref b] below meth c H locs cells slots (lw_Z below #[Value.ref b] s) (F0 m 1236 ls []) := by
  obtain ⟨hx, hb, hr, hml, hown, hts, hX, hbl, hlocks, hl0, hK, hT, hN, hL⟩ := X
  obtain ⟨hP, hD, hS⟩ := hI
  obtain ⟨S, hc1, hs1⟩ := hB
  have FX : CallFix p m c code 8 s _ lwT RL := ⟨hx, hb, hml, hown, hts⟩
  have hA : ∀ q9 : Nat, s.heap.size ≤ q9 → lwA s q9 := fun _ h => h
  have hbA : ¬ lwA s b := Nat.not_le.mpr hbl
  have hKc : va_K G vwCl (ct cL cZ) s := hK.sub (tys' := ct cL cZ) [1, 2] rfl
  have h1 : vp_in (iv + 1) L := lw_in (k := 1) hi hL hiv (by omega) rfl
  have h2 : vp_in (iv + 2) L := lw_in (k := 2) hi hL hiv (by omega) rfl
  have h3 : vp_in (iv + 3) L := lw_in (k := 3) hi hL hiv (by omega) rfl
  have h4 : vp_in (iv + 4) L := lw_in (k := 4) hi hL hiv (by omega) rfl
  have hl : lv_has ls 8 [(0, .ref b), (1, .ref (Qf 0)), (2, .ref q), (3, .ref bo), (4, .int iv)] := hl
  obtain ⟨z2, m2, k, bb, e1, e2, e3, e4, S2, e5⟩ := J_get (xs (iv + 1).toNatClampNeg) (xs (iv + 2).toNatClampNeg) S
  have pm := PotM S2
  refine lv_aload_n hx hb dL_law_1236 rfl (lv_at hl 1 rfl) ?_
  refine lv_aload_n hx hb dL_law_1237 rfl (lv_at hl 0 rfl) ?_
  refine lv_iload hx hb dL_law_1238 (lv_at hl 4 rfl) ?_
  refine lv_iconst (v := 1) hx hb dL_law_1240 (by decide) ?_
  refine lv_iadd hx hb dL_law_1241 ?_
  refine va_sld hx hb hX hbl hbA hS h1 dL_law_1242 ?_
  refine lv_aload_n hx hb dL_law_1243 rfl (lv_at hl 0 rfl) ?_
  refine lv_iload hx hb dL_law_1244 (lv_at hl 4 rfl) ?_
  refine lv_iconst (v := 2) hx hb dL_law_1246 (by decide) ?_
  refine lv_iadd hx hb dL_law_1247 ?_
  refine va_sld hx hb hX hbl hbA hS h2 dL_law_1248 ?_
  refine lv_aload_n hx hb dL_law_1249 rfl (lv_at hl 3 rfl) ?_
  refine gfWi (gSn FX [.ref (Qf 0), .int (xs (iv + 1).toNatClampNeg), .int (xs (iv + 2).toNatClampNeg), .ref bo] (c_la_get l hl0 G cL cZ Qf bo A1 z _ (xs (iv + 1).toNatClampNeg) (xs (iv + 2).toNatClampNeg) (z2, k) e1) (vx_cwSW 4 hts (gi_SU wq_134 wq_135 wq_136 wq_137) rfl rfl rfl hdU_L_get ⟨(Nat.le_of_ble_eq_true rfl), (Nat.le_of_ble_eq_true rfl)⟩) hKc (gPl hP) (gDl hD) hT hN hS hA rfl hl.1 (Nat.le_of_ble_eq_true rfl) dL_law_1250 ⟨by show _ ≤ 601024; omega, by show _ ≤ 7293000; omega⟩) hP hS hD hA (fun A1 H locs hP hD hS => ?_)
  refine lv_istore (lv' := [(5, .int k), (0, .ref b), (1, .ref (Qf 0)), (2, .ref q), (3, .ref bo), (4, .int iv)]) hx hb dL_law_1253 hl (by decide) rfl (fun ls hl => ?_)
  refine lv_aload_n hx hb dL_law_1255 rfl (lv_at hl 3 rfl) ?_
  refine lv_aload_n hx hb dL_law_1256 rfl (lv_at hl 1 rfl) ?_
  refine lv_iload hx hb dL_law_1257 (lv_at hl 5 rfl) ?_
  refine lv_iconst (v := 1) hx hb dL_law_1259 (by decide) ?_
  refine lv_iadd hx hb dL_law_1260 ?_
  refine va_sld hx hb hX hbl hbA hS h1 dL_law_1261 ?_
  refine lv_aload_n hx hb dL_law_1262 rfl (lv_at hl 1 rfl) ?_
  refine lv_iload hx hb dL_law_1263 (lv_at hl 5 rfl) ?_
  refine lv_iconst (v := 2) hx hb dL_law_1265 (by decide) ?_
  refine lv_iadd hx hb dL_law_1266 ?_
  refine va_sld hx hb hX hbl hbA hS h2 dL_law_1267 ?_
  have hP := gsP hP
  have hD := gsD hD
  refine gfWi (gV FX [.int (xs (iv + 1).toNatClampNeg), .int (xs (iv + 2).toNatClampNeg)] (c_md_get l G cI cL cZ cB q A2 mm _ (xs (iv + 1).toNatClampNeg) (xs (iv + 2).toNatClampNeg) (m2, bb) e2) (cwV 2 hts (gi_V wq_138 wq_139 wq_140 wq_8 wq_141) rfl rfl rfl hdV_X4_get ⟨(Nat.le_of_ble_eq_true rfl), (Nat.le_of_ble_eq_true rfl)⟩) hK (gPl hP) (gDl hD) 0 rfl rfl rfl hl.1 (Nat.le_of_ble_eq_true rfl) dL_law_1268 ⟨by show _ ≤ 601024; omega, by show _ ≤ 7293000; omega⟩) hP hS hD hA (fun A2 H locs hP hD hS => ?_)
  refine lv_istore (lv' := [(6, .int bb), (5, .int k), (0, .ref b), (1, .ref (Qf 0)), (2, .ref q), (3, .ref bo), (4, .int iv)]) hx hb dL_law_1271 hl (by decide) rfl (fun ls hl => ?_)
  refine lv_aload_n hx hb dL_law_1273 rfl (lv_at hl 4 rfl) ?_
  refine gfRi (gV FX [] (c_md_thrown l G cI cL cZ cB q A2 m2 _ (Ms.thr m2) rfl) (cwV 0 hts (gi_V wq_10 wq_11 wq_12 wq_8 wq_13) rfl rfl rfl hdV_X4_thrown ⟨(Nat.le_of_ble_eq_true rfl), (Nat.le_of_ble_eq_true rfl)⟩) hK (gPl hP) (gDl hD) 0 rfl rfl rfl hl.1 (Nat.le_of_ble_eq_true rfl) dL_law_1274 ⟨by show _ ≤ 601024; omega, by show _ ≤ 7293000; omega⟩) hP hS hD hA (fun H locs hP hS => ?_)
  refine lv_iload hx hb dL_law_1277 (lv_at hl 1 rfl) ?_
  refine lv_icmp_eq (tgt := 1284) hx hb dL_law_1279 (by decide) (fun _ => ?_) (fun h9 => absurd e3 h9)
  refine lv_iload hx hb dL_law_1284 (lv_at hl 1 rfl) ?_
  refine lv_if_ne (tgt := 1301) hx hb dL_law_1286 (by decide) (fun _ => ?_) (fun hk0 => ?_)
  · refine lv_goto (tgt := 1806) hx hb dL_law_1301 (by decide) ?_
    exact kk _ _ _ _ _ _ _ _ _ ⟨gsP hP, gsD hD, hS⟩ (lv_sub hl [2, 3, 4, 5, 6] rfl) ⟨S2.mono (by omega), by omega, by omega⟩
  · refine lv_aload_n hx hb dL_law_1289 rfl (lv_at hl 5 rfl) ?_
    refine lv_iconst (v := 0) hx hb dL_law_1290 (by decide) ?_
    refine va_lald hx hb hK hP 31 1 rfl rfl (inb_in inb01) dL_law_1291 ?_
    refine lv_iload hx hb dL_law_1292 (lv_at hl 0 rfl) ?_
    refine lv_i2l hx hb dL_law_1294 rfl ?_
    refine W.lcmp hx hb dL_law_1295 ?_
    refine lv_if_eq (tgt := 1301) hx hb dL_law_1296 (by decide) (fun _ => ?_) (fun h9 => absurd (lgc0 (e4 hk0)) h9)
    refine lv_goto (tgt := 1806) hx hb dL_law_1301 (by decide) ?_
    exact kk _ _ _ _ _ _ _ _ _ ⟨gsP hP, gsD hD, hS⟩ (lv_sub hl [2, 3, 4, 5, 6] rfl) ⟨S2.mono (by omega), by omega, by omega⟩
set_option maxHeartbeats 4000000 in
set_option maxRecDepth 100000 in
theorem law_c17 {p : Program} {l : Launch} {e : Env} {s : State} {m : MethodId} {below : List Frame} {meth : Method} {c : Code} {b L : Nat} {xs : Nat → Int32} {G : va_G} {cI cL cZ cB : ClassId} (X : LX p l s m meth c b L xs G cI cL cZ cB) {Qf : Nat → Nat} {q bo lm t i : Nat} {iv : Int32} (hi : i + 5 ≤ L) (hiv : iv = Int32.ofNat i) (ht : t < 512) {H : Heap} {locs : List Loc} {ls : Array Slot} {A1 A2 : Nat → Nat} {z : Lo} {mm : Ms} {cells slots : Nat} (hI : LI s G cI cL cZ cB Qf q bo H locs A1 A2 z mm) (hl : lv_has ls 8 (lvL b Qf q bo iv)) (hB : LB lm t cells slots z mm)
    (kk : LK p l e s m below meth c b G cI cL cZ cB Qf q bo iv lm t) : W p l e room_1 s m #[Value.ref b] below meth c H locs cells slots (lw_Z below #[Value.ref b] s) (F0 m 1304 ls []) := by
  obtain ⟨hx, hb, hr, hml, hown, hts, hX, hbl, hlocks, hl0, hK, hT, hN, hL⟩ := X
  obtain ⟨hP, hD, hS⟩ := hI
  obtain ⟨S, hc1, hs1⟩ := hB
  have FX : CallFix p m c code 8 s _ lwT RL := ⟨hx, hb, hml, hown, hts⟩
  have hA : ∀ q9 : Nat, s.heap.size ≤ q9 → lwA s q9 := fun _ h => h
  have hbA : ¬ lwA s b := Nat.not_le.mpr hbl
  have hKc : va_K G vwCl (ct cL cZ) s := hK.sub (tys' := ct cL cZ) [1, 2] rfl
  have h1 : vp_in (iv + 1) L := lw_in (k := 1) hi hL hiv (by omega) rfl
  have h2 : vp_in (iv + 2) L := lw_in (k := 2) hi hL hiv (by omega) rfl
  have h3 : vp_in (iv + 3) L := lw_in (k := 3) hi hL hiv (by omega) rfl
  have h4 : vp_in (iv + 4) L := lw_in (k := 4) hi hL hiv (by omega) rfl
  have hl : lv_has ls 8 [(0, .ref b), (1, .ref (Qf 0)), (2, .ref q), (3, .ref bo), (4, .int iv)] := hl
  obtain ⟨z2, m2, k, bb, e1, e2, e3, e4, S2, e5⟩ := J_remove (xs (iv + 1).toNatClampNeg) (xs (iv + 2).toNatClampNeg) S
  have pm := PotM S2
  refine lv_aload_n hx hb dL_law_1304 rfl (lv_at hl 1 rfl) ?_
  refine lv_aload_n hx hb dL_law_1305 rfl (lv_at hl 0 rfl) ?_
  refine lv_iload hx hb dL_law_1306 (lv_at hl 4 rfl) ?_
  refine lv_iconst (v := 1) hx hb dL_law_1308 (by decide) ?_
  refine lv_iadd hx hb dL_law_1309 ?_
  refine va_sld hx hb hX hbl hbA hS h1 dL_law_1310 ?_
  refine lv_aload_n hx hb dL_law_1311 rfl (lv_at hl 0 rfl) ?_
  refine lv_iload hx hb dL_law_1312 (lv_at hl 4 rfl) ?_
  refine lv_iconst (v := 2) hx hb dL_law_1314 (by decide) ?_
  refine lv_iadd hx hb dL_law_1315 ?_
  refine va_sld hx hb hX hbl hbA hS h2 dL_law_1316 ?_
  refine lv_aload_n hx hb dL_law_1317 rfl (lv_at hl 3 rfl) ?_
  refine gfWi (gSn FX [.ref (Qf 0), .int (xs (iv + 1).toNatClampNeg), .int (xs (iv + 2).toNatClampNeg), .ref bo] (c_la_remove l hl0 G cL cZ Qf bo A1 z _ (xs (iv + 1).toNatClampNeg) (xs (iv + 2).toNatClampNeg) (z2, k) e1) (vx_cwSW 4 hts (gi_SU wq_142 wq_143 wq_144 wq_145) rfl rfl rfl hdU_L_remove ⟨(Nat.le_of_ble_eq_true rfl), (Nat.le_of_ble_eq_true rfl)⟩) hKc (gPl hP) (gDl hD) hT hN hS hA rfl hl.1 (Nat.le_of_ble_eq_true rfl) dL_law_1318 ⟨by show _ ≤ 601024; omega, by show _ ≤ 7293000; omega⟩) hP hS hD hA (fun A1 H locs hP hD hS => ?_)
  refine lv_istore (lv' := [(5, .int k), (0, .ref b), (1, .ref (Qf 0)), (2, .ref q), (3, .ref bo), (4, .int iv)]) hx hb dL_law_1321 hl (by decide) rfl (fun ls hl => ?_)
  refine lv_aload_n hx hb dL_law_1323 rfl (lv_at hl 3 rfl) ?_
  refine lv_aload_n hx hb dL_law_1324 rfl (lv_at hl 1 rfl) ?_
  refine lv_iload hx hb dL_law_1325 (lv_at hl 5 rfl) ?_
  refine lv_iconst (v := 1) hx hb dL_law_1327 (by decide) ?_
  refine lv_iadd hx hb dL_law_1328 ?_
  refine va_sld hx hb hX hbl hbA hS h1 dL_law_1329 ?_
  refine lv_aload_n hx hb dL_law_1330 rfl (lv_at hl 1 rfl) ?_
  refine lv_iload hx hb dL_law_1331 (lv_at hl 5 rfl) ?_
  refine lv_iconst (v := 2) hx hb dL_law_1333 (by decide) ?_
  refine lv_iadd hx hb dL_law_1334 ?_
  refine va_sld hx hb hX hbl hbA hS h2 dL_law_1335 ?_
  have hP := gsP hP
  have hD := gsD hD
  refine gfWi (gV FX [.int (xs (iv + 1).toNatClampNeg), .int (xs (iv + 2).toNatClampNeg)] (c_md_remove l G cI cL cZ cB q A2 mm _ (xs (iv + 1).toNatClampNeg) (xs (iv + 2).toNatClampNeg) (m2, bb) e2) (cwV 2 hts (gi_V wq_146 wq_147 wq_148 wq_8 wq_149) rfl rfl rfl hdV_X4_remove ⟨(Nat.le_of_ble_eq_true rfl), (Nat.le_of_ble_eq_true rfl)⟩) hK (gPl hP) (gDl hD) 0 rfl rfl rfl hl.1 (Nat.le_of_ble_eq_true rfl) dL_law_1336 ⟨by show _ ≤ 601024; omega, by show _ ≤ 7293000; omega⟩) hP hS hD hA (fun A2 H locs hP hD hS => ?_)
  refine lv_istore (lv' := [(6, .int bb), (5, .int k), (0, .ref b), (1, .ref (Qf 0)), (2, .ref q), (3, .ref bo), (4, .int iv)]) hx hb dL_law_1339 hl (by decide) rfl (fun ls hl => ?_)
  refine lv_aload_n hx hb dL_law_1341 rfl (lv_at hl 4 rfl) ?_
  refine gfRi (gV FX [] (c_md_thrown l G cI cL cZ cB q A2 m2 _ (Ms.thr m2) rfl) (cwV 0 hts (gi_V wq_10 wq_11 wq_12 wq_8 wq_13) rfl rfl rfl hdV_X4_thrown ⟨(Nat.le_of_ble_eq_true rfl), (Nat.le_of_ble_eq_true rfl)⟩) hK (gPl hP) (gDl hD) 0 rfl rfl rfl hl.1 (Nat.le_of_ble_eq_true rfl) dL_law_1342 ⟨by show _ ≤ 601024; omega, by show _ ≤ 7293000; omega⟩) hP hS hD hA (fun H locs hP hS => ?_)
  refine lv_iload hx hb dL_law_1345 (lv_at hl 1 rfl) ?_
  refine lv_icmp_eq (tgt := 1352) hx hb dL_law_1347 (by decide) (fun _ => ?_) (fun h9 => absurd e3 h9)
  refine lv_iload hx hb dL_law_1352 (lv_at hl 1 rfl) ?_
  refine lv_if_ne (tgt := 1369) hx hb dL_law_1354 (by decide) (fun _ => ?_) (fun hk0 => ?_)
  · refine lv_goto (tgt := 1806) hx hb dL_law_1369 (by decide) ?_
    exact kk _ _ _ _ _ _ _ _ _ ⟨gsP hP, gsD hD, hS⟩ (lv_sub hl [2, 3, 4, 5, 6] rfl) ⟨S2.mono (by omega), by omega, by omega⟩
  · refine lv_aload_n hx hb dL_law_1357 rfl (lv_at hl 5 rfl) ?_
    refine lv_iconst (v := 0) hx hb dL_law_1358 (by decide) ?_
    refine va_lald hx hb hK hP 31 1 rfl rfl (inb_in inb01) dL_law_1359 ?_
    refine lv_iload hx hb dL_law_1360 (lv_at hl 0 rfl) ?_
    refine lv_i2l hx hb dL_law_1362 rfl ?_
    refine W.lcmp hx hb dL_law_1363 ?_
    refine lv_if_eq (tgt := 1369) hx hb dL_law_1364 (by decide) (fun _ => ?_) (fun h9 => absurd (lgc0 (e4 hk0)) h9)
    refine lv_goto (tgt := 1806) hx hb dL_law_1369 (by decide) ?_
    exact kk _ _ _ _ _ _ _ _ _ ⟨gsP hP, gsD hD, hS⟩ (lv_sub hl [2, 3, 4, 5, 6] rfl) ⟨S2.mono (by omega), by omega, by omega⟩
set_option maxHeartbeats 4000000 in
set_option maxRecDepth 100000 in
theorem law_c18 {p : Program} {l : Launch} {e : Env} {s : State} {m : MethodId} {below : List Frame} {meth : Method} {c : Code} {b L : Nat} {xs : Nat → Int32} {G : va_G} {cI cL cZ cB : ClassId} (X : LX p l s m meth c b L xs G cI cL cZ cB) {Qf : Nat → Nat} {q bo lm t i : Nat} {iv : Int32} (hi : i + 5 ≤ L) (hiv : iv = Int32.ofNat i) (ht : t < 512) {H : Heap} {locs : List Loc} {ls : Array Slot} {A1 A2 : Nat → Nat} {z : Lo} {mm : Ms} {cells slots : Nat} (hI : LI s G cI cL cZ cB Qf q bo H locs A1 A2 z mm) (hl : lv_has ls 8 (lvL b Qf q bo iv)) (hB : LB lm t cells slots z mm)
    (kk : LK p l e s m below meth c b G cI cL cZ cB Qf q bo iv lm t) : W p l e room_1 s m #[Value.ref b] below meth c H locs cells slots (lw_Z below #[Value.ref b] s) (F0 m 1372 ls []) := by
  obtain ⟨hx, hb, hr, hml, hown, hts, hX, hbl, hlocks, hl0, hK, hT, hN, hL⟩ := X
  obtain ⟨hP, hD, hS⟩ := hI
  obtain ⟨S, hc1, hs1⟩ := hB
  have FX : CallFix p m c code 8 s _ lwT RL := ⟨hx, hb, hml, hown, hts⟩
  have hA : ∀ q9 : Nat, s.heap.size ≤ q9 → lwA s q9 := fun _ h => h
  have hbA : ¬ lwA s b := Nat.not_le.mpr hbl
  have hKc : va_K G vwCl (ct cL cZ) s := hK.sub (tys' := ct cL cZ) [1, 2] rfl
  have h1 : vp_in (iv + 1) L := lw_in (k := 1) hi hL hiv (by omega) rfl
  have h2 : vp_in (iv + 2) L := lw_in (k := 2) hi hL hiv (by omega) rfl
  have h3 : vp_in (iv + 3) L := lw_in (k := 3) hi hL hiv (by omega) rfl
  have h4 : vp_in (iv + 4) L := lw_in (k := 4) hi hL hiv (by omega) rfl
  have hl : lv_has ls 8 [(0, .ref b), (1, .ref (Qf 0)), (2, .ref q), (3, .ref bo), (4, .int iv)] := hl
  obtain ⟨z2, m2, k, bb, e1, e2, e3, e4, S2, e5⟩ := J_next (xs (iv + 1).toNatClampNeg) (xs (iv + 2).toNatClampNeg) S
  have pm := PotM S2
  refine lv_aload_n hx hb dL_law_1372 rfl (lv_at hl 1 rfl) ?_
  refine lv_aload_n hx hb dL_law_1373 rfl (lv_at hl 0 rfl) ?_
  refine lv_iload hx hb dL_law_1374 (lv_at hl 4 rfl) ?_
  refine lv_iconst (v := 1) hx hb dL_law_1376 (by decide) ?_
  refine lv_iadd hx hb dL_law_1377 ?_
  refine va_sld hx hb hX hbl hbA hS h1 dL_law_1378 ?_
  refine lv_aload_n hx hb dL_law_1379 rfl (lv_at hl 0 rfl) ?_
  refine lv_iload hx hb dL_law_1380 (lv_at hl 4 rfl) ?_
  refine lv_iconst (v := 2) hx hb dL_law_1382 (by decide) ?_
  refine lv_iadd hx hb dL_law_1383 ?_
  refine va_sld hx hb hX hbl hbA hS h2 dL_law_1384 ?_
  refine lv_aload_n hx hb dL_law_1385 rfl (lv_at hl 3 rfl) ?_
  refine gfWi (gSn FX [.ref (Qf 0), .int (xs (iv + 1).toNatClampNeg), .int (xs (iv + 2).toNatClampNeg), .ref bo] (c_la_next l hl0 G cL cZ Qf bo A1 z _ (xs (iv + 1).toNatClampNeg) (xs (iv + 2).toNatClampNeg) (z2, k) e1) (vx_cwSW 4 hts (gi_SU wq_150 wq_151 wq_152 wq_153) rfl rfl rfl hdU_L_next ⟨(Nat.le_of_ble_eq_true rfl), (Nat.le_of_ble_eq_true rfl)⟩) hKc (gPl hP) (gDl hD) hT hN hS hA rfl hl.1 (Nat.le_of_ble_eq_true rfl) dL_law_1386 ⟨by show _ ≤ 601024; omega, by show _ ≤ 7293000; omega⟩) hP hS hD hA (fun A1 H locs hP hD hS => ?_)
  refine lv_istore (lv' := [(5, .int k), (0, .ref b), (1, .ref (Qf 0)), (2, .ref q), (3, .ref bo), (4, .int iv)]) hx hb dL_law_1389 hl (by decide) rfl (fun ls hl => ?_)
  refine lv_aload_n hx hb dL_law_1391 rfl (lv_at hl 3 rfl) ?_
  refine lv_aload_n hx hb dL_law_1392 rfl (lv_at hl 1 rfl) ?_
  refine lv_iload hx hb dL_law_1393 (lv_at hl 5 rfl) ?_
  refine lv_iconst (v := 1) hx hb dL_law_1395 (by decide) ?_
  refine lv_iadd hx hb dL_law_1396 ?_
  refine va_sld hx hb hX hbl hbA hS h1 dL_law_1397 ?_
  refine lv_aload_n hx hb dL_law_1398 rfl (lv_at hl 1 rfl) ?_
  refine lv_iload hx hb dL_law_1399 (lv_at hl 5 rfl) ?_
  refine lv_iconst (v := 2) hx hb dL_law_1401 (by decide) ?_
  refine lv_iadd hx hb dL_law_1402 ?_
  refine va_sld hx hb hX hbl hbA hS h2 dL_law_1403 ?_
  have hP := gsP hP
  have hD := gsD hD
  refine gfWi (gV FX [.int (xs (iv + 1).toNatClampNeg), .int (xs (iv + 2).toNatClampNeg)] (c_md_next l G cI cL cZ cB q A2 mm _ (xs (iv + 1).toNatClampNeg) (xs (iv + 2).toNatClampNeg) (m2, bb) e2) (cwV 2 hts (gi_V wq_154 wq_155 wq_156 wq_8 wq_157) rfl rfl rfl hdV_X4_next ⟨(Nat.le_of_ble_eq_true rfl), (Nat.le_of_ble_eq_true rfl)⟩) hK (gPl hP) (gDl hD) 0 rfl rfl rfl hl.1 (Nat.le_of_ble_eq_true rfl) dL_law_1404 ⟨by show _ ≤ 601024; omega, by show _ ≤ 7293000; omega⟩) hP hS hD hA (fun A2 H locs hP hD hS => ?_)
  refine lv_istore (lv' := [(6, .int bb), (5, .int k), (0, .ref b), (1, .ref (Qf 0)), (2, .ref q), (3, .ref bo), (4, .int iv)]) hx hb dL_law_1407 hl (by decide) rfl (fun ls hl => ?_)
  refine lv_aload_n hx hb dL_law_1409 rfl (lv_at hl 4 rfl) ?_
  refine gfRi (gV FX [] (c_md_thrown l G cI cL cZ cB q A2 m2 _ (Ms.thr m2) rfl) (cwV 0 hts (gi_V wq_10 wq_11 wq_12 wq_8 wq_13) rfl rfl rfl hdV_X4_thrown ⟨(Nat.le_of_ble_eq_true rfl), (Nat.le_of_ble_eq_true rfl)⟩) hK (gPl hP) (gDl hD) 0 rfl rfl rfl hl.1 (Nat.le_of_ble_eq_true rfl) dL_law_1410 ⟨by show _ ≤ 601024; omega, by show _ ≤ 7293000; omega⟩) hP hS hD hA (fun H locs hP hS => ?_)
  refine lv_iload hx hb dL_law_1413 (lv_at hl 1 rfl) ?_
  refine lv_icmp_eq (tgt := 1420) hx hb dL_law_1415 (by decide) (fun _ => ?_) (fun h9 => absurd e3 h9)
  refine lv_iload hx hb dL_law_1420 (lv_at hl 1 rfl) ?_
  refine lv_if_ne (tgt := 1437) hx hb dL_law_1422 (by decide) (fun _ => ?_) (fun hk0 => ?_)
  · refine lv_goto (tgt := 1806) hx hb dL_law_1437 (by decide) ?_
    exact kk _ _ _ _ _ _ _ _ _ ⟨gsP hP, gsD hD, hS⟩ (lv_sub hl [2, 3, 4, 5, 6] rfl) ⟨S2.mono (by omega), by omega, by omega⟩
  · refine lv_aload_n hx hb dL_law_1425 rfl (lv_at hl 5 rfl) ?_
    refine lv_iconst (v := 0) hx hb dL_law_1426 (by decide) ?_
    refine va_lald hx hb hK hP 31 1 rfl rfl (inb_in inb01) dL_law_1427 ?_
    refine lv_iload hx hb dL_law_1428 (lv_at hl 0 rfl) ?_
    refine lv_i2l hx hb dL_law_1430 rfl ?_
    refine W.lcmp hx hb dL_law_1431 ?_
    refine lv_if_eq (tgt := 1437) hx hb dL_law_1432 (by decide) (fun _ => ?_) (fun h9 => absurd (lgc0 (e4 hk0)) h9)
    refine lv_goto (tgt := 1806) hx hb dL_law_1437 (by decide) ?_
    exact kk _ _ _ _ _ _ _ _ _ ⟨gsP hP, gsD hD, hS⟩ (lv_sub hl [2, 3, 4, 5, 6] rfl) ⟨S2.mono (by omega), by omega, by omega⟩
set_option maxHeartbeats 4000000 in
set_option maxRecDepth 100000 in
theorem law_c19 {p : Program} {l : Launch} {e : Env} {s : State} {m : MethodId} {below : List Frame} {meth : Method} {c : Code} {b L : Nat} {xs : Nat → Int32} {G : va_G} {cI cL cZ cB : ClassId} (X : LX p l s m meth c b L xs G cI cL cZ cB) {Qf : Nat → Nat} {q bo lm t i : Nat} {iv : Int32} (hi : i + 5 ≤ L) (hiv : iv = Int32.ofNat i) (ht : t < 512) {H : Heap} {locs : List Loc} {ls : Array Slot} {A1 A2 : Nat → Nat} {z : Lo} {mm : Ms} {cells slots : Nat} (hI : LI s G cI cL cZ cB Qf q bo H locs A1 A2 z mm) (hl : lv_has ls 8 (lvL b Qf q bo iv)) (hB : LB lm t cells slots z mm)
    (kk : LK p l e s m below meth c b G cI cL cZ cB Qf q bo iv lm t) : W p l e room_1 s m #[Value.ref b] below meth c H locs cells slots (lw_Z below #[Value.ref b] s) (F0 m 1440 ls []) := by
  obtain ⟨hx, hb, hr, hml, hown, hts, hX, hbl, hlocks, hl0, hK, hT, hN, hL⟩ := X
  obtain ⟨hP, hD, hS⟩ := hI
  obtain ⟨S, hc1, hs1⟩ := hB
  have FX : CallFix p m c code 8 s _ lwT RL := ⟨hx, hb, hml, hown, hts⟩
  have hA : ∀ q9 : Nat, s.heap.size ≤ q9 → lwA s q9 := fun _ h => h
  have hbA : ¬ lwA s b := Nat.not_le.mpr hbl
  have hKc : va_K G vwCl (ct cL cZ) s := hK.sub (tys' := ct cL cZ) [1, 2] rfl
  have h1 : vp_in (iv + 1) L := lw_in (k := 1) hi hL hiv (by omega) rfl
  have h2 : vp_in (iv + 2) L := lw_in (k := 2) hi hL hiv (by omega) rfl
  have h3 : vp_in (iv + 3) L := lw_in (k := 3) hi hL hiv (by omega) rfl
  have h4 : vp_in (iv + 4) L := lw_in (k := 4) hi hL hiv (by omega) rfl
  have hl : lv_has ls 8 [(0, .ref b), (1, .ref (Qf 0)), (2, .ref q), (3, .ref bo), (4, .int iv)] := hl
  obtain ⟨z2, m2, k, e1, e2, e3, S2, e5⟩ := J_entry (xs (iv + 1).toNatClampNeg) (xs (iv + 2).toNatClampNeg) (xs (iv + 3).toNatClampNeg) S
  have pm := PotM S2
  refine lv_aload_n hx hb dL_law_1440 rfl (lv_at hl 1 rfl) ?_
  refine lv_aload_n hx hb dL_law_1441 rfl (lv_at hl 0 rfl) ?_
  refine lv_iload hx hb dL_law_1442 (lv_at hl 4 rfl) ?_
  refine lv_iconst (v := 1) hx hb dL_law_1444 (by decide) ?_
  refine lv_iadd hx hb dL_law_1445 ?_
  refine va_sld hx hb hX hbl hbA hS h1 dL_law_1446 ?_
  refine lv_aload_n hx hb dL_law_1447 rfl (lv_at hl 0 rfl) ?_
  refine lv_iload hx hb dL_law_1448 (lv_at hl 4 rfl) ?_
  refine lv_iconst (v := 2) hx hb dL_law_1450 (by decide) ?_
  refine lv_iadd hx hb dL_law_1451 ?_
  refine va_sld hx hb hX hbl hbA hS h2 dL_law_1452 ?_
  refine lv_aload_n hx hb dL_law_1453 rfl (lv_at hl 0 rfl) ?_
  refine lv_iload hx hb dL_law_1454 (lv_at hl 4 rfl) ?_
  refine lv_iconst (v := 3) hx hb dL_law_1456 (by decide) ?_
  refine lv_iadd hx hb dL_law_1457 ?_
  refine va_sld hx hb hX hbl hbA hS h3 dL_law_1458 ?_
  refine gfWi (gSn FX [.ref (Qf 0), .int (xs (iv + 1).toNatClampNeg), .int (xs (iv + 2).toNatClampNeg), .int (xs (iv + 3).toNatClampNeg)] (c_la_entry l hl0 G cL cZ Qf bo A1 z _ (xs (iv + 1).toNatClampNeg) (xs (iv + 2).toNatClampNeg) (xs (iv + 3).toNatClampNeg) (z2, k) e1) (vx_cwSW 4 hts (gi_SU wq_158 wq_159 wq_160 wq_161) rfl rfl rfl hdU_L_entry ⟨(Nat.le_of_ble_eq_true rfl), (Nat.le_of_ble_eq_true rfl)⟩) hKc (gPl hP) (gDl hD) hT hN hS hA rfl hl.1 (Nat.le_of_ble_eq_true rfl) dL_law_1459 ⟨by show _ ≤ 601024; omega, by show _ ≤ 7293000; omega⟩) hP hS hD hA (fun A1 H locs hP hD hS => ?_)
  refine lv_istore (lv' := [(5, .int k), (0, .ref b), (1, .ref (Qf 0)), (2, .ref q), (3, .ref bo), (4, .int iv)]) hx hb dL_law_1462 hl (by decide) rfl (fun ls hl => ?_)
  refine lv_aload_n hx hb dL_law_1464 rfl (lv_at hl 3 rfl) ?_
  refine lv_aload_n hx hb dL_law_1465 rfl (lv_at hl 1 rfl) ?_
  refine lv_iload hx hb dL_law_1466 (lv_at hl 5 rfl) ?_
  refine lv_iconst (v := 1) hx hb dL_law_1468 (by decide) ?_
  refine lv_iadd hx hb dL_law_1469 ?_
  refine va_sld hx hb hX hbl hbA hS h1 dL_law_1470 ?_
  refine lv_aload_n hx hb dL_law_1471 rfl (lv_at hl 1 rfl) ?_
  refine lv_iload hx hb dL_law_1472 (lv_at hl 5 rfl) ?_
  refine lv_iconst (v := 2) hx hb dL_law_1474 (by decide) ?_
  refine lv_iadd hx hb dL_law_1475 ?_
  refine va_sld hx hb hX hbl hbA hS h2 dL_law_1476 ?_
  refine lv_aload_n hx hb dL_law_1477 rfl (lv_at hl 1 rfl) ?_
  refine lv_iload hx hb dL_law_1478 (lv_at hl 5 rfl) ?_
  refine lv_iconst (v := 3) hx hb dL_law_1480 (by decide) ?_
  refine lv_iadd hx hb dL_law_1481 ?_
  refine va_sld hx hb hX hbl hbA hS h3 dL_law_1482 ?_
  have hP := gsP hP
  have hD := gsD hD
  refine gfWv (gV FX [.int (xs (iv + 1).toNatClampNeg), .int (xs (iv + 2).toNatClampNeg), .int (xs (iv + 3).toNatClampNeg)] (c_md_entry l G cI cL cZ cB q A2 mm _ (xs (iv + 1).toNatClampNeg) (xs (iv + 2).toNatClampNeg) (xs (iv + 3).toNatClampNeg) (m2, ()) e2) (cwV 3 hts (gi_V wq_162 wq_163 wq_164 wq_8 wq_165) rfl rfl rfl hdV_X4_entry ⟨(Nat.le_of_ble_eq_true rfl), (Nat.le_of_ble_eq_true rfl)⟩) hK (gPl hP) (gDl hD) 0 rfl rfl rfl hl.1 (Nat.le_of_ble_eq_true rfl) dL_law_1483 ⟨by show _ ≤ 601024; omega, by show _ ≤ 7293000; omega⟩) hP hS hD hA (fun A2 H locs hP hD hS => ?_)
  refine lv_aload_n hx hb dL_law_1486 rfl (lv_at hl 3 rfl) ?_
  refine gfRi (gV FX [] (c_md_thrown l G cI cL cZ cB q A2 m2 _ (Ms.thr m2) rfl) (cwV 0 hts (gi_V wq_10 wq_11 wq_12 wq_8 wq_13) rfl rfl rfl hdV_X4_thrown ⟨(Nat.le_of_ble_eq_true rfl), (Nat.le_of_ble_eq_true rfl)⟩) hK (gPl hP) (gDl hD) 0 rfl rfl rfl hl.1 (Nat.le_of_ble_eq_true rfl) dL_law_1487 ⟨by show _ ≤ 601024; omega, by show _ ≤ 7293000; omega⟩) hP hS hD hA (fun H locs hP hS => ?_)
  refine lv_iload hx hb dL_law_1490 (lv_at hl 0 rfl) ?_
  refine lv_icmp_eq (tgt := 1497) hx hb dL_law_1492 (by decide) (fun _ => ?_) (fun h9 => absurd e3 h9)
  refine lv_goto (tgt := 1806) hx hb dL_law_1497 (by decide) ?_
  exact kk _ _ _ _ _ _ _ _ _ ⟨gsP hP, gsD hD, hS⟩ (lv_sub hl [1, 2, 3, 4, 5] rfl) ⟨S2.mono (by omega), by omega, by omega⟩
set_option maxHeartbeats 4000000 in
set_option maxRecDepth 100000 in
theorem law_c20 {p : Program} {l : Launch} {e : Env} {s : State} {m : MethodId} {below : List Frame} {meth : Method} {c : Code} {b L : Nat} {xs : Nat → Int32} {G : va_G} {cI cL cZ cB : ClassId} (X : LX p l s m meth c b L xs G cI cL cZ cB) {Qf : Nat → Nat} {q bo lm t i : Nat} {iv : Int32} (hi : i + 5 ≤ L) (hiv : iv = Int32.ofNat i) (ht : t < 512) {H : Heap} {locs : List Loc} {ls : Array Slot} {A1 A2 : Nat → Nat} {z : Lo} {mm : Ms} {cells slots : Nat} (hI : LI s G cI cL cZ cB Qf q bo H locs A1 A2 z mm) (hl : lv_has ls 8 (lvL b Qf q bo iv)) (hB : LB lm t cells slots z mm)
    (kk : LK p l e s m below meth c b G cI cL cZ cB Qf q bo iv lm t) : W p l e room_1 s m #[Value.ref b] below meth c H locs cells slots (lw_Z below #[Value.ref b] s) (F0 m 1500 ls []) := by
  obtain ⟨hx, hb, hr, hml, hown, hts, hX, hbl, hlocks, hl0, hK, hT, hN, hL⟩ := X
  obtain ⟨hP, hD, hS⟩ := hI
  obtain ⟨S, hc1, hs1⟩ := hB
  have FX : CallFix p m c code 8 s _ lwT RL := ⟨hx, hb, hml, hown, hts⟩
  have hA : ∀ q9 : Nat, s.heap.size ≤ q9 → lwA s q9 := fun _ h => h
  have hbA : ¬ lwA s b := Nat.not_le.mpr hbl
  have hKc : va_K G vwCl (ct cL cZ) s := hK.sub (tys' := ct cL cZ) [1, 2] rfl
  have h1 : vp_in (iv + 1) L := lw_in (k := 1) hi hL hiv (by omega) rfl
  have h2 : vp_in (iv + 2) L := lw_in (k := 2) hi hL hiv (by omega) rfl
  have h3 : vp_in (iv + 3) L := lw_in (k := 3) hi hL hiv (by omega) rfl
  have h4 : vp_in (iv + 4) L := lw_in (k := 4) hi hL hiv (by omega) rfl
  have hl : lv_has ls 8 [(0, .ref b), (1, .ref (Qf 0)), (2, .ref q), (3, .ref bo), (4, .int iv)] := hl
  obtain ⟨z2, m2, bb, e1, e2, S2, e5⟩ := J_collect S
  have S2 : St (Lo.h (Lo.sh z z2)) m2 lm t := S2
  have pm := PotM S2
  have e5 : Pot lm (Lo.h (Lo.sh z z2)) m2 = Pot lm (Lo.h z) mm := e5
  refine lv_aload_n hx hb dL_law_1500 rfl (lv_at hl 1 rfl) ?_
  have hP : va_P G vwCl (cw cL cZ Qf A1 (Lo.h z) ++ ([(bo, .inl (cL, 1, .inr (.inl (Lo.aot z))))] ++ mw cI cL cZ cB q A2 mm)) H := by rw [← List.append_assoc]; exact hP
  have hD : va_D (lwA s) (cw cL cZ Qf A1 (Lo.h z) ++ ([(bo, .inl (cL, 1, .inr (.inl (Lo.aot z))))] ++ mw cI cL cZ cB q A2 mm)) := by rw [← List.append_assoc]; exact hD
  refine gfWi (gV FX [] (c_wh_collect l G cL cZ Qf A1 (Lo.h z) _ (z2, bb) e1) (cwV 0 hts (gi_V wq_166 wq_167 wq_168 wq_169 wq_170) rfl rfl rfl hdV_X3_collect ⟨(Nat.le_of_ble_eq_true rfl), (Nat.le_of_ble_eq_true rfl)⟩) hKc (gPl hP) (gDl hD) 0 rfl rfl rfl hl.1 (Nat.le_of_ble_eq_true rfl) dL_law_1501 ⟨by show _ ≤ 601024; omega, by show _ ≤ 7293000; omega⟩) hP hS hD hA (fun A1 H locs hP hD hS => ?_)
  have hP : va_P G vwCl (lwd cL cZ Qf bo A1 (Lo.sh z z2) ++ mw cI cL cZ cB q A2 mm) H := by rw [← List.append_assoc] at hP; exact hP
  have hD : va_D (lwA s) (lwd cL cZ Qf bo A1 (Lo.sh z z2) ++ mw cI cL cZ cB q A2 mm) := by rw [← List.append_assoc] at hD; exact hD
  have hP := gsP hP
  have hD := gsD hD
  refine lv_aload_n hx hb dL_law_1504 rfl (lv_at hl 2 rfl) ?_
  refine gfWi (gV FX [] (c_md_collect l G cI cL cZ cB q A2 mm _ (m2, bb) e2) (cwV 0 hts (gi_V wq_171 wq_172 wq_173 wq_8 wq_174) rfl rfl rfl hdV_X4_collect ⟨(Nat.le_of_ble_eq_true rfl), (Nat.le_of_ble_eq_true rfl)⟩) hK (gPl hP) (gDl hD) 0 rfl rfl rfl hl.1 (Nat.le_of_ble_eq_true rfl) dL_law_1505 ⟨by show _ ≤ 601024; omega, by show _ ≤ 7293000; omega⟩) hP hS hD hA (fun A2 H locs hP hD hS => ?_)
  refine lv_icmp_eq (tgt := 1806) hx hb dL_law_1508 (by decide) (fun _ => ?_) (fun h9 => absurd rfl h9)
  exact kk _ _ _ _ _ _ _ _ _ ⟨gsP hP, gsD hD, hS⟩ (lv_sub hl [0, 1, 2, 3, 4] rfl) ⟨S2.mono (by omega), by omega, by omega⟩
