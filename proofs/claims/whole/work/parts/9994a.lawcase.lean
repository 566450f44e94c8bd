set_option maxHeartbeats 4000000 in
set_option maxRecDepth 100000 in
theorem law_c0 {p : Program} {l : Launch} {e : Env} {s : State} {m : MethodId} {below : List Frame} {meth : Method} {c : Code} {b L : Nat} {xs : Nat → Int32} {G : va_G} {cI cL cZ cB : ClassId} (X : LX p l s m meth c b L xs G cI cL cZ cB) {Qf : Nat → Nat} {q bo lm t i : Nat} {iv : Int32} (hi : i + 5 ≤ L) (hiv : iv = Int32.ofNat i) (ht : t < 512) {H : Heap} {locs : List Loc} {ls : Array Slot} {A1 A2 : Nat → Nat} {z : Lo} {mm : Ms} {cells slots : Nat} (hI : LI s G cI cL cZ cB Qf q bo H locs A1 A2 z mm) (hl : lv_has ls 8 (lvL b Qf q bo iv)) (hB : LB lm t cells slots z mm)
    (kk : LK p l e s m below meth c b G cI cL cZ cB Qf q bo iv lm t) : W p l e room_1 s m #[Value.ref b] below meth c H locs cells slots (lw_Z below #[Value.ref b] s) (F0 m 168 ls []) := by
  obtain ⟨hx, hb, hr, hml, hown, hts, hX, hbl, hlocks, hl0, hK, hT, hN, hL⟩ := X
  obtain ⟨hP, hD, hS⟩ := hI
  obtain ⟨S, hc1, hs1⟩ := hB
  have FX : CallFix p m c code 8 s _ lwT RL := ⟨hx, hb, hml, hown, hts⟩
  have hA : ∀ q9 : Nat, s.heap.size ≤ q9 → lwA s q9 := fun _ h => h
  have hbA : ¬ lwA s b := Nat.not_le.mpr hbl
  have hKc : va_K G vwCl (ct cL cZ) s := hK.sub (tys' := ct cL cZ) [1, 2] rfl
  have h1 : vp_in (iv + 1) L := lw_in (k := 1) hi hL hiv (by omega) rfl
  have h2 : vp_in (iv + 2) L := lw_in (k := 2) hi hL hiv (by omega) rfl
  have h3 : vp_in (iv + 3) L := lw_in (k := 3) hi hL hiv (by omega) rfl
  have h4 : vp_in (iv + 4) L := lw_in (k := 4) hi hL hiv (by omega) rfl
  have hl : lv_has ls 8 [(0, .ref b), (1, .ref (Qf 0)), (2, .ref q), (3, .ref bo), (4, .int iv)] := hl
  obtain ⟨z2, m2, k, e1, e2, e3, S2, e5⟩ := J_number (xs (iv + 1).toNatClampNeg) ((((xs (iv + 2).toNatClampNeg).toInt64) <<< ((32 : Int32).toInt64 &&& 63)) ||| (((xs (iv + 3).toNatClampNeg).toInt64) &&& 4294967295)) S
  have pm := PotM S2
  refine lv_aload_n hx hb dL_law_168 rfl (lv_at hl 1 rfl) ?_
  refine lv_aload_n hx hb dL_law_169 rfl (lv_at hl 0 rfl) ?_
  refine lv_iload hx hb dL_law_170 (lv_at hl 4 rfl) ?_
  refine lv_iconst (v := 1) hx hb dL_law_172 (by decide) ?_
  refine lv_iadd hx hb dL_law_173 ?_
  refine va_sld hx hb hX hbl hbA hS h1 dL_law_174 ?_
  refine lv_aload_n hx hb dL_law_175 rfl (lv_at hl 0 rfl) ?_
  refine lv_iload hx hb dL_law_176 (lv_at hl 4 rfl) ?_
  refine lv_iconst (v := 2) hx hb dL_law_178 (by decide) ?_
  refine lv_iadd hx hb dL_law_179 ?_
  refine va_sld hx hb hX hbl hbA hS h2 dL_law_180 ?_
  refine lv_i2l hx hb dL_law_181 rfl ?_
  refine lv_bipush (v := 32) hx hb dL_law_182 (by decide) ?_
  refine lv_lshl hx hb dL_law_184 rfl ?_
  refine lv_aload_n hx hb dL_law_185 rfl (lv_at hl 0 rfl) ?_
  refine lv_iload hx hb dL_law_186 (lv_at hl 4 rfl) ?_
  refine lv_iconst (v := 3) hx hb dL_law_188 (by decide) ?_
  refine lv_iadd hx hb dL_law_189 ?_
  refine va_sld hx hb hX hbl hbA hS h3 dL_law_190 ?_
  refine lv_i2l hx hb dL_law_191 rfl ?_
  refine lv_ldc2 (v := 4294967295) hx hb hown (hts _ (.tail _ wq_0)) dL_law_192 ?_
  refine lv_land hx hb dL_law_195 ?_
  refine lv_lor hx hb dL_law_196 ?_
  refine gfWi (gSn FX [.ref (Qf 0), .int (xs (iv + 1).toNatClampNeg), .long ((((xs (iv + 2).toNatClampNeg).toInt64) <<< ((32 : Int32).toInt64 &&& 63)) ||| (((xs (iv + 3).toNatClampNeg).toInt64) &&& 4294967295))] (c_la_number l hl0 G cL cZ Qf bo A1 z _ (xs (iv + 1).toNatClampNeg) ((((xs (iv + 2).toNatClampNeg).toInt64) <<< ((32 : Int32).toInt64 &&& 63)) ||| (((xs (iv + 3).toNatClampNeg).toInt64) &&& 4294967295)) (z2, k) e1) (vx_cwSW 3 hts (gi_SU wq_1 wq_2 wq_3 wq_4) rfl rfl rfl hdU_L_number ⟨(Nat.le_of_ble_eq_true rfl), (Nat.le_of_ble_eq_true rfl)⟩) hKc (gPl hP) (gDl hD) hT hN hS hA rfl hl.1 (Nat.le_of_ble_eq_true rfl) dL_law_197 ⟨by show _ ≤ 601024; omega, by show _ ≤ 7293000; omega⟩) hP hS hD hA (fun A1 H locs hP hD hS => ?_)
  refine lv_istore (lv' := [(5, .int k), (0, .ref b), (1, .ref (Qf 0)), (2, .ref q), (3, .ref bo), (4, .int iv)]) hx hb dL_law_200 hl (by decide) rfl (fun ls hl => ?_)
  refine lv_aload_n hx hb dL_law_202 rfl (lv_at hl 3 rfl) ?_
  refine lv_aload_n hx hb dL_law_203 rfl (lv_at hl 1 rfl) ?_
  refine lv_iload hx hb dL_law_204 (lv_at hl 5 rfl) ?_
  refine lv_iconst (v := 1) hx hb dL_law_206 (by decide) ?_
  refine lv_iadd hx hb dL_law_207 ?_
  refine va_sld hx hb hX hbl hbA hS h1 dL_law_208 ?_
  refine lv_aload_n hx hb dL_law_209 rfl (lv_at hl 1 rfl) ?_
  refine lv_iload hx hb dL_law_210 (lv_at hl 5 rfl) ?_
  refine lv_iconst (v := 2) hx hb dL_law_212 (by decide) ?_
  refine lv_iadd hx hb dL_law_213 ?_
  refine va_sld hx hb hX hbl hbA hS h2 dL_law_214 ?_
  refine lv_i2l hx hb dL_law_215 rfl ?_
  refine lv_bipush (v := 32) hx hb dL_law_216 (by decide) ?_
  refine lv_lshl hx hb dL_law_218 rfl ?_
  refine lv_aload_n hx hb dL_law_219 rfl (lv_at hl 1 rfl) ?_
  refine lv_iload hx hb dL_law_220 (lv_at hl 5 rfl) ?_
  refine lv_iconst (v := 3) hx hb dL_law_222 (by decide) ?_
  refine lv_iadd hx hb dL_law_223 ?_
  refine va_sld hx hb hX hbl hbA hS h3 dL_law_224 ?_
  refine lv_i2l hx hb dL_law_225 rfl ?_
  refine lv_ldc2 (v := 4294967295) hx hb hown (hts _ (.tail _ wq_0)) dL_law_226 ?_
  refine lv_land hx hb dL_law_229 ?_
  refine lv_lor hx hb dL_law_230 ?_
  have hP := gsP hP
  have hD := gsD hD
  refine gfWv (gV FX [.int (xs (iv + 1).toNatClampNeg), .long ((((xs (iv + 2).toNatClampNeg).toInt64) <<< ((32 : Int32).toInt64 &&& 63)) ||| (((xs (iv + 3).toNatClampNeg).toInt64) &&& 4294967295))] (c_md_number l G cI cL cZ cB q A2 mm _ (xs (iv + 1).toNatClampNeg) ((((xs (iv + 2).toNatClampNeg).toInt64) <<< ((32 : Int32).toInt64 &&& 63)) ||| (((xs (iv + 3).toNatClampNeg).toInt64) &&& 4294967295)) (m2, ()) e2) (cwV 2 hts (gi_V wq_5 wq_6 wq_7 wq_8 wq_9) rfl rfl rfl hdV_X4_number ⟨(Nat.le_of_ble_eq_true rfl), (Nat.le_of_ble_eq_true rfl)⟩) hK (gPl hP) (gDl hD) 0 rfl rfl rfl hl.1 (Nat.le_of_ble_eq_true rfl) dL_law_231 ⟨by show _ ≤ 601024; omega, by show _ ≤ 7293000; omega⟩) hP hS hD hA (fun A2 H locs hP hD hS => ?_)
  refine lv_aload_n hx hb dL_law_234 rfl (lv_at hl 3 rfl) ?_
  refine gfRi (gV FX [] (c_md_thrown l G cI cL cZ cB q A2 m2 _ (Ms.thr m2) rfl) (cwV 0 hts (gi_V wq_10 wq_11 wq_12 wq_8 wq_13) rfl rfl rfl hdV_X4_thrown ⟨(Nat.le_of_ble_eq_true rfl), (Nat.le_of_ble_eq_true rfl)⟩) hK (gPl hP) (gDl hD) 0 rfl rfl rfl hl.1 (Nat.le_of_ble_eq_true rfl) dL_law_235 ⟨by show _ ≤ 601024; omega, by show _ ≤ 7293000; omega⟩) hP hS hD hA (fun H locs hP hS => ?_)
  refine lv_iload hx hb dL_law_238 (lv_at hl 0 rfl) ?_
  refine lv_icmp_eq (tgt := 245) hx hb dL_law_240 (by decide) (fun _ => ?_) (fun h9 => absurd e3 h9)
  refine lv_goto (tgt := 1806) hx hb dL_law_245 (by decide) ?_
  exact kk _ _ _ _ _ _ _ _ _ ⟨gsP hP, gsD hD, hS⟩ (lv_sub hl [1, 2, 3, 4, 5] rfl) ⟨S2.mono (by omega), by omega, by omega⟩
set_option maxHeartbeats 4000000 in
set_option maxRecDepth 100000 in
theorem law_c1 {p : Program} {l : Launch} {e : Env} {s : State} {m : MethodId} {below : List Frame} {meth : Method} {c : Code} {b L : Nat} {xs : Nat → Int32} {G : va_G} {cI cL cZ cB : ClassId} (X : LX p l s m meth c b L xs G cI cL cZ cB) {Qf : Nat → Nat} {q bo lm t i : Nat} {iv : Int32} (hi : i + 5 ≤ L) (hiv : iv = Int32.ofNat i) (ht : t < 512) {H : Heap} {locs : List Loc} {ls : Array Slot} {A1 A2 : Nat → Nat} {z : Lo} {mm : Ms} {cells slots : Nat} (hI : LI s G cI cL cZ cB Qf q bo H locs A1 A2 z mm) (hl : lv_has ls 8 (lvL b Qf q bo iv)) (hB : LB lm t cells slots z mm)
    (kk : LK p l e s m below meth c b G cI cL cZ cB Qf q bo iv lm t) : W p l e room_1 s m #[Value.ref b] below meth c H locs cells slots (lw_Z below #[Value.ref b] s) (F0 m 248 ls []) := by
  obtain ⟨hx, hb, hr, hml, hown, hts, hX, hbl, hlocks, hl0, hK, hT, hN, hL⟩ := X
  obtain ⟨hP, hD, hS⟩ := hI
  obtain ⟨S, hc1, hs1⟩ := hB
  have FX : CallFix p m c code 8 s _ lwT RL := ⟨hx, hb, hml, hown, hts⟩
  have hA : ∀ q9 : Nat, s.heap.size ≤ q9 → lwA s q9 := fun _ h => h
  have hbA : ¬ lwA s b := Nat.not_le.mpr hbl
  have hKc : va_K G vwCl (ct cL cZ) s := hK.sub (tys' := ct cL cZ) [1, 2] rfl
  have h1 : vp_in (iv + 1) L := lw_in (k := 1) hi hL hiv (by omega) rfl
  have h2 : vp_in (iv + 2) L := lw_in (k := 2) hi hL hiv (by omega) rfl
  have h3 : vp_in (iv + 3) L := lw_in (k := 3) hi hL hiv (by omega) rfl
  have h4 : vp_in (iv + 4) L := lw_in (k := 4) hi hL hiv (by omega) rfl
  have hl : lv_has ls 8 [(0, .ref b), (1, .ref (Qf 0)), (2, .ref q), (3, .ref bo), (4, .int iv)] := hl
  obtain ⟨z2, m2, k, e1, e2, e3, S2, e5⟩ := J_nil (xs (iv + 1).toNatClampNeg) S
  have pm := PotM S2
  refine lv_aload_n hx hb dL_law_248 rfl (lv_at hl 1 rfl) ?_
  refine lv_aload_n hx hb dL_law_249 rfl (lv_at hl 0 rfl) ?_
  refine lv_iload hx hb dL_law_250 (lv_at hl 4 rfl) ?_
  refine lv_iconst (v := 1) hx hb dL_law_252 (by decide) ?_
  refine lv_iadd hx hb dL_law_253 ?_
  refine va_sld hx hb hX hbl hbA hS h1 dL_law_254 ?_
  refine gfWi (gSn FX [.ref (Qf 0), .int (xs (iv + 1).toNatClampNeg)] (c_la_nil l hl0 G cL cZ Qf bo A1 z _ (xs (iv + 1).toNatClampNeg) (z2, k) e1) (vx_cwSW 2 hts (gi_SU wq_14 wq_15 wq_16 wq_17) rfl rfl rfl hdU_L_nil ⟨(Nat.le_of_ble_eq_true rfl), (Nat.le_of_ble_eq_true rfl)⟩) hKc (gPl hP) (gDl hD) hT hN hS hA rfl hl.1 (Nat.le_of_ble_eq_true rfl) dL_law_255 ⟨by show _ ≤ 601024; omega, by show _ ≤ 7293000; omega⟩) hP hS hD hA (fun A1 H locs hP hD hS => ?_)
  refine lv_istore (lv' := [(5, .int k), (0, .ref b), (1, .ref (Qf 0)), (2, .ref q), (3, .ref bo), (4, .int iv)]) hx hb dL_law_258 hl (by decide) rfl (fun ls hl => ?_)
  refine lv_aload_n hx hb dL_law_260 rfl (lv_at hl 3 rfl) ?_
  refine lv_aload_n hx hb dL_law_261 rfl (lv_at hl 1 rfl) ?_
  refine lv_iload hx hb dL_law_262 (lv_at hl 5 rfl) ?_
  refine lv_iconst (v := 1) hx hb dL_law_264 (by decide) ?_
  refine lv_iadd hx hb dL_law_265 ?_
  refine va_sld hx hb hX hbl hbA hS h1 dL_law_266 ?_
  have hP := gsP hP
  have hD := gsD hD
  refine gfWv (gV FX [.int (xs (iv + 1).toNatClampNeg)] (c_md_nil l G cI cL cZ cB q A2 mm _ (xs (iv + 1).toNatClampNeg) (m2, ()) e2) (cwV 1 hts (gi_V wq_18 wq_19 wq_20 wq_8 wq_21) rfl rfl rfl hdV_X4_nil ⟨(Nat.le_of_ble_eq_true rfl), (Nat.le_of_ble_eq_true rfl)⟩) hK (gPl hP) (gDl hD) 0 rfl rfl rfl hl.1 (Nat.le_of_ble_eq_true rfl) dL_law_267 ⟨by show _ ≤ 601024; omega, by show _ ≤ 7293000; omega⟩) hP hS hD hA (fun A2 H locs hP hD hS => ?_)
  refine lv_aload_n hx hb dL_law_270 rfl (lv_at hl 3 rfl) ?_
  refine gfRi (gV FX [] (c_md_thrown l G cI cL cZ cB q A2 m2 _ (Ms.thr m2) rfl) (cwV 0 hts (gi_V wq_10 wq_11 wq_12 wq_8 wq_13) rfl rfl rfl hdV_X4_thrown ⟨(Nat.le_of_ble_eq_true rfl), (Nat.le_of_ble_eq_true rfl)⟩) hK (gPl hP) (gDl hD) 0 rfl rfl rfl hl.1 (Nat.le_of_ble_eq_true rfl) dL_law_271 ⟨by show _ ≤ 601024; omega, by show _ ≤ 7293000; omega⟩) hP hS hD hA (fun H locs hP hS => ?_)
  refine lv_iload hx hb dL_law_274 (lv_at hl 0 rfl) ?_
  refine lv_icmp_eq (tgt := 281) hx hb dL_law_276 (by decide) (fun _ => ?_) (fun h9 => absurd e3 h9)
  refine lv_goto (tgt := 1806) hx hb dL_law_281 (by decide) ?_
  exact kk _ _ _ _ _ _ _ _ _ ⟨gsP hP, gsD hD, hS⟩ (lv_sub hl [1, 2, 3, 4, 5] rfl) ⟨S2.mono (by omega), by omega, by omega⟩
set_option maxHeartbeats 4000000 in
set_option maxRecDepth 100000 in
theorem law_c2 {p : Program} {l : Launch} {e : Env} {s : State} {m : MethodId} {below : List Frame} {meth : Method} {c : Code} {b L : Nat} {xs : Nat → Int32} {G : va_G} {cI cL cZ cB : ClassId} (X : LX p l s m meth c b L xs G cI cL cZ cB) {Qf : Nat → Nat} {q bo lm t i : Nat} {iv : Int32} (hi : i + 5 ≤ L) (hiv : iv = Int32.ofNat i) (ht : t < 512) {H : Heap} {locs : List Loc} {ls : Array Slot} {A1 A2 : Nat → Nat} {z : Lo} {mm : Ms} {cells slots : Nat} (hI : LI s G cI cL cZ cB Qf q bo H locs A1 A2 z mm) (hl : lv_has ls 8 (lvL b Qf q bo iv)) (hB : LB lm t cells slots z mm)
    (kk : LK p l e s m below meth c b G cI cL cZ cB Qf q bo iv lm t) : W p l e room_1 s m #[Value.ref b] below meth c H locs cells slots (lw_Z below #[Value.ref b] s) (F0 m 284 ls []) := by
  obtain ⟨hx, hb, hr, hml, hown, hts, hX, hbl, hlocks, hl0, hK, hT, hN, hL⟩ := X
  obtain ⟨hP, hD, hS⟩ := hI
  obtain ⟨S, hc1, hs1⟩ := hB
  have FX : CallFix p m c code 8 s _ lwT RL := ⟨hx, hb, hml, hown, hts⟩
  have hA : ∀ q9 : Nat, s.heap.size ≤ q9 → lwA s q9 := fun _ h => h
  have hbA : ¬ lwA s b := Nat.not_le.mpr hbl
  have hKc : va_K G vwCl (ct cL cZ) s := hK.sub (tys' := ct cL cZ) [1, 2] rfl
  have h1 : vp_in (iv + 1) L := lw_in (k := 1) hi hL hiv (by omega) rfl
  have h2 : vp_in (iv + 2) L := lw_in (k := 2) hi hL hiv (by omega) rfl
  have h3 : vp_in (iv + 3) L := lw_in (k := 3) hi hL hiv (by omega) rfl
  have h4 : vp_in (iv + 4) L := lw_in (k := 4) hi hL hiv (by omega) rfl
  have hl : lv_has ls 8 [(0, .ref b), (1, .ref (Qf 0)), (2, .ref q), (3, .ref bo), (4, .int iv)] := hl
  obtain ⟨z2, m2, k, e1, e2, e3, S2, e5⟩ := J_move (xs (iv + 1).toNatClampNeg) (xs (iv + 2).toNatClampNeg) S
  have pm := PotM S2
  refine lv_aload_n hx hb dL_law_284 rfl (lv_at hl 1 rfl) ?_
  refine lv_aload_n hx hb dL_law_285 rfl (lv_at hl 0 rfl) ?_
  refine lv_iload hx hb dL_law_286 (lv_at hl 4 rfl) ?_
  refine lv_iconst (v := 1) hx hb dL_law_288 (by decide) ?_
  refine lv_iadd hx hb dL_law_289 ?_
  refine va_sld hx hb hX hbl hbA hS h1 dL_law_290 ?_
  refine lv_aload_n hx hb dL_law_291 rfl (lv_at hl 0 rfl) ?_
  refine lv_iload hx hb dL_law_292 (lv_at hl 4 rfl) ?_
  refine lv_iconst (v := 2) hx hb dL_law_294 (by decide) ?_
  refine lv_iadd hx hb dL_law_295 ?_
  refine va_sld hx hb hX hbl hbA hS h2 dL_law_296 ?_
  refine gfWi (gSn FX [.ref (Qf 0), .int (xs (iv + 1).toNatClampNeg), .int (xs (iv + 2).toNatClampNeg)] (c_la_move l hl0 G cL cZ Qf bo A1 z _ (xs (iv + 1).toNatClampNeg) (xs (iv + 2).toNatClampNeg) (z2, k) e1) (vx_cwSW 3 hts (gi_SU wq_22 wq_23 wq_24 wq_25) rfl rfl rfl hdU_L_move ⟨(Nat.le_of_ble_eq_true rfl), (Nat.le_of_ble_eq_true rfl)⟩) hKc (gPl hP) (gDl hD) hT hN hS hA rfl hl.1 (Nat.le_of_ble_eq_true rfl) dL_law_297 ⟨by show _ ≤ 601024; omega, by show _ ≤ 7293000; omega⟩) hP hS hD hA (fun A1 H locs hP hD hS => ?_)
  refine lv_istore (lv' := [(5, .int k), (0, .ref b), (1, .ref (Qf 0)), (2, .ref q), (3, .ref bo), (4, .int iv)]) hx hb dL_law_300 hl (by decide) rfl (fun ls hl => ?_)
  refine lv_aload_n hx hb dL_law_302 rfl (lv_at hl 3 rfl) ?_
  refine lv_aload_n hx hb dL_law_303 rfl (lv_at hl 1 rfl) ?_
  refine lv_iload hx hb dL_law_304 (lv_at hl 5 rfl) ?_
  refine lv_iconst (v := 1) hx hb dL_law_306 (by decide) ?_
  refine lv_iadd hx hb dL_law_307 ?_
  refine va_sld hx hb hX hbl hbA hS h1 dL_law_308 ?_
  refine lv_aload_n hx hb dL_law_309 rfl (lv_at hl 1 rfl) ?_
  refine lv_iload hx hb dL_law_310 (lv_at hl 5 rfl) ?_
  refine lv_iconst (v := 2) hx hb dL_law_312 (by decide) ?_
  refine lv_iadd hx hb dL_law_313 ?_
  refine va_sld hx hb hX hbl hbA hS h2 dL_law_314 ?_
  have hP := gsP hP
  have hD := gsD hD
  refine gfWv (gV FX [.int (xs (iv + 1).toNatClampNeg), .int (xs (iv + 2).toNatClampNeg)] (c_md_move l G cI cL cZ cB q A2 mm _ (xs (iv + 1).toNatClampNeg) (xs (iv + 2).toNatClampNeg) (m2, ()) e2) (cwV 2 hts (gi_V wq_26 wq_27 wq_28 wq_8 wq_29) rfl rfl rfl hdV_X4_move ⟨(Nat.le_of_ble_eq_true rfl), (Nat.le_of_ble_eq_true rfl)⟩) hK (gPl hP) (gDl hD) 0 rfl rfl rfl hl.1 (Nat.le_of_ble_eq_true rfl) dL_law_315 ⟨by show _ ≤ 601024; omega, by show _ ≤ 7293000; omega⟩) hP hS hD hA (fun A2 H locs hP hD hS => ?_)
  refine lv_aload_n hx hb dL_law_318 rfl (lv_at hl 3 rfl) ?_
  refine gfRi (gV FX [] (c_md_thrown l G cI cL cZ cB q A2 m2 _ (Ms.thr m2) rfl) (cwV 0 hts (gi_V wq_10 wq_11 wq_12 wq_8 wq_13) rfl rfl rfl hdV_X4_thrown ⟨(Nat.le_of_ble_eq_true rfl), (Nat.le_of_ble_eq_true rfl)⟩) hK (gPl hP) (gDl hD) 0 rfl rfl rfl hl.1 (Nat.le_of_ble_eq_true rfl) dL_law_319 ⟨by show _ ≤ 601024; omega, by show _ ≤ 7293000; omega⟩) hP hS hD hA (fun H locs hP hS => ?_)
  refine lv_iload hx hb dL_law_322 (lv_at hl 0 rfl) ?_
  refine lv_icmp_eq (tgt := 329) hx hb dL_law_324 (by decide) (fun _ => ?_) (fun h9 => absurd e3 h9)
  refine lv_goto (tgt := 1806) hx hb dL_law_329 (by decide) ?_
  exact kk _ _ _ _ _ _ _ _ _ ⟨gsP hP, gsD hD, hS⟩ (lv_sub hl [1, 2, 3, 4, 5] rfl) ⟨S2.mono (by omega), by omega, by omega⟩
set_option maxHeartbeats 4000000 in
set_option maxRecDepth 100000 in
theorem law_c3 {p : Program} {l : Launch} {e : Env} {s : State} {m : MethodId} {below : List Frame} {meth : Method} {c : Code} {b L : Nat} {xs : Nat → Int32} {G : va_G} {cI cL cZ cB : ClassId} (X : LX p l s m meth c b L xs G cI cL cZ cB) {Qf : Nat → Nat} {q bo lm t i : Nat} {iv : Int32} (hi : i + 5 ≤ L) (hiv : iv = Int32.ofNat i) (ht : t < 512) {H : Heap} {locs : List Loc} {ls : Array Slot} {A1 A2 : Nat → Nat} {z : Lo} {mm : Ms} {cells slots : Nat} (hI : LI s G cI cL cZ cB Qf q bo H locs A1 A2 z mm) (hl : lv_has ls 8 (lvL b Qf q bo iv)) (hB : LB lm t cells slots z mm)
    (kk : LK p l e s m below meth c b G cI cL cZ cB Qf q bo iv lm t) : W p l e room_1 s m #[Value.ref b] below meth c H locs cells slots (lw_Z below #[Value.ref b] s) (F0 m 332 ls []) := by
  obtain ⟨hx, hb, hr, hml, hown, hts, hX, hbl, hlocks, hl0, hK, hT, hN, hL⟩ := X
  obtain ⟨hP, hD, hS⟩ := hI
  obtain ⟨S, hc1, hs1⟩ := hB
  have FX : CallFix p m c code 8 s _ lwT RL := ⟨hx, hb, hml, hown, hts⟩
  have hA : ∀ q9 : Nat, s.heap.size ≤ q9 → lwA s q9 := fun _ h => h
  have hbA : ¬ lwA s b := Nat.not_le.mpr hbl
  have hKc : va_K G vwCl (ct cL cZ) s := hK.sub (tys' := ct cL cZ) [1, 2] rfl
  have h1 : vp_in (iv + 1) L := lw_in (k := 1) hi hL hiv (by omega) rfl
  have h2 : vp_in (iv + 2) L := lw_in (k := 2) hi hL hiv (by omega) rfl
  have h3 : vp_in (iv + 3) L := lw_in (k := 3) hi hL hiv (by omega) rfl
  have h4 : vp_in (iv + 4) L := lw_in (k := 4) hi hL hiv (by omega) rfl
  have hl : lv_has ls 8 [(0, .ref b), (1, .ref (Qf 0)), (2, .ref q), (3, .ref bo), (4, .int iv)] := hl
  obtain ⟨c1, d1, z2, m2, k, bb, e1, e2, e3, e4, S2, e5⟩ := J_make (xs (iv + 1).toNatClampNeg) (xs (iv + 2).toNatClampNeg) S (by omega)
  have pm := PotM S2
  refine lv_aload_n hx hb dL_law_332 rfl (lv_at hl 1 rfl) ?_
  refine lv_aload_n hx hb dL_law_333 rfl (lv_at hl 0 rfl) ?_
  refine lv_iload hx hb dL_law_334 (lv_at hl 4 rfl) ?_
  refine lv_iconst (v := 1) hx hb dL_law_336 (by decide) ?_
  refine lv_iadd hx hb dL_law_337 ?_
  refine va_sld hx hb hX hbl hbA hS h1 dL_law_338 ?_
  refine lv_aload_n hx hb dL_law_339 rfl (lv_at hl 0 rfl) ?_
  refine lv_iload hx hb dL_law_340 (lv_at hl 4 rfl) ?_
  refine lv_iconst (v := 2) hx hb dL_law_342 (by decide) ?_
  refine lv_iadd hx hb dL_law_343 ?_
  refine va_sld hx hb hX hbl hbA hS h2 dL_law_344 ?_
  refine lv_aload_n hx hb dL_law_345 rfl (lv_at hl 3 rfl) ?_
  refine gfWi (gSn FX [.ref (Qf 0), .int (xs (iv + 1).toNatClampNeg), .int (xs (iv + 2).toNatClampNeg), .ref bo] (c_la_make l hl0 G cL cZ Qf bo A1 z _ (xs (iv + 1).toNatClampNeg) (xs (iv + 2).toNatClampNeg) c1 (z2, k) e1) (vx_cwSW 4 hts (gi_SU wq_30 wq_31 wq_32 wq_33) rfl rfl rfl hdU_L_make ⟨(Nat.le_of_ble_eq_true rfl), (Nat.le_of_ble_eq_true rfl)⟩) hKc (gPl hP) (gDl hD) hT hN hS hA rfl hl.1 (Nat.le_of_ble_eq_true rfl) dL_law_346 ⟨by show _ ≤ 601024; omega, by show _ ≤ 7293000; omega⟩) hP hS hD hA (fun A1 H locs hP hD hS => ?_)
  refine lv_istore (lv' := [(5, .int k), (0, .ref b), (1, .ref (Qf 0)), (2, .ref q), (3, .ref bo), (4, .int iv)]) hx hb dL_law_349 hl (by decide) rfl (fun ls hl => ?_)
  refine lv_aload_n hx hb dL_law_351 rfl (lv_at hl 3 rfl) ?_
  refine lv_aload_n hx hb dL_law_352 rfl (lv_at hl 1 rfl) ?_
  refine lv_iload hx hb dL_law_353 (lv_at hl 5 rfl) ?_
  refine lv_iconst (v := 1) hx hb dL_law_355 (by decide) ?_
  refine lv_iadd hx hb dL_law_356 ?_
  refine va_sld hx hb hX hbl hbA hS h1 dL_law_357 ?_
  refine lv_aload_n hx hb dL_law_358 rfl (lv_at hl 1 rfl) ?_
  refine lv_iload hx hb dL_law_359 (lv_at hl 5 rfl) ?_
  refine lv_iconst (v := 2) hx hb dL_law_361 (by decide) ?_
  refine lv_iadd hx hb dL_law_362 ?_
  refine va_sld hx hb hX hbl hbA hS h2 dL_law_363 ?_
  have hP := gsP hP
  have hD := gsD hD
  refine gfWi (gV FX [.int (xs (iv + 1).toNatClampNeg), .int (xs (iv + 2).toNatClampNeg)] (c_md_make l G cI cL cZ cB q A2 mm _ (xs (iv + 1).toNatClampNeg) (xs (iv + 2).toNatClampNeg) d1 (m2, bb) e2) (cwV 2 hts (gi_V wq_34 wq_35 wq_36 wq_8 wq_37) rfl rfl rfl hdV_X4_make ⟨(Nat.le_of_ble_eq_true rfl), (Nat.le_of_ble_eq_true rfl)⟩) hK (gPl hP) (gDl hD) 0 rfl rfl rfl hl.1 (Nat.le_of_ble_eq_true rfl) dL_law_364 ⟨by show _ ≤ 601024; omega, by show _ ≤ 7293000; omega⟩) hP hS hD hA (fun A2 H locs hP hD hS => ?_)
  refine lv_istore (lv' := [(6, .int bb), (5, .int k), (0, .ref b), (1, .ref (Qf 0)), (2, .ref q), (3, .ref bo), (4, .int iv)]) hx hb dL_law_367 hl (by decide) rfl (fun ls hl => ?_)
  refine lv_aload_n hx hb dL_law_369 rfl (lv_at hl 4 rfl) ?_
  refine gfRi (gV FX [] (c_md_thrown l G cI cL cZ cB q A2 m2 _ (Ms.thr m2) rfl) (cwV 0 hts (gi_V wq_10 wq_11 wq_12 wq_8 wq_13) rfl rfl rfl hdV_X4_thrown ⟨(Nat.le_of_ble_eq_true rfl), (Nat.le_of_ble_eq_true rfl)⟩) hK (gPl hP) (gDl hD) 0 rfl rfl rfl hl.1 (Nat.le_of_ble_eq_true rfl) dL_law_370 ⟨by show _ ≤ 601024; omega, by show _ ≤ 7293000; omega⟩) hP hS hD hA (fun H locs hP hS => ?_)
  refine lv_iload hx hb dL_law_373 (lv_at hl 1 rfl) ?_
  refine lv_icmp_eq (tgt := 380) hx hb dL_law_375 (by decide) (fun _ => ?_) (fun h9 => absurd e3 h9)
  refine lv_iload hx hb dL_law_380 (lv_at hl 1 rfl) ?_
  refine lv_if_ne (tgt := 397) hx hb dL_law_382 (by decide) (fun _ => ?_) (fun hk0 => ?_)
  · refine lv_goto (tgt := 1806) hx hb dL_law_397 (by decide) ?_
    exact kk _ _ _ _ _ _ _ _ _ ⟨gsP hP, gsD hD, hS⟩ (lv_sub hl [2, 3, 4, 5, 6] rfl) ⟨S2.mono (by omega), by omega, by omega⟩
  · refine lv_aload_n hx hb dL_law_385 rfl (lv_at hl 5 rfl) ?_
    refine lv_iconst (v := 0) hx hb dL_law_386 (by decide) ?_
    refine va_lald hx hb hK hP 31 1 rfl rfl (inb_in inb01) dL_law_387 ?_
    refine lv_iload hx hb dL_law_388 (lv_at hl 0 rfl) ?_
    refine lv_i2l hx hb dL_law_390 rfl ?_
    refine W.lcmp hx hb dL_law_391 ?_
    refine lv_if_eq (tgt := 397) hx hb dL_law_392 (by decide) (fun _ => ?_) (fun h9 => absurd (lgc0 (e4 hk0)) h9)
    refine lv_goto (tgt := 1806) hx hb dL_law_397 (by decide) ?_
    exact kk _ _ _ _ _ _ _ _ _ ⟨gsP hP, gsD hD, hS⟩ (lv_sub hl [2, 3, 4, 5, 6] rfl) ⟨S2.mono (by omega), by omega, by omega⟩
set_option maxHeartbeats 4000000 in
set_option maxRecDepth 100000 in
theorem law_c4 {p : Program} {l : Launch} {e : Env} {s : State} {m : MethodId} {below : List Frame} {meth : Method} {c : Code} {b L : Nat} {xs : Nat → Int32} {G : va_G} {cI cL cZ cB : ClassId} (X : LX p l s m meth c b L xs G cI cL cZ cB) {Qf : Nat → Nat} {q bo lm t i : Nat} {iv : Int32} (hi : i + 5 ≤ L) (hiv : iv = Int32.ofNat i) (ht : t < 512) {H : Heap} {locs : List Loc} {ls : Array Slot} {A1 A2 : Nat → Nat} {z : Lo} {mm : Ms} {cells slots : Nat} (hI : LI s G cI cL cZ cB Qf q bo H locs A1 A2 z mm) (hl : lv_has ls 8 (lvL b Qf q bo iv)) (hB : LB lm t cells slots z mm)
    (kk : LK p l e s m below meth c b G cI cL cZ cB Qf q bo iv lm t) : W p l e room_1 s m #[Value.ref b] below meth c H locs cells slots (lw_Z below #[Value.ref b] s) (F0 m 400 ls []) := by
  obtain ⟨hx, hb, hr, hml, hown, hts, hX, hbl, hlocks, hl0, hK, hT, hN, hL⟩ := X
  obtain ⟨hP, hD, hS⟩ := hI
  obtain ⟨S, hc1, hs1⟩ := hB
  have FX : CallFix p m c code 8 s _ lwT RL := ⟨hx, hb, hml, hown, hts⟩
  have hA : ∀ q9 : Nat, s.heap.size ≤ q9 → lwA s q9 := fun _ h => h
  have hbA : ¬ lwA s b := Nat.not_le.mpr hbl
  have hKc : va_K G vwCl (ct cL cZ) s := hK.sub (tys' := ct cL cZ) [1, 2] rfl
  have h1 : vp_in (iv + 1) L := lw_in (k := 1) hi hL hiv (by omega) rfl
  have h2 : vp_in (iv + 2) L := lw_in (k := 2) hi hL hiv (by omega) rfl
  have h3 : vp_in (iv + 3) L := lw_in (k := 3) hi hL hiv (by omega) rfl
  have h4 : vp_in (iv + 4) L := lw_in (k := 4) hi hL hiv (by omega) rfl
  have hl : lv_has ls 8 [(0, .ref b), (1, .ref (Qf 0)), (2, .ref q), (3, .ref bo), (4, .int iv)] := hl
  obtain ⟨c1, d1, z2, m2, k, bb, e1, e2, e3, e4, S2, e5⟩ := J_text (xs (iv + 1).toNatClampNeg) (xs (iv + 2).toNatClampNeg) S (by omega)
  have pm := PotM S2
  refine lv_aload_n hx hb dL_law_400 rfl (lv_at hl 1 rfl) ?_
  refine lv_aload_n hx hb dL_law_401 rfl (lv_at hl 0 rfl) ?_
  refine lv_iload hx hb dL_law_402 (lv_at hl 4 rfl) ?_
  refine lv_iconst (v := 1) hx hb dL_law_404 (by decide) ?_
  refine lv_iadd hx hb dL_law_405 ?_
  refine va_sld hx hb hX hbl hbA hS h1 dL_law_406 ?_
  refine lv_aload_n hx hb dL_law_407 rfl (lv_at hl 0 rfl) ?_
  refine lv_iload hx hb dL_law_408 (lv_at hl 4 rfl) ?_
  refine lv_iconst (v := 2) hx hb dL_law_410 (by decide) ?_
  refine lv_iadd hx hb dL_law_411 ?_
  refine va_sld hx hb hX hbl hbA hS h2 dL_law_412 ?_
  refine lv_aload_n hx hb dL_law_413 rfl (lv_at hl 3 rfl) ?_
  refine gfWi (gSn FX [.ref (Qf 0), .int (xs (iv + 1).toNatClampNeg), .int (xs (iv + 2).toNatClampNeg), .ref bo] (c_la_text l hl0 G cL cZ Qf bo A1 z _ (xs (iv + 1).toNatClampNeg) (xs (iv + 2).toNatClampNeg) c1 (z2, k) e1) (vx_cwSW 4 hts (gi_SU wq_38 wq_39 wq_40 wq_41) rfl rfl rfl hdU_L_text ⟨(Nat.le_of_ble_eq_true rfl), (Nat.le_of_ble_eq_true rfl)⟩) hKc (gPl hP) (gDl hD) hT hN hS hA rfl hl.1 (Nat.le_of_ble_eq_true rfl) dL_law_414 ⟨by show _ ≤ 601024; omega, by show _ ≤ 7293000; omega⟩) hP hS hD hA (fun A1 H locs hP hD hS => ?_)
  refine lv_istore (lv' := [(5, .int k), (0, .ref b), (1, .ref (Qf 0)), (2, .ref q), (3, .ref bo), (4, .int iv)]) hx hb dL_law_417 hl (by decide) rfl (fun ls hl => ?_)
  refine lv_aload_n hx hb dL_law_419 rfl (lv_at hl 3 rfl) ?_
  refine lv_aload_n hx hb dL_law_420 rfl (lv_at hl 1 rfl) ?_
  refine lv_iload hx hb dL_law_421 (lv_at hl 5 rfl) ?_
  refine lv_iconst (v := 1) hx hb dL_law_423 (by decide) ?_
  refine lv_iadd hx hb dL_law_424 ?_
  refine va_sld hx hb hX hbl hbA hS h1 dL_law_425 ?_
  refine lv_aload_n hx hb dL_law_426 rfl (lv_at hl 1 rfl) ?_
  refine lv_iload hx hb dL_law_427 (lv_at hl 5 rfl) ?_
  refine lv_iconst (v := 2) hx hb dL_law_429 (by decide) ?_
  refine lv_iadd hx hb dL_law_430 ?_
  refine va_sld hx hb hX hbl hbA hS h2 dL_law_431 ?_
  have hP := gsP hP
  have hD := gsD hD
  refine gfWi (gV FX [.int (xs (iv + 1).toNatClampNeg), .int (xs (iv + 2).toNatClampNeg)] (c_md_text l G cI cL cZ cB q A2 mm _ (xs (iv + 1).toNatClampNeg) (xs (iv + 2).toNatClampNeg) d1 (m2, bb) e2) (cwV 2 hts (gi_V wq_42 wq_43 wq_44 wq_8 wq_45) rfl rfl rfl hdV_X4_text ⟨(Nat.le_of_ble_eq_true rfl), (Nat.le_of_ble_eq_true rfl)⟩) hK (gPl hP) (gDl hD) 0 rfl rfl rfl hl.1 (Nat.le_of_ble_eq_true rfl) dL_law_432 ⟨by show _ ≤ 601024; omega, by show _ ≤ 7293000; omega⟩) hP hS hD hA (fun A2 H locs hP hD hS => ?_)
  refine lv_istore (lv' := [(6, .int bb), (5, .int k), (0, .ref b), (1, .ref (Qf 0)), (2, .ref q), (3, .ref bo), (4, .int iv)]) hx hb dL_law_435 hl (by decide) rfl (fun ls hl => ?_)
  refine lv_aload_n hx hb dL_law_437 rfl (lv_at hl 4 rfl) ?_
  refine gfRi (gV FX [] (c_md_thrown l G cI cL cZ cB q A2 m2 _ (Ms.thr m2) rfl) (cwV 0 hts (gi_V wq_10 wq_11 wq_12 wq_8 wq_13) rfl rfl rfl hdV_X4_thrown ⟨(Nat.le_of_ble_eq_true rfl), (Nat.le_of_ble_eq_true rfl)⟩) hK (gPl hP) (gDl hD) 0 rfl rfl rfl hl.1 (Nat.le_of_ble_eq_true rfl) dL_law_438 ⟨by show _ ≤ 601024; omega, by show _ ≤ 7293000; omega⟩) hP hS hD hA (fun H locs hP hS => ?_)
  refine lv_iload hx hb dL_law_441 (lv_at hl 1 rfl) ?_
  refine lv_icmp_eq (tgt := 448) hx hb dL_law_443 (by decide) (fun _ => ?_) (fun h9 => absurd e3 h9)
  refine lv_iload hx hb dL_law_448 (lv_at hl 1 rfl) ?_
  refine lv_if_ne (tgt := 465) hx hb dL_law_450 (by decide) (fun _ => ?_) (fun hk0 => ?_)
  · refine lv_goto (tgt := 1806) hx hb dL_law_465 (by decide) ?_
    exact kk _ _ _ _ _ _ _ _ _ ⟨gsP hP, gsD hD, hS⟩ (lv_sub hl [2, 3, 4, 5, 6] rfl) ⟨S2.mono (by omega), by omega, by omega⟩
  · refine lv_aload_n hx hb dL_law_453 rfl (lv_at hl 5 rfl) ?_
    refine lv_iconst (v := 0) hx hb dL_law_454 (by decide) ?_
    refine va_lald hx hb hK hP 31 1 rfl rfl (inb_in inb01) dL_law_455 ?_
    refine lv_iload hx hb dL_law_456 (lv_at hl 0 rfl) ?_
    refine lv_i2l hx hb dL_law_458 rfl ?_
    refine W.lcmp hx hb dL_law_459 ?_
    refine lv_if_eq (tgt := 465) hx hb dL_law_460 (by decide) (fun _ => ?_) (fun h9 => absurd (lgc0 (e4 hk0)) h9)
    refine lv_goto (tgt := 1806) hx hb dL_law_465 (by decide) ?_
    exact kk _ _ _ _ _ _ _ _ _ ⟨gsP hP, gsD hD, hS⟩ (lv_sub hl [2, 3, 4, 5, 6] rfl) ⟨S2.mono (by omega), by omega, by omega⟩
set_option maxHeartbeats 4000000 in
set_option maxRecDepth 100000 in
theorem law_c5 {p : Program} {l : Launch} {e : Env} {s : State} {m : MethodId} {below : List Frame} {meth : Method} {c : Code} {b L : Nat} {xs : Nat → Int32} {G : va_G} {cI cL cZ cB : ClassId} (X : LX p l s m meth c b L xs G cI cL cZ cB) {Qf : Nat → Nat} {q bo lm t i : Nat} {iv : Int32} (hi : i + 5 ≤ L) (hiv : iv = Int32.ofNat i) (ht : t < 512) {H : Heap} {locs : List Loc} {ls : Array Slot} {A1 A2 : Nat → Nat} {z : Lo} {mm : Ms} {cells slots : Nat} (hI : LI s G cI cL cZ cB Qf q bo H locs A1 A2 z mm) (hl : lv_has ls 8 (lvL b Qf q bo iv)) (hB : LB lm t cells slots z mm)
    (kk : LK p l e s m below meth c b G cI cL cZ cB Qf q bo iv lm t) : W p l e room_1 s m #[Value.ref b] below meth c H locs cells slots (lw_Z below #[Value.ref b] s) (F0 m 468 ls []) := by
  obtain ⟨hx, hb, hr, hml, hown, hts, hX, hbl, hlocks, hl0, hK, hT, hN, hL⟩ := X
  obtain ⟨hP, hD, hS⟩ := hI
  obtain ⟨S, hc1, hs1⟩ := hB
  have FX : CallFix p m c code 8 s _ lwT RL := ⟨hx, hb, hml, hown, hts⟩
  have hA : ∀ q9 : Nat, s.heap.size ≤ q9 → lwA s q9 := fun _ h => h
  have hbA : ¬ lwA s b := Nat.not_le.mpr hbl
  have hKc : va_K G vwCl (ct cL cZ) s := hK.sub (tys' := ct cL cZ) [1, 2] rfl
  have h1 : vp_in (iv + 1) L := lw_in (k := 1) hi hL hiv (by omega) rfl
  have h2 : vp_in (iv + 2) L := lw_in (k := 2) hi hL hiv (by omega) rfl
  have h3 : vp_in (iv + 3) L := lw_in (k := 3) hi hL hiv (by omega) rfl
  have h4 : vp_in (iv + 4) L := lw_in (k := 4) hi hL hiv (by omega) rfl
  have hl : lv_has ls 8 [(0, .ref b), (1, .ref (Qf 0)), (2, .ref q), (3, .ref bo), (4, .int iv)] := hl
  obtain ⟨c1, d1, z2, m2, k, bb, e1, e2, e3, e4, S2, e5⟩ := J_map (xs (iv + 1).toNatClampNeg) (xs (iv + 2).toNatClampNeg) (xs (iv + 3).toNatClampNeg) (xs (iv + 4).toNatClampNeg) S (by omega)
  have pm := PotM S2
  refine lv_aload_n hx hb dL_law_468 rfl (lv_at hl 1 rfl) ?_
  refine lv_aload_n hx hb dL_law_469 rfl (lv_at hl 0 rfl) ?_
  refine lv_iload hx hb dL_law_470 (lv_at hl 4 rfl) ?_
  refine lv_iconst (v := 1) hx hb dL_law_472 (by decide) ?_
  refine lv_iadd hx hb dL_law_473 ?_
  refine va_sld hx hb hX hbl hbA hS h1 dL_law_474 ?_
  refine lv_aload_n hx hb dL_law_475 rfl (lv_at hl 0 rfl) ?_
  refine lv_iload hx hb dL_law_476 (lv_at hl 4 rfl) ?_
  refine lv_iconst (v := 2) hx hb dL_law_478 (by decide) ?_
  refine lv_iadd hx hb dL_law_479 ?_
  refine va_sld hx hb hX hbl hbA hS h2 dL_law_480 ?_
  refine lv_aload_n hx hb dL_law_481 rfl (lv_at hl 0 rfl) ?_
  refine lv_iload hx hb dL_law_482 (lv_at hl 4 rfl) ?_
  refine lv_iconst (v := 3) hx hb dL_law_484 (by decide) ?_
  refine lv_iadd hx hb dL_law_485 ?_
  refine va_sld hx hb hX hbl hbA hS h3 dL_law_486 ?_
  refine lv_aload_n hx hb dL_law_487 rfl (lv_at hl 0 rfl) ?_
  refine lv_iload hx hb dL_law_488 (lv_at hl 4 rfl) ?_
  refine lv_iconst (v := 4) hx hb dL_law_490 (by decide) ?_
  refine lv_iadd hx hb dL_law_491 ?_
  refine va_sld hx hb hX hbl hbA hS h4 dL_law_492 ?_
  refine lv_aload_n hx hb dL_law_493 rfl (lv_at hl 3 rfl) ?_
  refine gfWi (gSn FX [.ref (Qf 0), .int (xs (iv + 1).toNatClampNeg), .int (xs (iv + 2).toNatClampNeg), .int (xs (iv + 3).toNatClampNeg), .int (xs (iv + 4).toNatClampNeg), .ref bo] (c_la_map l hl0 G cL cZ Qf bo A1 z _ (xs (iv + 1).toNatClampNeg) (xs (iv + 2).toNatClampNeg) (xs (iv + 3).toNatClampNeg) (xs (iv + 4).toNatClampNeg) c1 (z2, k) e1) (vx_cwSW 6 hts (gi_SU wq_46 wq_47 wq_48 wq_49) rfl rfl rfl hdU_L_map ⟨(Nat.le_of_ble_eq_true rfl), (Nat.le_of_ble_eq_true rfl)⟩) hKc (gPl hP) (gDl hD) hT hN hS hA rfl hl.1 (Nat.le_of_ble_eq_true rfl) dL_law_494 ⟨by show _ ≤ 601024; omega, by show _ ≤ 7293000; omega⟩) hP hS hD hA (fun A1 H locs hP hD hS => ?_)
  refine lv_istore (lv' := [(5, .int k), (0, .ref b), (1, .ref (Qf 0)), (2, .ref q), (3, .ref bo), (4, .int iv)]) hx hb dL_law_497 hl (by decide) rfl (fun ls hl => ?_)
  refine lv_aload_n hx hb dL_law_499 rfl (lv_at hl 3 rfl) ?_
  refine lv_aload_n hx hb dL_law_500 rfl (lv_at hl 1 rfl) ?_
  refine lv_iload hx hb dL_law_501 (lv_at hl 5 rfl) ?_
  refine lv_iconst (v := 1) hx hb dL_law_503 (by decide) ?_
  refine lv_iadd hx hb dL_law_504 ?_
  refine va_sld hx hb hX hbl hbA hS h1 dL_law_505 ?_
  refine lv_aload_n hx hb dL_law_506 rfl (lv_at hl 1 rfl) ?_
  refine lv_iload hx hb dL_law_507 (lv_at hl 5 rfl) ?_
  refine lv_iconst (v := 2) hx hb dL_law_509 (by decide) ?_
  refine lv_iadd hx hb dL_law_510 ?_
  refine va_sld hx hb hX hbl hbA hS h2 dL_law_511 ?_
  refine lv_aload_n hx hb dL_law_512 rfl (lv_at hl 1 rfl) ?_
  refine lv_iload hx hb dL_law_513 (lv_at hl 5 rfl) ?_
  refine lv_iconst (v := 3) hx hb dL_law_515 (by decide) ?_
  refine lv_iadd hx hb dL_law_516 ?_
  refine va_sld hx hb hX hbl hbA hS h3 dL_law_517 ?_
  refine lv_aload_n hx hb dL_law_518 rfl (lv_at hl 1 rfl) ?_
  refine lv_iload hx hb dL_law_519 (lv_at hl 5 rfl) ?_
  refine lv_iconst (v := 4) hx hb dL_law_521 (by decide) ?_
  refine lv_iadd hx hb dL_law_522 ?_
  refine va_sld hx hb hX hbl hbA hS h4 dL_law_523 ?_
  have hP := gsP hP
  have hD := gsD hD
  refine gfWi (gV FX [.int (xs (iv + 1).toNatClampNeg), .int (xs (iv + 2).toNatClampNeg), .int (xs (iv + 3).toNatClampNeg), .int (xs (iv + 4).toNatClampNeg)] (c_md_map l G cI cL cZ cB q A2 mm _ (xs (iv + 1).toNatClampNeg) (xs (iv + 2).toNatClampNeg) (xs (iv + 3).toNatClampNeg) (xs (iv + 4).toNatClampNeg) d1 (m2, bb) e2) (cwV 4 hts (gi_V wq_50 wq_51 wq_52 wq_8 wq_53) rfl rfl rfl hdV_X4_map ⟨(Nat.le_of_ble_eq_true rfl), (Nat.le_of_ble_eq_true rfl)⟩) hK (gPl hP) (gDl hD) 0 rfl rfl rfl hl.1 (Nat.le_of_ble_eq_true rfl) dL_law_524 ⟨by show _ ≤ 601024; omega, by show _ ≤ 7293000; omega⟩) hP hS hD hA (fun A2 H locs hP hD hS => ?_)
  refine lv_istore (lv' := [(6, .int bb), (5, .int k), (0, .ref b), (1, .ref (Qf 0)), (2, .ref q), (3, .ref bo), (4, .int iv)]) hx hb dL_law_527 hl (by decide) rfl (fun ls hl => ?_)
  refine lv_aload_n hx hb dL_law_529 rfl (lv_at hl 4 rfl) ?_
  refine gfRi (gV FX [] (c_md_thrown l G cI cL cZ cB q A2 m2 _ (Ms.thr m2) rfl) (cwV 0 hts (gi_V wq_10 wq_11 wq_12 wq_8 wq_13) rfl rfl rfl hdV_X4_thrown ⟨(Nat.le_of_ble_eq_true rfl), (Nat.le_of_ble_eq_true rfl)⟩) hK (gPl hP) (gDl hD) 0 rfl rfl rfl hl.1 (Nat.le_of_ble_eq_true rfl) dL_law_530 ⟨by show _ ≤ 601024; omega, by show _ ≤ 7293000; omega⟩) hP hS hD hA (fun H locs hP hS => ?_)
  refine lv_iload hx hb dL_law_533 (lv_at hl 1 rfl) ?_
  refine lv_icmp_eq (tgt := 540) hx hb dL_law_535 (by decide) (fun _ => ?_) (fun h9 => absurd e3 h9)
  refine lv_iload hx hb dL_law_540 (lv_at hl 1 rfl) ?_
  refine lv_if_ne (tgt := 557) hx hb dL_law_542 (by decide) (fun _ => ?_) (fun hk0 => ?_)
  · refine lv_goto (tgt := 1806) hx hb dL_law_557 (by decide) ?_
    exact kk _ _ _ _ _ _ _ _ _ ⟨gsP hP, gsD hD, hS⟩ (lv_sub hl [2, 3, 4, 5, 6] rfl) ⟨S2.mono (by omega), by omega, by omega⟩
  · refine lv_aload_n hx hb dL_law_545 rfl (lv_at hl 5 rfl) ?_
    refine lv_iconst (v := 0) hx hb dL_law_546 (by decide) ?_
    refine va_lald hx hb hK hP 31 1 rfl rfl (inb_in inb01) dL_law_547 ?_
    refine lv_iload hx hb dL_law_548 (lv_at hl 0 rfl) ?_
    refine lv_i2l hx hb dL_law_550 rfl ?_
    refine W.lcmp hx hb dL_law_551 ?_
    refine lv_if_eq (tgt := 557) hx hb dL_law_552 (by decide) (fun _ => ?_) (fun h9 => absurd (lgc0 (e4 hk0)) h9)
    refine lv_goto (tgt := 1806) hx hb dL_law_557 (by decide) ?_
    exact kk _ _ _ _ _ _ _ _ _ ⟨gsP hP, gsD hD, hS⟩ (lv_sub hl [2, 3, 4, 5, 6] rfl) ⟨S2.mono (by omega), by omega, by omega⟩
set_option maxHeartbeats 4000000 in
set_option maxRecDepth 100000 in
theorem law_c6 {p : Program} {l : Launch} {e : Env} {s : State} {m : MethodId} {below : List Frame} {meth : Method} {c : Code} {b L : Nat} {xs : Nat → Int32} {G : va_G} {cI cL cZ cB : ClassId} (X : LX p l s m meth c b L xs G cI cL cZ cB) {Qf : Nat → Nat} {q bo lm t i : Nat} {iv : Int32} (hi : i + 5 ≤ L) (hiv : iv = Int32.ofNat i) (ht : t < 512) {H : Heap} {locs : List Loc} {ls : Array Slot} {A1 A2 : Nat → Nat} {z : Lo} {mm : Ms} {cells slots : Nat} (hI : LI s G cI cL cZ cB Qf q bo H locs A1 A2 z mm) (hl : lv_has ls 8 (lvL b Qf q bo iv)) (hB : LB lm t cells slots z mm)
    (kk : LK p l e s m below meth c b G cI cL cZ cB Qf q bo iv lm t) : W p l e room_1 s m #[Value.ref b] below meth c H locs cells slots (lw_Z below #[Value.ref b] s) (F0 m 560 ls []) := by
  obtain ⟨hx, hb, hr, hml, hown, hts, hX, hbl, hlocks, hl0, hK, hT, hN, hL⟩ := X
  obtain ⟨hP, hD, hS⟩ := hI
  obtain ⟨S, hc1, hs1⟩ := hB
  have FX : CallFix p m c code 8 s _ lwT RL := ⟨hx, hb, hml, hown, hts⟩
  have hA : ∀ q9 : Nat, s.heap.size ≤ q9 → lwA s q9 := fun _ h => h
  have hbA : ¬ lwA s b := Nat.not_le.mpr hbl
  have hKc : va_K G vwCl (ct cL cZ) s := hK.sub (tys' := ct cL cZ) [1, 2] rfl
  have h1 : vp_in (iv + 1) L := lw_in (k := 1) hi hL hiv (by omega) rfl
  have h2 : vp_in (iv + 2) L := lw_in (k := 2) hi hL hiv (by omega) rfl
  have h3 : vp_in (iv + 3) L := lw_in (k := 3) hi hL hiv (by omega) rfl
  have h4 : vp_in (iv + 4) L := lw_in (k := 4) hi hL hiv (by omega) rfl
  have hl : lv_has ls 8 [(0, .ref b), (1, .ref (Qf 0)), (2, .ref q), (3, .ref bo), (4, .int iv)] := hl
  obtain ⟨c1, d1, z2, m2, k, bb, e1, e2, e3, e4, S2, e5⟩ := J_join (xs (iv + 1).toNatClampNeg) (xs (iv + 2).toNatClampNeg) (xs (iv + 3).toNatClampNeg) S (by omega)
  have pm := PotM S2
  refine lv_aload_n hx hb dL_law_560 rfl (lv_at hl 1 rfl) ?_
  refine lv_aload_n hx hb dL_law_561 rfl (lv_at hl 0 rfl) ?_
  refine lv_iload hx hb dL_law_562 (lv_at hl 4 rfl) ?_
  refine lv_iconst (v := 1) hx hb dL_law_564 (by decide) ?_
  refine lv_iadd hx hb dL_law_565 ?_
  refine va_sld hx hb hX hbl hbA hS h1 dL_law_566 ?_
  refine lv_aload_n hx hb dL_law_567 rfl (lv_at hl 0 rfl) ?_
  refine lv_iload hx hb dL_law_568 (lv_at hl 4 rfl) ?_
  refine lv_iconst (v := 2) hx hb dL_law_570 (by decide) ?_
  refine lv_iadd hx hb dL_law_571 ?_
  refine va_sld hx hb hX hbl hbA hS h2 dL_law_572 ?_
  refine lv_aload_n hx hb dL_law_573 rfl (lv_at hl 0 rfl) ?_
  refine lv_iload hx hb dL_law_574 (lv_at hl 4 rfl) ?_
  refine lv_iconst (v := 3) hx hb dL_law_576 (by decide) ?_
  refine lv_iadd hx hb dL_law_577 ?_
  refine va_sld hx hb hX hbl hbA hS h3 dL_law_578 ?_
  refine lv_aload_n hx hb dL_law_579 rfl (lv_at hl 3 rfl) ?_
  refine gfWi (gSn FX [.ref (Qf 0), .int (xs (iv + 1).toNatClampNeg), .int (xs (iv + 2).toNatClampNeg), .int (xs (iv + 3).toNatClampNeg), .ref bo] (c_la_join l hl0 G cL cZ Qf bo A1 z _ (xs (iv + 1).toNatClampNeg) (xs (iv + 2).toNatClampNeg) (xs (iv + 3).toNatClampNeg) c1 (z2, k) e1) (vx_cwSW 5 hts (gi_SU wq_54 wq_55 wq_56 wq_57) rfl rfl rfl hdU_L_join ⟨(Nat.le_of_ble_eq_true rfl), (Nat.le_of_ble_eq_true rfl)⟩) hKc (gPl hP) (gDl hD) hT hN hS hA rfl hl.1 (Nat.le_of_ble_eq_true rfl) dL_law_580 ⟨by show _ ≤ 601024; omega, by show _ ≤ 7293000; omega⟩) hP hS hD hA (fun A1 H locs hP hD hS => ?_)
  refine lv_istore (lv' := [(5, .int k), (0, .ref b), (1, .ref (Qf 0)), (2, .ref q), (3, .ref bo), (4, .int iv)]) hx hb dL_law_583 hl (by decide) rfl (fun ls hl => ?_)
  refine lv_aload_n hx hb dL_law_585 rfl (lv_at hl 3 rfl) ?_
  refine lv_aload_n hx hb dL_law_586 rfl (lv_at hl 1 rfl) ?_
  refine lv_iload hx hb dL_law_587 (lv_at hl 5 rfl) ?_
  refine lv_iconst (v := 1) hx hb dL_law_589 (by decide) ?_
  refine lv_iadd hx hb dL_law_590 ?_
  refine va_sld hx hb hX hbl hbA hS h1 dL_law_591 ?_
  refine lv_aload_n hx hb dL_law_592 rfl (lv_at hl 1 rfl) ?_
  refine lv_iload hx hb dL_law_593 (lv_at hl 5 rfl) ?_
  refine lv_iconst (v := 2) hx hb dL_law_595 (by decide) ?_
  refine lv_iadd hx hb dL_law_596 ?_
  refine va_sld hx hb hX hbl hbA hS h2 dL_law_597 ?_
  refine lv_aload_n hx hb dL_law_598 rfl (lv_at hl 1 rfl) ?_
  refine lv_iload hx hb dL_law_599 (lv_at hl 5 rfl) ?_
  refine lv_iconst (v := 3) hx hb dL_law_601 (by decide) ?_
  refine lv_iadd hx hb dL_law_602 ?_
  refine va_sld hx hb hX hbl hbA hS h3 dL_law_603 ?_
  have hP := gsP hP
  have hD := gsD hD
  refine gfWi (gV FX [.int (xs (iv + 1).toNatClampNeg), .int (xs (iv + 2).toNatClampNeg), .int (xs (iv + 3).toNatClampNeg)] (c_md_join l G cI cL cZ cB q A2 mm _ (xs (iv + 1).toNatClampNeg) (xs (iv + 2).toNatClampNeg) (xs (iv + 3).toNatClampNeg) d1 (m2, bb) e2) (cwV 3 hts (gi_V wq_58 wq_59 wq_60 wq_8 wq_61) rfl rfl rfl hdV_X4_join ⟨(Nat.le_of_ble_eq_true rfl), (Nat.le_of_ble_eq_true rfl)⟩) hK (gPl hP) (gDl hD) 0 rfl rfl rfl hl.1 (Nat.le_of_ble_eq_true rfl) dL_law_604 ⟨by show _ ≤ 601024; omega, by show _ ≤ 7293000; omega⟩) hP hS hD hA (fun A2 H locs hP hD hS => ?_)
  refine lv_istore (lv' := [(6, .int bb), (5, .int k), (0, .ref b), (1, .ref (Qf 0)), (2, .ref q), (3, .ref bo), (4, .int iv)]) hx hb dL_law_607 hl (by decide) rfl (fun ls hl => ?_)
  refine lv_aload_n hx hb dL_law_609 rfl (lv_at hl 4 rfl) ?_
  refine gfRi (gV FX [] (c_md_thrown l G cI cL cZ cB q A2 m2 _ (Ms.thr m2) rfl) (cwV 0 hts (gi_V wq_10 wq_11 wq_12 wq_8 wq_13) rfl rfl rfl hdV_X4_thrown ⟨(Nat.le_of_ble_eq_true rfl), (Nat.le_of_ble_eq_true rfl)⟩) hK (gPl hP) (gDl hD) 0 rfl rfl rfl hl.1 (Nat.le_of_ble_eq_true rfl) dL_law_610 ⟨by show _ ≤ 601024; omega, by show _ ≤ 7293000; omega⟩) hP hS hD hA (fun H locs hP hS => ?_)
  refine lv_iload hx hb dL_law_613 (lv_at hl 1 rfl) ?_
  refine lv_icmp_eq (tgt := 620) hx hb dL_law_615 (by decide) (fun _ => ?_) (fun h9 => absurd e3 h9)
  refine lv_iload hx hb dL_law_620 (lv_at hl 1 rfl) ?_
  refine lv_if_ne (tgt := 637) hx hb dL_law_622 (by decide) (fun _ => ?_) (fun hk0 => ?_)
  · refine lv_goto (tgt := 1806) hx hb dL_law_637 (by decide) ?_
    exact kk _ _ _ _ _ _ _ _ _ ⟨gsP hP, gsD hD, hS⟩ (lv_sub hl [2, 3, 4, 5, 6] rfl) ⟨S2.mono (by omega), by omega, by omega⟩
  · refine lv_aload_n hx hb dL_law_625 rfl (lv_at hl 5 rfl) ?_
    refine lv_iconst (v := 0) hx hb dL_law_626 (by decide) ?_
    refine va_lald hx hb hK hP 31 1 rfl rfl (inb_in inb01) dL_law_627 ?_
    refine lv_iload hx hb dL_law_628 (lv_at hl 0 rfl) ?_
    refine lv_i2l hx hb dL_law_630 rfl ?_
    refine W.lcmp hx hb dL_law_631 ?_
    refine lv_if_eq (tgt := 637) hx hb dL_law_632 (by decide) (fun _ => ?_) (fun h9 => absurd (lgc0 (e4 hk0)) h9)
    refine lv_goto (tgt := 1806) hx hb dL_law_637 (by decide) ?_
    exact kk _ _ _ _ _ _ _ _ _ ⟨gsP hP, gsD hD, hS⟩ (lv_sub hl [2, 3, 4, 5, 6] rfl) ⟨S2.mono (by omega), by omega, by omega⟩
