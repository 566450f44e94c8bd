def At_mp_freezeTexts_l2 (l : Launch) (G : va_G) (cL cZ : ClassId) (Q : Nat → Nat) (w : va_W) (p : Program) (e : Env) (s : State) (m : MethodId) (args : Array Value) (below : List Frame) (meth : Method) (c : Code) (O0 : Hs × Unit) (mcT msT : Nat) (F : Int32 → Int32 → Int32 → Hs → Option (Hs × Unit)) : Prop := ∀ (A : Nat → Nat) (z : Hs) (x1 : Int32) (x2 : Int32) (x3 : Int32) (H : Heap) (locs : List Loc) (ls : Array Slot) (cells slots : Nat), va_P G vwCl (cw cL cZ Q A z) H → va_D (va_A w s.heap.size) (cw cL cZ Q A z) → va_S (va_A w s.heap.size) s.heap H locs → lv_has ls 5 [(0, .ref (Q 3)), (1, .int x1), (2, .int x2), (3, .int x3)] → F x1 x2 x3 z = some O0 → cells + 0 ≤ mcT → slots + 0 ≤ msT → W p l e { frames := 3, cells := mcT, slots := msT, locals := 65 } s m args below meth c H locs cells slots (MQ below (qWv G vwCl (ct cL cZ) w s.heap.size (cw cL cZ Q) O0) args s mcT msT (va_A w s.heap.size)) (F0 m 2 ls [])
set_option maxHeartbeats 4000000 in
set_option maxRecDepth 100000 in
theorem L_mp_freezeTexts_l2 (l : Launch) (G : va_G) (cL cZ : ClassId) (Q : Nat → Nat) (w : va_W) (p : Program) (e : Env) (s : State) (m : MethodId) (args : Array Value) (below : List Frame) (meth : Method) (c : Code) (O0 : Hs × Unit) (mcT msT : Nat) (C : MC p s m args meth c cX1_freezeTexts 5 (none) RX1 vX1_freezeTexts) (hK : va_K G vwCl (ct cL cZ) s) : ∀ n : Nat, At_mp_freezeTexts_l2 l G cL cZ Q w p e s m args below meth c O0 mcT msT (mp_freezeTexts_l2 n) := by
  obtain ⟨hx, hb, hr, hml, hown, hts, hlocks⟩ := id C
  have FX : CallFix p m c cX1_freezeTexts 5 s args vX1_freezeTexts RX1 := ⟨hx, hb, hml, hown, hts⟩
  have hA : ∀ q9 : Nat, s.heap.size ≤ q9 → va_A w s.heap.size q9 := fun q9 h => Or.inr h
  intro n
  induction n with
  | zero =>
    intro A z x1 x2 x3 H locs ls cells slots hP hD hS hl hf hcc hss
    exact nomatch (show none = some _ from hf)
  | succ n ih =>
    intro A z x1 x2 x3 H locs ls cells slots hP hD hS hl hf hcc hss
    rw [mp_freezeTexts_l2] at hf
    refine lv_iload_n hx hb dX1_freezeTexts_2 rfl (lv_at hl 3 rfl) ?_
    refine lv_aload_n hx hb dX1_freezeTexts_3 rfl (lv_at hl 0 rfl) ?_
    refine lv_iload_n hx hb dX1_freezeTexts_4 rfl (lv_at hl 1 rfl) ?_
    obtain ⟨r1, ho1, hf⟩ := of_b0 hf
    refine gcRi (gV FX [.int x1] (c_mp_keyWords l G cL cZ Q A z _ x1 _ ho1) (cwV 1 hts (gi_V wd_183 wd_184 wd_185 wd_159 wd_186) rfl rfl rfl hdV_X1_keyWords ⟨Nat.le_of_ble_eq_true rfl, Nat.le_of_ble_eq_true rfl⟩) hK hP hD 3 rfl rfl rfl hl.1 (Nat.le_of_ble_eq_true rfl) dX1_freezeTexts_5 ⟨by show _ ≤ mcT; omega, by show _ ≤ msT; omega⟩) hS hD hA (fun H locs hP hS => ?_)
    refine lv_icmp_ge (tgt := 52) hx hb dX1_freezeTexts_8 (by decide) (fun c2 => ?_) (fun c2 => ?_)
    · have hf := (if_pos c2).symm.trans hf
      obtain rfl := Option.some.inj hf
      exact grWv hx hb hr hlocks hP hK hD hS dX1_freezeTexts_52 (by omega) (by omega)
    · have hf := (if_neg c2).symm.trans hf
      refine lv_aload_n hx hb dX1_freezeTexts_11 rfl (lv_at hl 0 rfl) ?_
      refine va_get (D := G) (ci := 1) (v := .ref (Q 1)) (C := RX1) (T := TX1) (N := 2) hx hb hts (fun w h => .tail _ (wl_X1 w h)) hown hK hP 3 rfl rfl 0 (by decide) (hts _ (.tail _ wd_152)) (fun _ h9 => h9) rfl dX1_freezeTexts_12 ?_
      refine lv_iload_n hx hb dX1_freezeTexts_15 rfl (lv_at hl 2 rfl) ?_
      refine lv_iload_n hx hb dX1_freezeTexts_16 rfl (lv_at hl 3 rfl) ?_
      refine lv_iadd hx hb dX1_freezeTexts_17 ?_
      obtain ⟨r3, ho3, hf⟩ := of_b0 hf
      refine gcRi (gV FX [.int (x2 + x3)] (c_hp_handleAt l G cL cZ Q A z _ (x2 + x3) _ ho3) (cwV 1 hts (gi_V wd_191 wd_14 wd_15 wd_7 wd_16) rfl rfl rfl hdV_X0_handleAt ⟨Nat.le_of_ble_eq_true rfl, Nat.le_of_ble_eq_true rfl⟩) hK hP hD 1 rfl rfl rfl hl.1 (Nat.le_of_ble_eq_true rfl) dX1_freezeTexts_18 ⟨by show _ ≤ mcT; omega, by show _ ≤ msT; omega⟩) hS hD hA (fun H locs hP hS => ?_)
      refine lv_istore (lv' := [(4, .int r3), (0, .ref (Q 3)), (1, .int x1), (2, .int x2), (3, .int x3)]) hx hb dX1_freezeTexts_21 hl (by decide) rfl (fun ls hl => ?_)
      refine lv_aload_n hx hb dX1_freezeTexts_23 rfl (lv_at hl 1 rfl) ?_
      refine lv_iload_n hx hb dX1_freezeTexts_24 rfl (lv_at hl 2 rfl) ?_
      refine lv_iload_n hx hb dX1_freezeTexts_25 rfl (lv_at hl 4 rfl) ?_
      obtain ⟨r4, ho4, hf⟩ := of_b0 hf
      refine gcRi (gV FX [.int x1, .int x3] (c_mp_isTextual l G cL cZ Q A z _ x1 x3 _ ho4) (cwV 2 hts (gi_V wd_175 wd_176 wd_177 wd_159 wd_178) rfl rfl rfl hdV_X1_isTextual ⟨Nat.le_of_ble_eq_true rfl, Nat.le_of_ble_eq_true rfl⟩) hK hP hD 3 rfl rfl rfl hl.1 (Nat.le_of_ble_eq_true rfl) dX1_freezeTexts_26 ⟨by show _ ≤ mcT; omega, by show _ ≤ msT; omega⟩) hS hD hA (fun H locs hP hS => ?_)
      refine lv_if_eq (tgt := 46) hx hb dX1_freezeTexts_29 (by decide) (fun c5 => ?_) (fun c5 => ?_)
      · have hf := (if_pos c5).symm.trans hf
        refine lv_iinc (v := (x3 + 1)) (lv' := [(3, .int (x3 + 1)), (4, .int r3), (0, .ref (Q 3)), (1, .int x1), (2, .int x2)]) hx hb dX1_freezeTexts_46 hl (k := 4) rfl rfl (by decide) rfl (fun ls hl => ?_)
        refine lv_goto (tgt := 2) hx hb dX1_freezeTexts_49 (by decide) ?_
        exact ih _ _ _ _ _ _ _ _ _ _ hP hD hS (lv_sub hl [2, 3, 4, 0] rfl) hf (by omega) (by omega)
      · have hf := (if_neg c5).symm.trans hf
        refine lv_iload hx hb dX1_freezeTexts_32 (lv_at hl 0 rfl) ?_
        refine lv_if_eq (tgt := 46) hx hb dX1_freezeTexts_34 (by decide) (fun c6 => ?_) (fun c6 => ?_)
        · have hf := (if_pos c6).symm.trans hf
          refine lv_iinc (v := (x3 + 1)) (lv' := [(3, .int (x3 + 1)), (4, .int r3), (0, .ref (Q 3)), (1, .int x1), (2, .int x2)]) hx hb dX1_freezeTexts_46 hl (k := 4) rfl rfl (by decide) rfl (fun ls hl => ?_)
          refine lv_goto (tgt := 2) hx hb dX1_freezeTexts_49 (by decide) ?_
          exact ih _ _ _ _ _ _ _ _ _ _ hP hD hS (lv_sub hl [2, 3, 4, 0] rfl) hf (by omega) (by omega)
        · have hf := (if_neg c6).symm.trans hf
          refine lv_aload_n hx hb dX1_freezeTexts_37 rfl (lv_at hl 1 rfl) ?_
          refine va_get (D := G) (ci := 1) (v := .ref (Q 1)) (C := RX1) (T := TX1) (N := 2) hx hb hts (fun w h => .tail _ (wl_X1 w h)) hown hK hP 3 rfl rfl 0 (by decide) (hts _ (.tail _ wd_152)) (fun _ h9 => h9) rfl dX1_freezeTexts_38 ?_
          refine lv_iload hx hb dX1_freezeTexts_41 (lv_at hl 0 rfl) ?_
          obtain ⟨z7, o9, ho7, hf⟩ := of_bw hf
          refine gcWv (gV FX [.int r3] (c_hp_freeze l G cL cZ Q A z _ r3 _ ho7) (cwV 1 hts (gi_V wd_230 wd_231 wd_232 wd_7 wd_233) rfl rfl rfl hdV_X0_freeze ⟨Nat.le_of_ble_eq_true rfl, Nat.le_of_ble_eq_true rfl⟩) hK hP hD 1 rfl rfl rfl hl.1 (Nat.le_of_ble_eq_true rfl) dX1_freezeTexts_43 ⟨by show _ ≤ mcT; omega, by show _ ≤ msT; omega⟩) hS hD hA (fun A H locs hP hD hS => ?_)
          refine lv_iinc (v := (x3 + 1)) (lv' := [(3, .int (x3 + 1)), (4, .int r3), (0, .ref (Q 3)), (1, .int x1), (2, .int x2)]) hx hb dX1_freezeTexts_46 hl (k := 4) rfl rfl (by decide) rfl (fun ls hl => ?_)
          refine lv_goto (tgt := 2) hx hb dX1_freezeTexts_49 (by decide) ?_
          exact ih _ _ _ _ _ _ _ _ _ _ hP hD hS (lv_sub hl [2, 3, 4, 0] rfl) hf (by omega) (by omega)
set_option maxHeartbeats 4000000 in
set_option maxRecDepth 100000 in
theorem c_mp_freezeTexts (l : Launch) (G : va_G) (cL cZ : ClassId) (Q : Nat → Nat) (A : Nat → Nat) (z : Hs) (sz : Nat) (p0 : Int32) (p1 : Int32) (O0 : Hs × Unit) (hf : mp_freezeTexts z p0 p1 = some O0) : Met l yX1_freezeTexts vX1_freezeTexts { frames := 3, cells := 0, slots := 0, locals := 65 } (gPc G vwCl (ct cL cZ) [.ref (Q 3), .int p0, .int p1] (cw cL cZ Q A z) sz) (qWv G vwCl (ct cL cZ) (cw cL cZ Q A z) sz (cw cL cZ Q) O0) 0 0 (va_A (cw cL cZ Q A z) sz) := by
  refine gMet (by decide) rfl (Nat.le_of_ble_eq_true rfl) ?_
  intro p e s m below meth c ls C hK hP hD hsz hl
  subst hsz
  obtain ⟨hx, hb, hr, hml, hown, hts, hlocks⟩ := id C
  have FX : CallFix p m c cX1_freezeTexts 5 s _ vX1_freezeTexts RX1 := ⟨hx, hb, hml, hown, hts⟩
  have hA : ∀ q9 : Nat, s.heap.size ≤ q9 → va_A (cw cL cZ Q A z) s.heap.size q9 := fun q9 h => Or.inr h
  have hS : va_S (va_A (cw cL cZ Q A z) s.heap.size) s.heap s.heap [] := va_S.rf
  have hl : lv_has ls 5 [(0, .ref (Q 3)), (1, .int p0), (2, .int p1)] := hl
  unfold mp_freezeTexts at hf
  refine lv_iconst (v := 0) hx hb dX1_freezeTexts_0 (by decide) ?_
  refine lv_istore_n (lv' := [(3, .int 0), (0, .ref (Q 3)), (1, .int p0), (2, .int p1)]) hx hb dX1_freezeTexts_1 rfl hl (by decide) rfl (fun ls hl => ?_)
  exact L_mp_freezeTexts_l2 _ _ _ _ _ _ _ _ _ _ _ _ _ _ _ _ _ C hK FU _ _ _ _ _ _ _ _ _ _ hP hD hS (lv_sub hl [1, 2, 3, 0] rfl) hf (by omega) (by omega)
set_option maxHeartbeats 4000000 in
set_option maxRecDepth 100000 in
theorem c_mp_append (l : Launch) (G : va_G) (cL cZ : ClassId) (Q : Nat → Nat) (A : Nat → Nat) (z : Hs) (sz : Nat) (p0 : Int32) (p1 : Int32) (O0 : Hs × Int32) (hf : mp_append z p0 p1 = some O0) : Met l yX1_append vX1_append { frames := 4, cells := 0, slots := 0, locals := 89 } (gPc G vwCl (ct cL cZ) [.ref (Q 3), .int p0, .int p1] (cw cL cZ Q A z) sz) (qWi G vwCl (ct cL cZ) (cw cL cZ Q A z) sz (cw cL cZ Q) O0) 0 0 (va_A (cw cL cZ Q A z) sz) := by
  refine gMet (by decide) rfl (Nat.le_of_ble_eq_true rfl) ?_
  intro p e s m below meth c ls C hK hP hD hsz hl
  subst hsz
  obtain ⟨hx, hb, hr, hml, hown, hts, hlocks⟩ := id C
  have FX : CallFix p m c cX1_append 5 s _ vX1_append RX1 := ⟨hx, hb, hml, hown, hts⟩
  have hA : ∀ q9 : Nat, s.heap.size ≤ q9 → va_A (cw cL cZ Q A z) s.heap.size q9 := fun q9 h => Or.inr h
  have hS : va_S (va_A (cw cL cZ Q A z) s.heap.size) s.heap s.heap [] := va_S.rf
  have hl : lv_has ls 5 [(0, .ref (Q 3)), (1, .int p0), (2, .int p1)] := hl
  unfold mp_append at hf
  refine lv_aload_n hx hb dX1_append_0 rfl (lv_at hl 0 rfl) ?_
  refine lv_iload_n hx hb dX1_append_1 rfl (lv_at hl 1 rfl) ?_
  refine lv_aload_n hx hb dX1_append_2 rfl (lv_at hl 0 rfl) ?_
  refine lv_iload_n hx hb dX1_append_3 rfl (lv_at hl 1 rfl) ?_
  obtain ⟨r1, ho1, hf⟩ := of_b0 hf
  refine gcRi (gV FX [.int p0] (c_mp_slotWords l G cL cZ Q A z _ p0 _ ho1) (cwV 1 hts (gi_V wd_209 wd_210 wd_211 wd_159 wd_212) rfl rfl rfl hdV_X1_slotWords ⟨Nat.le_of_ble_eq_true rfl, Nat.le_of_ble_eq_true rfl⟩) hK hP hD 3 rfl rfl rfl hl.1 (Nat.le_of_ble_eq_true rfl) dX1_append_4 ⟨by show _ ≤ 0; omega, by show _ ≤ 0; omega⟩) hS hD hA (fun H locs hP hS => ?_)
  obtain ⟨r2, ho2, hf⟩ := of_b0 hf
  refine gcRi (gV FX [.int p0, .int r1] (c_mp_slotsEnd l G cL cZ Q A z _ p0 r1 _ ho2) (cwV 2 hts (gi_V wd_205 wd_206 wd_207 wd_159 wd_208) rfl rfl rfl hdV_X1_slotsEnd ⟨Nat.le_of_ble_eq_true rfl, Nat.le_of_ble_eq_true rfl⟩) hK hP hD 3 rfl rfl rfl hl.1 (Nat.le_of_ble_eq_true rfl) dX1_append_7 ⟨by show _ ≤ 0; omega, by show _ ≤ 0; omega⟩) hS hD hA (fun H locs hP hS => ?_)
  refine lv_istore_n (lv' := [(3, .int r2), (0, .ref (Q 3)), (1, .int p0), (2, .int p1)]) hx hb dX1_append_10 rfl hl (by decide) rfl (fun ls hl => ?_)
  refine lv_aload_n hx hb dX1_append_11 rfl (lv_at hl 1 rfl) ?_
  refine lv_iload_n hx hb dX1_append_12 rfl (lv_at hl 2 rfl) ?_
  refine lv_iconst (v := 3) hx hb dX1_append_13 (by decide) ?_
  obtain ⟨r3, ho3, hf⟩ := of_b0 hf
  refine gcRi (gV FX [.int p0, .int 3] (c_mp_field l G cL cZ Q A z _ p0 3 _ ho3) (cwV 2 hts (gi_V wd_161 wd_162 wd_163 wd_159 wd_164) rfl rfl rfl hdV_X1_field ⟨Nat.le_of_ble_eq_true rfl, Nat.le_of_ble_eq_true rfl⟩) hK hP hD 3 rfl rfl rfl hl.1 (Nat.le_of_ble_eq_true rfl) dX1_append_14 ⟨by show _ ≤ 0; omega, by show _ ≤ 0; omega⟩) hS hD hA (fun H locs hP hS => ?_)
  refine lv_istore (lv' := [(4, .int r3), (3, .int r2), (0, .ref (Q 3)), (1, .int p0), (2, .int p1)]) hx hb dX1_append_17 hl (by decide) rfl (fun ls hl => ?_)
  refine lv_aload_n hx hb dX1_append_19 rfl (lv_at hl 2 rfl) ?_
  refine va_get (D := G) (ci := 1) (v := .ref (Q 1)) (C := RX1) (T := TX1) (N := 2) hx hb hts (fun w h => .tail _ (wl_X1 w h)) hown hK hP 3 rfl rfl 0 (by decide) (hts _ (.tail _ wd_152)) (fun _ h9 => h9) rfl dX1_append_20 ?_
  refine lv_iload_n hx hb dX1_append_23 rfl (lv_at hl 1 rfl) ?_
  refine lv_iload hx hb dX1_append_24 (lv_at hl 0 rfl) ?_
  refine lv_iconst (v := 1) hx hb dX1_append_26 (by decide) ?_
  refine lv_iadd hx hb dX1_append_27 ?_
  refine lv_i2l hx hb dX1_append_28 rfl ?_
  obtain ⟨z4, o9, ho4, hf⟩ := of_bw hf
  refine gcWv (gV FX [.int r2, .long ((r3 + 1).toInt64)] (c_hp_setNumber l G cL cZ Q A z _ r2 ((r3 + 1).toInt64) _ ho4) (cwV 2 hts (gi_V wd_153 wd_117 wd_118 wd_7 wd_119) rfl rfl rfl hdV_X0_setNumber ⟨Nat.le_of_ble_eq_true rfl, Nat.le_of_ble_eq_true rfl⟩) hK hP hD 1 rfl rfl rfl hl.1 (Nat.le_of_ble_eq_true rfl) dX1_append_29 ⟨by show _ ≤ 0; omega, by show _ ≤ 0; omega⟩) hS hD hA (fun A H locs hP hD hS => ?_)
  refine lv_aload_n hx hb dX1_append_32 rfl (lv_at hl 2 rfl) ?_
  refine va_get (D := G) (ci := 1) (v := .ref (Q 1)) (C := RX1) (T := TX1) (N := 2) hx hb hts (fun w h => .tail _ (wl_X1 w h)) hown hK hP 3 rfl rfl 0 (by decide) (hts _ (.tail _ wd_152)) (fun _ h9 => h9) rfl dX1_append_33 ?_
  refine lv_iload_n hx hb dX1_append_36 rfl (lv_at hl 1 rfl) ?_
  refine lv_iconst (v := 3) hx hb dX1_append_37 (by decide) ?_
  refine lv_iadd hx hb dX1_append_38 ?_
  refine lv_iload_n hx hb dX1_append_39 rfl (lv_at hl 4 rfl) ?_
  refine lv_aload_n hx hb dX1_append_40 rfl (lv_at hl 2 rfl) ?_
  refine lv_iload_n hx hb dX1_append_41 rfl (lv_at hl 3 rfl) ?_
  obtain ⟨r5, ho5, hf⟩ := of_b0 hf
  refine gcRi (gV FX [.int p0] (c_mp_entryWords l G cL cZ Q A z4 _ p0 _ ho5) (cwV 1 hts (gi_V wd_187 wd_188 wd_189 wd_159 wd_190) rfl rfl rfl hdV_X1_entryWords ⟨Nat.le_of_ble_eq_true rfl, Nat.le_of_ble_eq_true rfl⟩) hK hP hD 3 rfl rfl rfl hl.1 (Nat.le_of_ble_eq_true rfl) dX1_append_42 ⟨by show _ ≤ 0; omega, by show _ ≤ 0; omega⟩) hS hD hA (fun H locs hP hS => ?_)
  obtain ⟨z6, o9, ho6, hf⟩ := of_bw hf
  refine gcWv (gV FX [.int (r2 + 3), .int p1, .int r5] (c_hp_copyWords l G cL cZ Q A z4 _ (r2 + 3) p1 r5 _ ho6) (cwV 3 hts (gi_V wd_229 wd_49 wd_50 wd_7 wd_51) rfl rfl rfl hdV_X0_copyWords ⟨Nat.le_of_ble_eq_true rfl, Nat.le_of_ble_eq_true rfl⟩) hK hP hD 1 rfl rfl rfl hl.1 (Nat.le_of_ble_eq_true rfl) dX1_append_45 ⟨by show _ ≤ 0; omega, by show _ ≤ 0; omega⟩) hS hD hA (fun A H locs hP hD hS => ?_)
  refine lv_aload_n hx hb dX1_append_48 rfl (lv_at hl 2 rfl) ?_
  refine lv_iload_n hx hb dX1_append_49 rfl (lv_at hl 3 rfl) ?_
  refine lv_iload_n hx hb dX1_append_50 rfl (lv_at hl 1 rfl) ?_
  refine lv_iconst (v := 3) hx hb dX1_append_51 (by decide) ?_
  refine lv_iadd hx hb dX1_append_52 ?_
  obtain ⟨z7, o9, ho7, hf⟩ := of_bw hf
  refine gcWv (gV FX [.int p0, .int (r2 + 3)] (c_mp_freezeTexts l G cL cZ Q A z6 _ p0 (r2 + 3) _ ho7) (cwV 2 hts (gi_V wd_234 wd_235 wd_236 wd_159 wd_237) rfl rfl rfl hdV_X1_freezeTexts ⟨Nat.le_of_ble_eq_true rfl, Nat.le_of_ble_eq_true rfl⟩) hK hP hD 3 rfl rfl rfl hl.1 (Nat.le_of_ble_eq_true rfl) dX1_append_53 ⟨by show _ ≤ 0; omega, by show _ ≤ 0; omega⟩) hS hD hA (fun A H locs hP hD hS => ?_)
  refine lv_aload_n hx hb dX1_append_56 rfl (lv_at hl 2 rfl) ?_
  refine lv_iload_n hx hb dX1_append_57 rfl (lv_at hl 3 rfl) ?_
  refine lv_iconst (v := 4) hx hb dX1_append_58 (by decide) ?_
  refine lv_aload_n hx hb dX1_append_59 rfl (lv_at hl 2 rfl) ?_
  refine lv_iload_n hx hb dX1_append_60 rfl (lv_at hl 3 rfl) ?_
  refine lv_iconst (v := 4) hx hb dX1_append_61 (by decide) ?_
  obtain ⟨r8, ho8, hf⟩ := of_b0 hf
  refine gcRi (gV FX [.int p0, .int 4] (c_mp_field l G cL cZ Q A z7 _ p0 4 _ ho8) (cwV 2 hts (gi_V wd_161 wd_162 wd_163 wd_159 wd_164) rfl rfl rfl hdV_X1_field ⟨Nat.le_of_ble_eq_true rfl, Nat.le_of_ble_eq_true rfl⟩) hK hP hD 3 rfl rfl rfl hl.1 (Nat.le_of_ble_eq_true rfl) dX1_append_62 ⟨by show _ ≤ 0; omega, by show _ ≤ 0; omega⟩) hS hD hA (fun H locs hP hS => ?_)
  refine lv_iconst (v := 1) hx hb dX1_append_65 (by decide) ?_
  refine lv_iadd hx hb dX1_append_66 ?_
  obtain ⟨z9, o9, ho9, hf⟩ := of_bw hf
  refine gcWv (gV FX [.int p0, .int 4, .int (r8 + 1)] (c_mp_setField l G cL cZ Q A z7 _ p0 4 (r8 + 1) _ ho9) (cwV 3 hts (gi_V wd_156 wd_157 wd_158 wd_159 wd_160) rfl rfl rfl hdV_X1_setField ⟨Nat.le_of_ble_eq_true rfl, Nat.le_of_ble_eq_true rfl⟩) hK hP hD 3 rfl rfl rfl hl.1 (Nat.le_of_ble_eq_true rfl) dX1_append_67 ⟨by show _ ≤ 0; omega, by show _ ≤ 0; omega⟩) hS hD hA (fun A H locs hP hD hS => ?_)
  refine lv_aload_n hx hb dX1_append_70 rfl (lv_at hl 2 rfl) ?_
  refine lv_iload_n hx hb dX1_append_71 rfl (lv_at hl 3 rfl) ?_
  refine lv_iconst (v := 3) hx hb dX1_append_72 (by decide) ?_
  refine lv_iload hx hb dX1_append_73 (lv_at hl 0 rfl) ?_
  refine lv_iconst (v := 1) hx hb dX1_append_75 (by decide) ?_
  refine lv_iadd hx hb dX1_append_76 ?_
  obtain ⟨z10, o9, ho10, hf⟩ := of_bw hf
  refine gcWv (gV FX [.int p0, .int 3, .int (r3 + 1)] (c_mp_setField l G cL cZ Q A z9 _ p0 3 (r3 + 1) _ ho10) (cwV 3 hts (gi_V wd_156 wd_157 wd_158 wd_159 wd_160) rfl rfl rfl hdV_X1_setField ⟨Nat.le_of_ble_eq_true rfl, Nat.le_of_ble_eq_true rfl⟩) hK hP hD 3 rfl rfl rfl hl.1 (Nat.le_of_ble_eq_true rfl) dX1_append_77 ⟨by show _ ≤ 0; omega, by show _ ≤ 0; omega⟩) hS hD hA (fun A H locs hP hD hS => ?_)
  refine lv_aload_n hx hb dX1_append_80 rfl (lv_at hl 2 rfl) ?_
  refine lv_iload_n hx hb dX1_append_81 rfl (lv_at hl 3 rfl) ?_
  refine lv_iconst (v := 2) hx hb dX1_append_82 (by decide) ?_
  refine lv_aload_n hx hb dX1_append_83 rfl (lv_at hl 2 rfl) ?_
  refine lv_iload_n hx hb dX1_append_84 rfl (lv_at hl 3 rfl) ?_
  obtain ⟨r11, ho11, hf⟩ := of_b0 hf
  refine gcRi (gV FX [.int p0] (c_mp_entries l G cL cZ Q A z10 _ p0 _ ho11) (cwV 1 hts (gi_V wd_221 wd_222 wd_223 wd_159 wd_224) rfl rfl rfl hdV_X1_entries ⟨Nat.le_of_ble_eq_true rfl, Nat.le_of_ble_eq_true rfl⟩) hK hP hD 3 rfl rfl rfl hl.1 (Nat.le_of_ble_eq_true rfl) dX1_append_85 ⟨by show _ ≤ 0; omega, by show _ ≤ 0; omega⟩) hS hD hA (fun H locs hP hS => ?_)
  refine lv_iconst (v := 1) hx hb dX1_append_88 (by decide) ?_
  refine lv_iadd hx hb dX1_append_89 ?_
  obtain ⟨z12, o9, ho12, hf⟩ := of_bw hf
  refine gcWv (gV FX [.int p0, .int 2, .int (r11 + 1)] (c_mp_setField l G cL cZ Q A z10 _ p0 2 (r11 + 1) _ ho12) (cwV 3 hts (gi_V wd_156 wd_157 wd_158 wd_159 wd_160) rfl rfl rfl hdV_X1_setField ⟨Nat.le_of_ble_eq_true rfl, Nat.le_of_ble_eq_true rfl⟩) hK hP hD 3 rfl rfl rfl hl.1 (Nat.le_of_ble_eq_true rfl) dX1_append_90 ⟨by show _ ≤ 0; omega, by show _ ≤ 0; omega⟩) hS hD hA (fun A H locs hP hD hS => ?_)
  refine lv_iload hx hb dX1_append_93 (lv_at hl 0 rfl) ?_
  obtain rfl := Option.some.inj hf
  exact grWi hx hb hr hlocks hP hK hD hS dX1_append_95 (by omega) (by omega)
set_option maxHeartbeats 4000000 in
set_option maxRecDepth 100000 in
theorem c_mp_enter (l : Launch) (hl0 : l.stackTraces = false) (G : va_G) (cL cZ : ClassId) (Q : Nat → Nat) (A : Nat → Nat) (z : Hs) (sz : Nat) (p0 : Int32) (p1 : Int32) (p2 : Int32) (c0 : Nat) (O0 : Hs × (String ⊕ Int32)) (hf : mp_enter z p0 p1 p2 = some (c0, O0)) : vx_Met l yX1_enter vX1_enter { frames := 10, cells := 6, slots := 6 + c0, locals := 243 } (gPx txC G vwCl (ct cL cZ) [.ref (Q 3), .int p0, .int p1, .int p2] (cw cL cZ Q A z) sz) (qXi G vwCl (ct cL cZ) (cw cL cZ Q A z) sz (cw cL cZ Q) O0) (xX G vwCl (ct cL cZ) (cw cL cZ Q A z) sz (cw cL cZ Q) O0) 6 (6 + c0) (va_A (cw cL cZ Q A z) sz) := by
  refine gMetx (by decide) rfl (Nat.le_of_ble_eq_true rfl) ?_
  intro p e s m below meth c ls C hE hK hP hD hT hsz hl
  subst hsz
  obtain ⟨hx, hb, hr, hml, hown, hts, hlocks⟩ := id C
  have FX : CallFix p m c cX1_enter 6 s _ vX1_enter RX1 := ⟨hx, hb, hml, hown, hts⟩
  have hA : ∀ q9 : Nat, s.heap.size ≤ q9 → va_A (cw cL cZ Q A z) s.heap.size q9 := fun q9 h => Or.inr h
  have hS : va_S (va_A (cw cL cZ Q A z) s.heap.size) s.heap s.heap [] := va_S.rf
  have hl : lv_has ls 6 [(0, .ref (Q 3)), (1, .int p0), (2, .int p1), (3, .int p2)] := hl
  unfold mp_enter at hf
  refine lv_aload_n hx hb dX1_enter_0 rfl (lv_at hl 0 rfl) ?_
  refine lv_iload_n hx hb dX1_enter_1 rfl (lv_at hl 1 rfl) ?_
  refine lv_aload_n hx hb dX1_enter_2 rfl (lv_at hl 0 rfl) ?_
  refine va_get (D := G) (ci := 1) (v := .ref (Q 1)) (C := RX1) (T := TX1) (N := 2) hx hb hts (fun w h => .tail _ (wl_X1 w h)) hown hK hP 3 rfl rfl 0 (by decide) (hts _ (.tail _ wd_152)) (fun _ h9 => h9) rfl dX1_enter_3 ?_
  refine lv_iload_n hx hb dX1_enter_6 rfl (lv_at hl 2 rfl) ?_
  obtain ⟨r1, ho1, hf⟩ := of_b0 hf
  refine gcRi (gV FX [.int p1] (c_hp_first l G cL cZ Q A z _ p1 _ ho1) (cwV 1 hts (gi_V wd_154 wd_65 wd_66 wd_7 wd_67) rfl rfl rfl hdV_X0_first ⟨Nat.le_of_ble_eq_true rfl, Nat.le_of_ble_eq_true rfl⟩) hK hP hD 1 rfl rfl rfl hl.1 (Nat.le_of_ble_eq_true rfl) dX1_enter_7 ⟨by show _ ≤ 6; omega, by show _ ≤ 6 + c0; omega⟩) hS hD hA (fun H locs hP hS => ?_)
  refine lv_iload_n hx hb dX1_enter_10 rfl (lv_at hl 3 rfl) ?_
  refine lv_iadd hx hb dX1_enter_11 ?_
  obtain ⟨r2, ho2, hf⟩ := of_b0 hf
  refine gcRi (gV FX [.int p0, .int (r1 + p2)] (c_mp_slotOfKey l G cL cZ Q A z _ p0 (r1 + p2) _ ho2) (cwV 2 hts (gi_V wd_255 wd_256 wd_257 wd_159 wd_258) rfl rfl rfl hdV_X1_slotOfKey ⟨Nat.le_of_ble_eq_true rfl, Nat.le_of_ble_eq_true rfl⟩) hK hP hD 3 rfl rfl rfl hl.1 (Nat.le_of_ble_eq_true rfl) dX1_enter_12 ⟨by show _ ≤ 6; omega, by show _ ≤ 6 + c0; omega⟩) hS hD hA (fun H locs hP hS => ?_)
  refine lv_istore (lv' := [(4, .int r2), (0, .ref (Q 3)), (1, .int p0), (2, .int p1), (3, .int p2)]) hx hb dX1_enter_15 hl (by decide) rfl (fun ls hl => ?_)
  refine lv_iload hx hb dX1_enter_17 (lv_at hl 0 rfl) ?_
  refine lv_iconst (v := (-1)) hx hb dX1_enter_19 (by decide) ?_
  refine lv_icmp_eq (tgt := 69) hx hb dX1_enter_20 (by decide) (fun c3 => ?_) (fun c3 => ?_)
  · have hf := (if_pos c3).symm.trans hf
    refine lv_aload_n hx hb dX1_enter_69 rfl (lv_at hl 1 rfl) ?_
    refine lv_iload_n hx hb dX1_enter_70 rfl (lv_at hl 2 rfl) ?_
    refine lv_iconst (v := 4) hx hb dX1_enter_71 (by decide) ?_
    obtain ⟨r4, ho4, hf⟩ := of_b0 hf
    refine gcRi (gV FX [.int p0, .int 4] (c_mp_field l G cL cZ Q A z _ p0 4 _ ho4) (cwV 2 hts (gi_V wd_161 wd_162 wd_163 wd_159 wd_164) rfl rfl rfl hdV_X1_field ⟨Nat.le_of_ble_eq_true rfl, Nat.le_of_ble_eq_true rfl⟩) hK hP hD 3 rfl rfl rfl hl.1 (Nat.le_of_ble_eq_true rfl) dX1_enter_72 ⟨by show _ ≤ 6; omega, by show _ ≤ 6 + c0; omega⟩) hS hD hA (fun H locs hP hS => ?_)
    refine lv_aload_n hx hb dX1_enter_75 rfl (lv_at hl 1 rfl) ?_
    refine lv_iload_n hx hb dX1_enter_76 rfl (lv_at hl 2 rfl) ?_
    obtain ⟨r5, ho5, hf⟩ := of_b0 hf
    refine gcRi (gV FX [.int p0] (c_mp_capacity l G cL cZ Q A z _ p0 _ ho5) (cwV 1 hts (gi_V wd_225 wd_226 wd_227 wd_159 wd_228) rfl rfl rfl hdV_X1_capacity ⟨Nat.le_of_ble_eq_true rfl, Nat.le_of_ble_eq_true rfl⟩) hK hP hD 3 rfl rfl rfl hl.1 (Nat.le_of_ble_eq_true rfl) dX1_enter_77 ⟨by show _ ≤ 6; omega, by show _ ≤ 6 + c0; omega⟩) hS hD hA (fun H locs hP hS => ?_)
    refine lv_icmp_lt (tgt := 113) hx hb dX1_enter_80 (by decide) (fun c6 => ?_) (fun c6 => ?_)
    · have hf := (if_pos c6).symm.trans hf
      refine lv_aload_n hx hb dX1_enter_113 rfl (lv_at hl 1 rfl) ?_
      refine lv_iload_n hx hb dX1_enter_114 rfl (lv_at hl 2 rfl) ?_
      refine lv_aload_n hx hb dX1_enter_115 rfl (lv_at hl 1 rfl) ?_
      refine va_get (D := G) (ci := 1) (v := .ref (Q 1)) (C := RX1) (T := TX1) (N := 2) hx hb hts (fun w h => .tail _ (wl_X1 w h)) hown hK hP 3 rfl rfl 0 (by decide) (hts _ (.tail _ wd_152)) (fun _ h9 => h9) rfl dX1_enter_116 ?_
      refine lv_iload_n hx hb dX1_enter_119 rfl (lv_at hl 3 rfl) ?_
      obtain ⟨r7, ho7, hf⟩ := of_b0 hf
      refine gcRi (gV FX [.int p1] (c_hp_first l G cL cZ Q A z _ p1 _ ho7) (cwV 1 hts (gi_V wd_154 wd_65 wd_66 wd_7 wd_67) rfl rfl rfl hdV_X0_first ⟨Nat.le_of_ble_eq_true rfl, Nat.le_of_ble_eq_true rfl⟩) hK hP hD 1 rfl rfl rfl hl.1 (Nat.le_of_ble_eq_true rfl) dX1_enter_120 ⟨by show _ ≤ 6; omega, by show _ ≤ 6 + c0; omega⟩) hS hD hA (fun H locs hP hS => ?_)
      refine lv_iload_n hx hb dX1_enter_123 rfl (lv_at hl 4 rfl) ?_
      refine lv_iadd hx hb dX1_enter_124 ?_
      obtain ⟨z8, r8, ho8, hf⟩ := of_bw hf
      refine gcWi (gV FX [.int p0, .int (r7 + p2)] (c_mp_append l G cL cZ Q A z _ p0 (r7 + p2) _ ho8) (cwV 2 hts (gi_V wd_238 wd_239 wd_240 wd_159 wd_241) rfl rfl rfl hdV_X1_append ⟨Nat.le_of_ble_eq_true rfl, Nat.le_of_ble_eq_true rfl⟩) hK hP hD 3 rfl rfl rfl hl.1 (Nat.le_of_ble_eq_true rfl) dX1_enter_125 ⟨by show _ ≤ 6; omega, by show _ ≤ 6 + c0; omega⟩) hS hD hA (fun A H locs hP hD hS => ?_)
      obtain ⟨hc0, hj0⟩ := of_some2 hf
      subst hj0
      exact grXi hx hb hr hlocks hP hK hD hS dX1_enter_128 (by omega) (by omega)
    · have hf := (if_neg c6).symm.trans hf
      refine lv_aload_n hx hb dX1_enter_83 rfl (lv_at hl 1 rfl) ?_
      refine lv_iload_n hx hb dX1_enter_84 rfl (lv_at hl 2 rfl) ?_
      obtain ⟨r9, ho9, hf⟩ := of_b0 hf
      refine gcRi (gV FX [.int p0] (c_mp_nextCapacity l G cL cZ Q A z _ p0 _ ho9) (cwV 1 hts (gi_V wd_247 wd_248 wd_249 wd_159 wd_250) rfl rfl rfl hdV_X1_nextCapacity ⟨Nat.le_of_ble_eq_true rfl, Nat.le_of_ble_eq_true rfl⟩) hK hP hD 3 rfl rfl rfl hl.1 (Nat.le_of_ble_eq_true rfl) dX1_enter_85 ⟨by show _ ≤ 6; omega, by show _ ≤ 6 + c0; omega⟩) hS hD hA (fun H locs hP hS => ?_)
      refine lv_istore (lv' := [(5, .int r9), (4, .int r2), (0, .ref (Q 3)), (1, .int p0), (2, .int p1), (3, .int p2)]) hx hb dX1_enter_88 hl (by decide) rfl (fun ls hl => ?_)
      refine lv_aload_n hx hb dX1_enter_90 rfl (lv_at hl 2 rfl) ?_
      refine lv_iload_n hx hb dX1_enter_91 rfl (lv_at hl 3 rfl) ?_
      refine lv_aload_n hx hb dX1_enter_92 rfl (lv_at hl 2 rfl) ?_
      refine va_get (D := G) (ci := 1) (v := .ref (Q 1)) (C := RX1) (T := TX1) (N := 2) hx hb hts (fun w h => .tail _ (wl_X1 w h)) hown hK hP 3 rfl rfl 0 (by decide) (hts _ (.tail _ wd_152)) (fun _ h9 => h9) rfl dX1_enter_93 ?_
      refine lv_iconst (v := 5) hx hb dX1_enter_96 (by decide) ?_
      refine lv_iload hx hb dX1_enter_97 (lv_at hl 0 rfl) ?_
      refine lv_aload_n hx hb dX1_enter_99 rfl (lv_at hl 2 rfl) ?_
      refine lv_iload_n hx hb dX1_enter_100 rfl (lv_at hl 3 rfl) ?_
      obtain ⟨r10, ho10, hf⟩ := of_b0 hf
      refine gcRi (gV FX [.int p0] (c_mp_slotWords l G cL cZ Q A z _ p0 _ ho10) (cwV 1 hts (gi_V wd_209 wd_210 wd_211 wd_159 wd_212) rfl rfl rfl hdV_X1_slotWords ⟨Nat.le_of_ble_eq_true rfl, Nat.le_of_ble_eq_true rfl⟩) hK hP hD 3 rfl rfl rfl hl.1 (Nat.le_of_ble_eq_true rfl) dX1_enter_101 ⟨by show _ ≤ 6; omega, by show _ ≤ 6 + c0; omega⟩) hS hD hA (fun H locs hP hS => ?_)
      refine lv_imul hx hb dX1_enter_104 ?_
      rcases of_bcwt hf with ⟨k11, z11, e9, ho11, hj⟩ | ⟨k11, z11, r11, d11, ho11, hf, ek11⟩
      · obtain ⟨hc0, hj⟩ := of_pair hj
        subst hj
        exact goutXX (gVx FX [.int 5, .int (r9 * r10)] (c_hp_claim l hl0 G cL cZ Q A z _ 5 (r9 * r10) k11 _ ho11) (cwV 2 hts (gi_V wd_246 wd_142 wd_143 wd_7 wd_144) rfl rfl rfl hdV_X0_claim ⟨Nat.le_of_ble_eq_true rfl, Nat.le_of_ble_eq_true rfl⟩) hK hP hD hT hS hA 1 rfl rfl rfl hl.1 (Nat.le_of_ble_eq_true rfl) dX1_enter_105 ⟨by show _ ≤ 6; omega, by show _ ≤ 6 + c0; omega⟩) (noXi) hS hD hK hE hlocks (by omega) (by omega)
      refine gcXi (gVx FX [.int 5, .int (r9 * r10)] (c_hp_claim l hl0 G cL cZ Q A z _ 5 (r9 * r10) k11 _ ho11) (cwV 2 hts (gi_V wd_246 wd_142 wd_143 wd_7 wd_144) rfl rfl rfl hdV_X0_claim ⟨Nat.le_of_ble_eq_true rfl, Nat.le_of_ble_eq_true rfl⟩) hK hP hD hT hS hA 1 rfl rfl rfl hl.1 (Nat.le_of_ble_eq_true rfl) dX1_enter_105 ⟨by show _ ≤ 6; omega, by show _ ≤ 6 + c0; omega⟩) hS hD hA (fun A H locs hP hD hS => ?_)
      refine lv_iload hx hb dX1_enter_108 (lv_at hl 0 rfl) ?_
      obtain ⟨z12, o9, ho12, hf⟩ := of_bw hf
      refine gcWv (gV FX [.int p0, .int r11, .int r9] (c_mp_moveEntries l G cL cZ Q A z11 _ p0 r11 r9 _ ho12) (cwV 3 hts (gi_V wd_242 wd_243 wd_244 wd_159 wd_245) rfl rfl rfl hdV_X1_moveEntries ⟨Nat.le_of_ble_eq_true rfl, Nat.le_of_ble_eq_true rfl⟩) hK hP hD 3 rfl rfl rfl hl.1 (Nat.le_of_ble_eq_true rfl) dX1_enter_110 ⟨by show _ ≤ 6; omega, by show _ ≤ 6 + c0; omega⟩) hS hD hA (fun A H locs hP hD hS => ?_)
      refine lv_aload_n hx hb dX1_enter_113 rfl (lv_at hl 2 rfl) ?_
      refine lv_iload_n hx hb dX1_enter_114 rfl (lv_at hl 3 rfl) ?_
      refine lv_aload_n hx hb dX1_enter_115 rfl (lv_at hl 2 rfl) ?_
      refine va_get (D := G) (ci := 1) (v := .ref (Q 1)) (C := RX1) (T := TX1) (N := 2) hx hb hts (fun w h => .tail _ (wl_X1 w h)) hown hK hP 3 rfl rfl 0 (by decide) (hts _ (.tail _ wd_152)) (fun _ h9 => h9) rfl dX1_enter_116 ?_
      refine lv_iload_n hx hb dX1_enter_119 rfl (lv_at hl 4 rfl) ?_
      obtain ⟨r13, ho13, hf⟩ := of_b0 hf
      refine gcRi (gV FX [.int p1] (c_hp_first l G cL cZ Q A z12 _ p1 _ ho13) (cwV 1 hts (gi_V wd_154 wd_65 wd_66 wd_7 wd_67) rfl rfl rfl hdV_X0_first ⟨Nat.le_of_ble_eq_true rfl, Nat.le_of_ble_eq_true rfl⟩) hK hP hD 1 rfl rfl rfl hl.1 (Nat.le_of_ble_eq_true rfl) dX1_enter_120 ⟨by show _ ≤ 6; omega, by show _ ≤ 6 + c0; omega⟩) hS hD hA (fun H locs hP hS => ?_)
      refine lv_iload_n hx hb dX1_enter_123 rfl (lv_at hl 5 rfl) ?_
      refine lv_iadd hx hb dX1_enter_124 ?_
      obtain ⟨z14, r14, ho14, hf⟩ := of_bw hf
      refine gcWi (gV FX [.int p0, .int (r13 + p2)] (c_mp_append l G cL cZ Q A z12 _ p0 (r13 + p2) _ ho14) (cwV 2 hts (gi_V wd_238 wd_239 wd_240 wd_159 wd_241) rfl rfl rfl hdV_X1_append ⟨Nat.le_of_ble_eq_true rfl, Nat.le_of_ble_eq_true rfl⟩) hK hP hD 3 rfl rfl rfl hl.1 (Nat.le_of_ble_eq_true rfl) dX1_enter_125 ⟨by show _ ≤ 6; omega, by show _ ≤ 6 + c0; omega⟩) hS hD hA (fun A H locs hP hD hS => ?_)
      obtain ⟨hc0, hj0⟩ := of_some2 hf
      subst hj0
      exact grXi hx hb hr hlocks hP hK hD hS dX1_enter_128 (by omega) (by omega)
  · have hf := (if_neg c3).symm.trans hf
    refine lv_aload_n hx hb dX1_enter_23 rfl (lv_at hl 1 rfl) ?_
    refine lv_iload_n hx hb dX1_enter_24 rfl (lv_at hl 2 rfl) ?_
    obtain ⟨r15, ho15, hf⟩ := of_b0 hf
    refine gcRi (gV FX [.int p0] (c_mp_keyWords l G cL cZ Q A z _ p0 _ ho15) (cwV 1 hts (gi_V wd_183 wd_184 wd_185 wd_159 wd_186) rfl rfl rfl hdV_X1_keyWords ⟨Nat.le_of_ble_eq_true rfl, Nat.le_of_ble_eq_true rfl⟩) hK hP hD 3 rfl rfl rfl hl.1 (Nat.le_of_ble_eq_true rfl) dX1_enter_25 ⟨by show _ ≤ 6; omega, by show _ ≤ 6 + c0; omega⟩) hS hD hA (fun H locs hP hS => ?_)
    refine lv_istore (lv' := [(5, .int r15), (4, .int r2), (0, .ref (Q 3)), (1, .int p0), (2, .int p1), (3, .int p2)]) hx hb dX1_enter_28 hl (by decide) rfl (fun ls hl => ?_)
    refine lv_aload_n hx hb dX1_enter_30 rfl (lv_at hl 2 rfl) ?_
    refine va_get (D := G) (ci := 1) (v := .ref (Q 1)) (C := RX1) (T := TX1) (N := 2) hx hb hts (fun w h => .tail _ (wl_X1 w h)) hown hK hP 3 rfl rfl 0 (by decide) (hts _ (.tail _ wd_152)) (fun _ h9 => h9) rfl dX1_enter_31 ?_
    refine lv_iload hx hb dX1_enter_34 (lv_at hl 1 rfl) ?_
    refine lv_iconst (v := 3) hx hb dX1_enter_36 (by decide) ?_
    refine lv_iadd hx hb dX1_enter_37 ?_
    refine lv_iload hx hb dX1_enter_38 (lv_at hl 0 rfl) ?_
    refine lv_iadd hx hb dX1_enter_40 ?_
    refine lv_aload_n hx hb dX1_enter_41 rfl (lv_at hl 2 rfl) ?_
    refine va_get (D := G) (ci := 1) (v := .ref (Q 1)) (C := RX1) (T := TX1) (N := 2) hx hb hts (fun w h => .tail _ (wl_X1 w h)) hown hK hP 3 rfl rfl 0 (by decide) (hts _ (.tail _ wd_152)) (fun _ h9 => h9) rfl dX1_enter_42 ?_
    refine lv_iload_n hx hb dX1_enter_45 rfl (lv_at hl 4 rfl) ?_
    obtain ⟨r16, ho16, hf⟩ := of_b0 hf
    refine gcRi (gV FX [.int p1] (c_hp_first l G cL cZ Q A z _ p1 _ ho16) (cwV 1 hts (gi_V wd_154 wd_65 wd_66 wd_7 wd_67) rfl rfl rfl hdV_X0_first ⟨Nat.le_of_ble_eq_true rfl, Nat.le_of_ble_eq_true rfl⟩) hK hP hD 1 rfl rfl rfl hl.1 (Nat.le_of_ble_eq_true rfl) dX1_enter_46 ⟨by show _ ≤ 6; omega, by show _ ≤ 6 + c0; omega⟩) hS hD hA (fun H locs hP hS => ?_)
    refine lv_iload_n hx hb dX1_enter_49 rfl (lv_at hl 5 rfl) ?_
    refine lv_iadd hx hb dX1_enter_50 ?_
    refine lv_iload hx hb dX1_enter_51 (lv_at hl 0 rfl) ?_
    refine lv_iadd hx hb dX1_enter_53 ?_
    refine lv_aload_n hx hb dX1_enter_54 rfl (lv_at hl 2 rfl) ?_
    refine lv_iload_n hx hb dX1_enter_55 rfl (lv_at hl 3 rfl) ?_
    obtain ⟨r17, ho17, hf⟩ := of_b0 hf
    refine gcRi (gV FX [.int p0] (c_mp_valueWords l G cL cZ Q A z _ p0 _ ho17) (cwV 1 hts (gi_V wd_251 wd_252 wd_253 wd_159 wd_254) rfl rfl rfl hdV_X1_valueWords ⟨Nat.le_of_ble_eq_true rfl, Nat.le_of_ble_eq_true rfl⟩) hK hP hD 3 rfl rfl rfl hl.1 (Nat.le_of_ble_eq_true rfl) dX1_enter_56 ⟨by show _ ≤ 6; omega, by show _ ≤ 6 + c0; omega⟩) hS hD hA (fun H locs hP hS => ?_)
    obtain ⟨z18, o9, ho18, hf⟩ := of_bw hf
    refine gcWv (gV FX [.int ((r2 + 3) + r15), .int ((r16 + p2) + r15), .int r17] (c_hp_copyWords l G cL cZ Q A z _ ((r2 + 3) + r15) ((r16 + p2) + r15) r17 _ ho18) (cwV 3 hts (gi_V wd_229 wd_49 wd_50 wd_7 wd_51) rfl rfl rfl hdV_X0_copyWords ⟨Nat.le_of_ble_eq_true rfl, Nat.le_of_ble_eq_true rfl⟩) hK hP hD 1 rfl rfl rfl hl.1 (Nat.le_of_ble_eq_true rfl) dX1_enter_59 ⟨by show _ ≤ 6; omega, by show _ ≤ 6 + c0; omega⟩) hS hD hA (fun A H locs hP hD hS => ?_)
    refine lv_aload_n hx hb dX1_enter_62 rfl (lv_at hl 2 rfl) ?_
    refine lv_iload hx hb dX1_enter_63 (lv_at hl 1 rfl) ?_
    obtain ⟨r19, ho19, hf⟩ := of_b0 hf
    refine gcRi (gV FX [.int r2] (c_mp_orderIn l G cL cZ Q A z18 _ r2 _ ho19) (cwV 1 hts (gi_V wd_217 wd_218 wd_219 wd_159 wd_220) rfl rfl rfl hdV_X1_orderIn ⟨Nat.le_of_ble_eq_true rfl, Nat.le_of_ble_eq_true rfl⟩) hK hP hD 3 rfl rfl rfl hl.1 (Nat.le_of_ble_eq_true rfl) dX1_enter_65 ⟨by show _ ≤ 6; omega, by show _ ≤ 6 + c0; omega⟩) hS hD hA (fun H locs hP hS => ?_)
    obtain ⟨hc0, hj0⟩ := of_some2 hf
    subst hj0
    exact grXi hx hb hr hlocks hP hK hD hS dX1_enter_68 (by omega) (by omega)
set_option maxHeartbeats 4000000 in
set_option maxRecDepth 100000 in
theorem c_mp_fetch (l : Launch) (G : va_G) (cL cZ : ClassId) (Q : Nat → Nat) (A : Nat → Nat) (z : Hs) (sz : Nat) (p0 : Int32) (p1 : Int32) (O0 : Hs × Int32) (hf : mp_fetch z p0 p1 = some O0) : Met l yX1_fetch vX1_fetch { frames := 5, cells := 0, slots := 0, locals := 117 } (gPc G vwCl (ct cL cZ) [.ref (Q 3), .int p0, .int p1] (cw cL cZ Q A z) sz) (qWi G vwCl (ct cL cZ) (cw cL cZ Q A z) sz (cw cL cZ Q) O0) 0 0 (va_A (cw cL cZ Q A z) sz) := by
  refine gMet (by decide) rfl (Nat.le_of_ble_eq_true rfl) ?_
  intro p e s m below meth c ls C hK hP hD hsz hl
  subst hsz
  obtain ⟨hx, hb, hr, hml, hown, hts, hlocks⟩ := id C
  have FX : CallFix p m c cX1_fetch 5 s _ vX1_fetch RX1 := ⟨hx, hb, hml, hown, hts⟩
  have hA : ∀ q9 : Nat, s.heap.size ≤ q9 → va_A (cw cL cZ Q A z) s.heap.size q9 := fun q9 h => Or.inr h
  have hS : va_S (va_A (cw cL cZ Q A z) s.heap.size) s.heap s.heap [] := va_S.rf
  have hl : lv_has ls 5 [(0, .ref (Q 3)), (1, .int p0), (2, .int p1)] := hl
  unfold mp_fetch at hf
  refine lv_aload_n hx hb dX1_fetch_0 rfl (lv_at hl 0 rfl) ?_
  refine lv_iload_n hx hb dX1_fetch_1 rfl (lv_at hl 1 rfl) ?_
  refine lv_iload_n hx hb dX1_fetch_2 rfl (lv_at hl 2 rfl) ?_
  obtain ⟨r1, ho1, hf⟩ := of_b0 hf
  refine gcRi (gV FX [.int p0, .int p1] (c_mp_slotOfKey l G cL cZ Q A z _ p0 p1 _ ho1) (cwV 2 hts (gi_V wd_255 wd_256 wd_257 wd_159 wd_258) rfl rfl rfl hdV_X1_slotOfKey ⟨Nat.le_of_ble_eq_true rfl, Nat.le_of_ble_eq_true rfl⟩) hK hP hD 3 rfl rfl rfl hl.1 (Nat.le_of_ble_eq_true rfl) dX1_fetch_3 ⟨by show _ ≤ 0; omega, by show _ ≤ 0; omega⟩) hS hD hA (fun H locs hP hS => ?_)
  refine lv_istore_n (lv' := [(3, .int r1), (0, .ref (Q 3)), (1, .int p0), (2, .int p1)]) hx hb dX1_fetch_6 rfl hl (by decide) rfl (fun ls hl => ?_)
  refine lv_iload_n hx hb dX1_fetch_7 rfl (lv_at hl 0 rfl) ?_
  refine lv_iconst (v := (-1)) hx hb dX1_fetch_8 (by decide) ?_
  refine lv_icmp_ne (tgt := 14) hx hb dX1_fetch_9 (by decide) (fun c2 => ?_) (fun c2 => ?_)
  · have hf := (if_neg c2).symm.trans hf
    refine lv_aload_n hx hb dX1_fetch_14 rfl (lv_at hl 1 rfl) ?_
    refine lv_iload_n hx hb dX1_fetch_15 rfl (lv_at hl 2 rfl) ?_
    obtain ⟨r3, ho3, hf⟩ := of_b0 hf
    refine gcRi (gV FX [.int p0] (c_mp_keyWords l G cL cZ Q A z _ p0 _ ho3) (cwV 1 hts (gi_V wd_183 wd_184 wd_185 wd_159 wd_186) rfl rfl rfl hdV_X1_keyWords ⟨Nat.le_of_ble_eq_true rfl, Nat.le_of_ble_eq_true rfl⟩) hK hP hD 3 rfl rfl rfl hl.1 (Nat.le_of_ble_eq_true rfl) dX1_fetch_16 ⟨by show _ ≤ 0; omega, by show _ ≤ 0; omega⟩) hS hD hA (fun H locs hP hS => ?_)
    refine lv_istore (lv' := [(4, .int r3), (3, .int r1), (0, .ref (Q 3)), (1, .int p0), (2, .int p1)]) hx hb dX1_fetch_19 hl (by decide) rfl (fun ls hl => ?_)
    refine lv_aload_n hx hb dX1_fetch_21 rfl (lv_at hl 2 rfl) ?_
    refine va_get (D := G) (ci := 1) (v := .ref (Q 1)) (C := RX1) (T := TX1) (N := 2) hx hb hts (fun w h => .tail _ (wl_X1 w h)) hown hK hP 3 rfl rfl 0 (by decide) (hts _ (.tail _ wd_152)) (fun _ h9 => h9) rfl dX1_fetch_22 ?_
    refine lv_iload_n hx hb dX1_fetch_25 rfl (lv_at hl 4 rfl) ?_
    refine lv_iload hx hb dX1_fetch_26 (lv_at hl 0 rfl) ?_
    refine lv_iadd hx hb dX1_fetch_28 ?_
    refine lv_iload_n hx hb dX1_fetch_29 rfl (lv_at hl 1 rfl) ?_
    refine lv_iconst (v := 3) hx hb dX1_fetch_30 (by decide) ?_
    refine lv_iadd hx hb dX1_fetch_31 ?_
    refine lv_iload hx hb dX1_fetch_32 (lv_at hl 0 rfl) ?_
    refine lv_iadd hx hb dX1_fetch_34 ?_
    refine lv_aload_n hx hb dX1_fetch_35 rfl (lv_at hl 2 rfl) ?_
    refine lv_iload_n hx hb dX1_fetch_36 rfl (lv_at hl 3 rfl) ?_
    obtain ⟨r4, ho4, hf⟩ := of_b0 hf
    refine gcRi (gV FX [.int p0] (c_mp_valueWords l G cL cZ Q A z _ p0 _ ho4) (cwV 1 hts (gi_V wd_251 wd_252 wd_253 wd_159 wd_254) rfl rfl rfl hdV_X1_valueWords ⟨Nat.le_of_ble_eq_true rfl, Nat.le_of_ble_eq_true rfl⟩) hK hP hD 3 rfl rfl rfl hl.1 (Nat.le_of_ble_eq_true rfl) dX1_fetch_37 ⟨by show _ ≤ 0; omega, by show _ ≤ 0; omega⟩) hS hD hA (fun H locs hP hS => ?_)
    obtain ⟨z5, o9, ho5, hf⟩ := of_bw hf
    refine gcWv (gV FX [.int (p1 + r3), .int ((r1 + 3) + r3), .int r4] (c_hp_copyWords l G cL cZ Q A z _ (p1 + r3) ((r1 + 3) + r3) r4 _ ho5) (cwV 3 hts (gi_V wd_229 wd_49 wd_50 wd_7 wd_51) rfl rfl rfl hdV_X0_copyWords ⟨Nat.le_of_ble_eq_true rfl, Nat.le_of_ble_eq_true rfl⟩) hK hP hD 1 rfl rfl rfl hl.1 (Nat.le_of_ble_eq_true rfl) dX1_fetch_40 ⟨by show _ ≤ 0; omega, by show _ ≤ 0; omega⟩) hS hD hA (fun A H locs hP hD hS => ?_)
    refine lv_aload_n hx hb dX1_fetch_43 rfl (lv_at hl 2 rfl) ?_
    refine lv_iload_n hx hb dX1_fetch_44 rfl (lv_at hl 1 rfl) ?_
    obtain ⟨r6, ho6, hf⟩ := of_b0 hf
    refine gcRi (gV FX [.int r1] (c_mp_orderIn l G cL cZ Q A z5 _ r1 _ ho6) (cwV 1 hts (gi_V wd_217 wd_218 wd_219 wd_159 wd_220) rfl rfl rfl hdV_X1_orderIn ⟨Nat.le_of_ble_eq_true rfl, Nat.le_of_ble_eq_true rfl⟩) hK hP hD 3 rfl rfl rfl hl.1 (Nat.le_of_ble_eq_true rfl) dX1_fetch_45 ⟨by show _ ≤ 0; omega, by show _ ≤ 0; omega⟩) hS hD hA (fun H locs hP hS => ?_)
    obtain rfl := Option.some.inj hf
    exact grWi hx hb hr hlocks hP hK hD hS dX1_fetch_48 (by omega) (by omega)
  · have hf := (if_pos c2).symm.trans hf
    refine lv_iconst (v := (-1)) hx hb dX1_fetch_12 (by decide) ?_
    obtain rfl := Option.some.inj hf
    exact grWi hx hb hr hlocks hP hK hD hS dX1_fetch_13 (by omega) (by omega)
set_option maxHeartbeats 4000000 in
set_option maxRecDepth 100000 in
theorem c_mp_erase (l : Launch) (G : va_G) (cL cZ : ClassId) (Q : Nat → Nat) (A : Nat → Nat) (z : Hs) (sz : Nat) (p0 : Int32) (p1 : Int32) (O0 : Hs × Int32) (hf : mp_erase z p0 p1 = some O0) : Met l yX1_erase vX1_erase { frames := 5, cells := 0, slots := 0, locals := 117 } (gPc G vwCl (ct cL cZ) [.ref (Q 3), .int p0, .int p1] (cw cL cZ Q A z) sz) (qWi G vwCl (ct cL cZ) (cw cL cZ Q A z) sz (cw cL cZ Q) O0) 0 0 (va_A (cw cL cZ Q A z) sz) := by
  refine gMet (by decide) rfl (Nat.le_of_ble_eq_true rfl) ?_
  intro p e s m below meth c ls C hK hP hD hsz hl
  subst hsz
  obtain ⟨hx, hb, hr, hml, hown, hts, hlocks⟩ := id C
  have FX : CallFix p m c cX1_erase 5 s _ vX1_erase RX1 := ⟨hx, hb, hml, hown, hts⟩
  have hA : ∀ q9 : Nat, s.heap.size ≤ q9 → va_A (cw cL cZ Q A z) s.heap.size q9 := fun q9 h => Or.inr h
  have hS : va_S (va_A (cw cL cZ Q A z) s.heap.size) s.heap s.heap [] := va_S.rf
  have hl : lv_has ls 5 [(0, .ref (Q 3)), (1, .int p0), (2, .int p1)] := hl
  unfold mp_erase at hf
  refine lv_aload_n hx hb dX1_erase_0 rfl (lv_at hl 0 rfl) ?_
  refine lv_iload_n hx hb dX1_erase_1 rfl (lv_at hl 1 rfl) ?_
  refine lv_iload_n hx hb dX1_erase_2 rfl (lv_at hl 2 rfl) ?_
  obtain ⟨r1, ho1, hf⟩ := of_b0 hf
  refine gcRi (gV FX [.int p0, .int p1] (c_mp_slotOfKey l G cL cZ Q A z _ p0 p1 _ ho1) (cwV 2 hts (gi_V wd_255 wd_256 wd_257 wd_159 wd_258) rfl rfl rfl hdV_X1_slotOfKey ⟨Nat.le_of_ble_eq_true rfl, Nat.le_of_ble_eq_true rfl⟩) hK hP hD 3 rfl rfl rfl hl.1 (Nat.le_of_ble_eq_true rfl) dX1_erase_3 ⟨by show _ ≤ 0; omega, by show _ ≤ 0; omega⟩) hS hD hA (fun H locs hP hS => ?_)
  refine lv_istore_n (lv' := [(3, .int r1), (0, .ref (Q 3)), (1, .int p0), (2, .int p1)]) hx hb dX1_erase_6 rfl hl (by decide) rfl (fun ls hl => ?_)
  refine lv_iload_n hx hb dX1_erase_7 rfl (lv_at hl 0 rfl) ?_
  refine lv_iconst (v := (-1)) hx hb dX1_erase_8 (by decide) ?_
  refine lv_icmp_ne (tgt := 14) hx hb dX1_erase_9 (by decide) (fun c2 => ?_) (fun c2 => ?_)
  · have hf := (if_neg c2).symm.trans hf
    refine lv_aload_n hx hb dX1_erase_14 rfl (lv_at hl 1 rfl) ?_
    refine lv_iload_n hx hb dX1_erase_15 rfl (lv_at hl 0 rfl) ?_
    obtain ⟨r3, ho3, hf⟩ := of_b0 hf
    refine gcRi (gV FX [.int r1] (c_mp_orderIn l G cL cZ Q A z _ r1 _ ho3) (cwV 1 hts (gi_V wd_217 wd_218 wd_219 wd_159 wd_220) rfl rfl rfl hdV_X1_orderIn ⟨Nat.le_of_ble_eq_true rfl, Nat.le_of_ble_eq_true rfl⟩) hK hP hD 3 rfl rfl rfl hl.1 (Nat.le_of_ble_eq_true rfl) dX1_erase_16 ⟨by show _ ≤ 0; omega, by show _ ≤ 0; omega⟩) hS hD hA (fun H locs hP hS => ?_)
    refine lv_istore (lv' := [(4, .int r3), (3, .int r1), (0, .ref (Q 3)), (1, .int p0), (2, .int p1)]) hx hb dX1_erase_19 hl (by decide) rfl (fun ls hl => ?_)
    refine lv_aload_n hx hb dX1_erase_21 rfl (lv_at hl 2 rfl) ?_
    refine va_get (D := G) (ci := 1) (v := .ref (Q 1)) (C := RX1) (T := TX1) (N := 2) hx hb hts (fun w h => .tail _ (wl_X1 w h)) hown hK hP 3 rfl rfl 0 (by decide) (hts _ (.tail _ wd_152)) (fun _ h9 => h9) rfl dX1_erase_22 ?_
    refine lv_iload_n hx hb dX1_erase_25 rfl (lv_at hl 1 rfl) ?_
    refine lv_aload_n hx hb dX1_erase_26 rfl (lv_at hl 2 rfl) ?_
    refine lv_iload_n hx hb dX1_erase_27 rfl (lv_at hl 3 rfl) ?_
    obtain ⟨r4, ho4, hf⟩ := of_b0 hf
    refine gcRi (gV FX [.int p0] (c_mp_slotWords l G cL cZ Q A z _ p0 _ ho4) (cwV 1 hts (gi_V wd_209 wd_210 wd_211 wd_159 wd_212) rfl rfl rfl hdV_X1_slotWords ⟨Nat.le_of_ble_eq_true rfl, Nat.le_of_ble_eq_true rfl⟩) hK hP hD 3 rfl rfl rfl hl.1 (Nat.le_of_ble_eq_true rfl) dX1_erase_28 ⟨by show _ ≤ 0; omega, by show _ ≤ 0; omega⟩) hS hD hA (fun H locs hP hS => ?_)
    obtain ⟨z5, o9, ho5, hf⟩ := of_bw hf
    refine gcWv (gV FX [.int r1, .int r4] (c_hp_clearWords l G cL cZ Q A z _ r1 r4 _ ho5) (cwV 2 hts (gi_V wd_259 wd_83 wd_84 wd_7 wd_85) rfl rfl rfl hdV_X0_clearWords ⟨Nat.le_of_ble_eq_true rfl, Nat.le_of_ble_eq_true rfl⟩) hK hP hD 1 rfl rfl rfl hl.1 (Nat.le_of_ble_eq_true rfl) dX1_erase_31 ⟨by show _ ≤ 0; omega, by show _ ≤ 0; omega⟩) hS hD hA (fun A H locs hP hD hS => ?_)
    refine lv_aload_n hx hb dX1_erase_34 rfl (lv_at hl 2 rfl) ?_
    refine lv_iload_n hx hb dX1_erase_35 rfl (lv_at hl 3 rfl) ?_
    refine lv_iconst (v := 2) hx hb dX1_erase_36 (by decide) ?_
    refine lv_aload_n hx hb dX1_erase_37 rfl (lv_at hl 2 rfl) ?_
    refine lv_iload_n hx hb dX1_erase_38 rfl (lv_at hl 3 rfl) ?_
    obtain ⟨r6, ho6, hf⟩ := of_b0 hf
    refine gcRi (gV FX [.int p0] (c_mp_entries l G cL cZ Q A z5 _ p0 _ ho6) (cwV 1 hts (gi_V wd_221 wd_222 wd_223 wd_159 wd_224) rfl rfl rfl hdV_X1_entries ⟨Nat.le_of_ble_eq_true rfl, Nat.le_of_ble_eq_true rfl⟩) hK hP hD 3 rfl rfl rfl hl.1 (Nat.le_of_ble_eq_true rfl) dX1_erase_39 ⟨by show _ ≤ 0; omega, by show _ ≤ 0; omega⟩) hS hD hA (fun H locs hP hS => ?_)
    refine lv_iconst (v := 1) hx hb dX1_erase_42 (by decide) ?_
    refine lv_isub hx hb dX1_erase_43 ?_
    obtain ⟨z7, o9, ho7, hf⟩ := of_bw hf
    refine gcWv (gV FX [.int p0, .int 2, .int (r6 - 1)] (c_mp_setField l G cL cZ Q A z5 _ p0 2 (r6 - 1) _ ho7) (cwV 3 hts (gi_V wd_156 wd_157 wd_158 wd_159 wd_160) rfl rfl rfl hdV_X1_setField ⟨Nat.le_of_ble_eq_true rfl, Nat.le_of_ble_eq_true rfl⟩) hK hP hD 3 rfl rfl rfl hl.1 (Nat.le_of_ble_eq_true rfl) dX1_erase_44 ⟨by show _ ≤ 0; omega, by show _ ≤ 0; omega⟩) hS hD hA (fun A H locs hP hD hS => ?_)
    refine lv_iload hx hb dX1_erase_47 (lv_at hl 0 rfl) ?_
    obtain rfl := Option.some.inj hf
    exact grWi hx hb hr hlocks hP hK hD hS dX1_erase_49 (by omega) (by omega)
  · have hf := (if_pos c2).symm.trans hf
    refine lv_iconst (v := (-1)) hx hb dX1_erase_12 (by decide) ?_
    obtain rfl := Option.some.inj hf
    exact grWi hx hb hr hlocks hP hK hD hS dX1_erase_13 (by omega) (by omega)
def At_mp_slotFrom_l21 (l : Launch) (G : va_G) (cL cZ : ClassId) (Q : Nat → Nat) (A : Nat → Nat) (z : Hs) (p : Program) (e : Env) (s : State) (m : MethodId) (args : Array Value) (below : List Frame) (meth : Method) (c : Code) (O0 : Int32) (mcT msT : Nat) (F : Int32 → Int32 → Int32 → Int32 → Hs → Option (Int32)) : Prop := ∀ (x2 : Int32) (x3 : Int32) (x4 : Int32) (x5 : Int32) (H : Heap) (locs : List Loc) (ls : Array Slot) (cells slots : Nat), va_P G vwCl (cw cL cZ Q A z) H → va_D (va_A (cw cL cZ Q A z) s.heap.size) (cw cL cZ Q A z) → va_S (va_A (cw cL cZ Q A z) s.heap.size) s.heap H locs → lv_has ls 6 [(0, .ref (Q 3)), (2, .int x2), (3, .int x3), (4, .int x4), (5, .int x5)] → F x2 x3 x4 x5 z = some O0 → cells + 0 ≤ mcT → slots + 0 ≤ msT → W p l e { frames := 4, cells := mcT, slots := msT, locals := 86 } s m args below meth c H locs cells slots (MQ below (qRi G vwCl (ct cL cZ) (cw cL cZ Q A z) s.heap.size O0) args s mcT msT (va_A (cw cL cZ Q A z) s.heap.size)) (F0 m 21 ls [])
set_option maxHeartbeats 4000000 in
set_option maxRecDepth 100000 in
theorem L_mp_slotFrom_l21 (l : Launch) (G : va_G) (cL cZ : ClassId) (Q : Nat → Nat) (A : Nat → Nat) (z : Hs) (p : Program) (e : Env) (s : State) (m : MethodId) (args : Array Value) (below : List Frame) (meth : Method) (c : Code) (O0 : Int32) (mcT msT : Nat) (C : MC p s m args meth c cX1_slotFrom 6 (some .int) RX1 vX1_slotFrom) (hK : va_K G vwCl (ct cL cZ) s) : ∀ n : Nat, At_mp_slotFrom_l21 l G cL cZ Q A z p e s m args below meth c O0 mcT msT (mp_slotFrom_l21 n) := by
  obtain ⟨hx, hb, hr, hml, hown, hts, hlocks⟩ := id C
  have FX : CallFix p m c cX1_slotFrom 6 s args vX1_slotFrom RX1 := ⟨hx, hb, hml, hown, hts⟩
  have hA : ∀ q9 : Nat, s.heap.size ≤ q9 → va_A (cw cL cZ Q A z) s.heap.size q9 := fun q9 h => Or.inr h
  intro n
  induction n with
  | zero =>
    intro x2 x3 x4 x5 H locs ls cells slots hP hD hS hl hf hcc hss
    exact nomatch (show none = some _ from hf)
  | succ n ih =>
    intro x2 x3 x4 x5 H locs ls cells slots hP hD hS hl hf hcc hss
    rw [mp_slotFrom_l21] at hf
    refine lv_iload hx hb dX1_slotFrom_21 (lv_at hl 4 rfl) ?_
    refine lv_iload hx hb dX1_slotFrom_23 (lv_at hl 3 rfl) ?_
    refine lv_icmp_ge (tgt := 60) hx hb dX1_slotFrom_25 (by decide) (fun c4 => ?_) (fun c4 => ?_)
    · have hf := (if_pos c4).symm.trans hf
      refine lv_iconst (v := (-1)) hx hb dX1_slotFrom_60 (by decide) ?_
      obtain rfl := Option.some.inj hf
      exact grRi hx hb hr hlocks hP hK hD hS dX1_slotFrom_61 (by omega) (by omega)
    · have hf := (if_neg c4).symm.trans hf
      refine lv_aload_n hx hb dX1_slotFrom_28 rfl (lv_at hl 0 rfl) ?_
      refine lv_iload hx hb dX1_slotFrom_29 (lv_at hl 4 rfl) ?_
      obtain ⟨r5, ho5, hf⟩ := of_b0 hf
      refine gcRi (gV FX [.int x5] (c_mp_orderIn l G cL cZ Q A z _ x5 _ ho5) (cwV 1 hts (gi_V wd_217 wd_218 wd_219 wd_159 wd_220) rfl rfl rfl hdV_X1_orderIn ⟨Nat.le_of_ble_eq_true rfl, Nat.le_of_ble_eq_true rfl⟩) hK hP hD 3 rfl rfl rfl hl.1 (Nat.le_of_ble_eq_true rfl) dX1_slotFrom_31 ⟨by show _ ≤ mcT; omega, by show _ ≤ msT; omega⟩) hS hD hA (fun H locs hP hS => ?_)
      refine lv_iconst (v := (-1)) hx hb dX1_slotFrom_34 (by decide) ?_
      refine lv_icmp_eq (tgt := 51) hx hb dX1_slotFrom_35 (by decide) (fun c6 => ?_) (fun c6 => ?_)
      · have hf := (if_pos c6).symm.trans hf
        refine lv_iload hx hb dX1_slotFrom_51 (lv_at hl 4 rfl) ?_
        refine lv_iload_n hx hb dX1_slotFrom_53 rfl (lv_at hl 2 rfl) ?_
        refine lv_iadd hx hb dX1_slotFrom_54 ?_
        refine lv_istore (lv' := [(5, .int (x5 + x3)), (0, .ref (Q 3)), (2, .int x2), (3, .int x3), (4, .int x4)]) hx hb dX1_slotFrom_55 hl (by decide) rfl (fun ls hl => ?_)
        refine lv_goto (tgt := 21) hx hb dX1_slotFrom_57 (by decide) ?_
        exact ih _ _ _ _ _ _ _ _ _ hP hD hS (lv_sub hl [1, 2, 3, 4, 0] rfl) hf (by omega) (by omega)
      · have hf := (if_neg c6).symm.trans hf
        refine lv_aload_n hx hb dX1_slotFrom_38 rfl (lv_at hl 0 rfl) ?_
        refine lv_iload hx hb dX1_slotFrom_39 (lv_at hl 4 rfl) ?_
        obtain ⟨r7, ho7, hf⟩ := of_b0 hf
        refine gcRi (gV FX [.int x5] (c_mp_orderIn l G cL cZ Q A z _ x5 _ ho7) (cwV 1 hts (gi_V wd_217 wd_218 wd_219 wd_159 wd_220) rfl rfl rfl hdV_X1_orderIn ⟨Nat.le_of_ble_eq_true rfl, Nat.le_of_ble_eq_true rfl⟩) hK hP hD 3 rfl rfl rfl hl.1 (Nat.le_of_ble_eq_true rfl) dX1_slotFrom_41 ⟨by show _ ≤ mcT; omega, by show _ ≤ msT; omega⟩) hS hD hA (fun H locs hP hS => ?_)
        refine lv_iload_n hx hb dX1_slotFrom_44 rfl (lv_at hl 1 rfl) ?_
        refine lv_icmp_lt (tgt := 51) hx hb dX1_slotFrom_45 (by decide) (fun c8 => ?_) (fun c8 => ?_)
        · have hf := (if_pos c8).symm.trans hf
          refine lv_iload hx hb dX1_slotFrom_51 (lv_at hl 4 rfl) ?_
          refine lv_iload_n hx hb dX1_slotFrom_53 rfl (lv_at hl 2 rfl) ?_
          refine lv_iadd hx hb dX1_slotFrom_54 ?_
          refine lv_istore (lv' := [(5, .int (x5 + x3)), (0, .ref (Q 3)), (2, .int x2), (3, .int x3), (4, .int x4)]) hx hb dX1_slotFrom_55 hl (by decide) rfl (fun ls hl => ?_)
          refine lv_goto (tgt := 21) hx hb dX1_slotFrom_57 (by decide) ?_
          exact ih _ _ _ _ _ _ _ _ _ hP hD hS (lv_sub hl [1, 2, 3, 4, 0] rfl) hf (by omega) (by omega)
        · have hf := (if_neg c8).symm.trans hf
          refine lv_iload hx hb dX1_slotFrom_48 (lv_at hl 4 rfl) ?_
          obtain rfl := Option.some.inj hf
          exact grRi hx hb hr hlocks hP hK hD hS dX1_slotFrom_50 (by omega) (by omega)
set_option maxHeartbeats 4000000 in
set_option maxRecDepth 100000 in
theorem c_mp_slotFrom (l : Launch) (G : va_G) (cL cZ : ClassId) (Q : Nat → Nat) (A : Nat → Nat) (z : Hs) (sz : Nat) (p0 : Int32) (p1 : Int32) (O0 : Int32) (hf : mp_slotFrom z p0 p1 = some O0) : Met l yX1_slotFrom vX1_slotFrom { frames := 4, cells := 0, slots := 0, locals := 86 } (gPc G vwCl (ct cL cZ) [.ref (Q 3), .int p0, .int p1] (cw cL cZ Q A z) sz) (qRi G vwCl (ct cL cZ) (cw cL cZ Q A z) sz O0) 0 0 (va_A (cw cL cZ Q A z) sz) := by
  refine gMet (by decide) rfl (Nat.le_of_ble_eq_true rfl) ?_
  intro p e s m below meth c ls C hK hP hD hsz hl
  subst hsz
  obtain ⟨hx, hb, hr, hml, hown, hts, hlocks⟩ := id C
  have FX : CallFix p m c cX1_slotFrom 6 s _ vX1_slotFrom RX1 := ⟨hx, hb, hml, hown, hts⟩
  have hA : ∀ q9 : Nat, s.heap.size ≤ q9 → va_A (cw cL cZ Q A z) s.heap.size q9 := fun q9 h => Or.inr h
  have hS : va_S (va_A (cw cL cZ Q A z) s.heap.size) s.heap s.heap [] := va_S.rf
  have hl : lv_has ls 6 [(0, .ref (Q 3)), (1, .int p0), (2, .int p1)] := hl
  unfold mp_slotFrom at hf
  refine lv_aload_n hx hb dX1_slotFrom_0 rfl (lv_at hl 0 rfl) ?_
  refine lv_iload_n hx hb dX1_slotFrom_1 rfl (lv_at hl 1 rfl) ?_
  obtain ⟨r1, ho1, hf⟩ := of_b0 hf
  refine gcRi (gV FX [.int p0] (c_mp_slotWords l G cL cZ Q A z _ p0 _ ho1) (cwV 1 hts (gi_V wd_209 wd_210 wd_211 wd_159 wd_212) rfl rfl rfl hdV_X1_slotWords ⟨Nat.le_of_ble_eq_true rfl, Nat.le_of_ble_eq_true rfl⟩) hK hP hD 3 rfl rfl rfl hl.1 (Nat.le_of_ble_eq_true rfl) dX1_slotFrom_2 ⟨by show _ ≤ 0; omega, by show _ ≤ 0; omega⟩) hS hD hA (fun H locs hP hS => ?_)
  refine lv_istore_n (lv' := [(3, .int r1), (0, .ref (Q 3)), (1, .int p0), (2, .int p1)]) hx hb dX1_slotFrom_5 rfl hl (by decide) rfl (fun ls hl => ?_)
  refine lv_aload_n hx hb dX1_slotFrom_6 rfl (lv_at hl 1 rfl) ?_
  refine lv_iload_n hx hb dX1_slotFrom_7 rfl (lv_at hl 2 rfl) ?_
  refine lv_iload_n hx hb dX1_slotFrom_8 rfl (lv_at hl 0 rfl) ?_
  obtain ⟨r2, ho2, hf⟩ := of_b0 hf
  refine gcRi (gV FX [.int p0, .int r1] (c_mp_slotsEnd l G cL cZ Q A z _ p0 r1 _ ho2) (cwV 2 hts (gi_V wd_205 wd_206 wd_207 wd_159 wd_208) rfl rfl rfl hdV_X1_slotsEnd ⟨Nat.le_of_ble_eq_true rfl, Nat.le_of_ble_eq_true rfl⟩) hK hP hD 3 rfl rfl rfl hl.1 (Nat.le_of_ble_eq_true rfl) dX1_slotFrom_9 ⟨by show _ ≤ 0; omega, by show _ ≤ 0; omega⟩) hS hD hA (fun H locs hP hS => ?_)
  refine lv_istore (lv' := [(4, .int r2), (3, .int r1), (0, .ref (Q 3)), (1, .int p0), (2, .int p1)]) hx hb dX1_slotFrom_12 hl (by decide) rfl (fun ls hl => ?_)
  refine lv_aload_n hx hb dX1_slotFrom_14 rfl (lv_at hl 2 rfl) ?_
  refine lv_iload_n hx hb dX1_slotFrom_15 rfl (lv_at hl 3 rfl) ?_
  obtain ⟨r3, ho3, hf⟩ := of_b0 hf
  refine gcRi (gV FX [.int p0] (c_mp_slotsStart l G cL cZ Q A z _ p0 _ ho3) (cwV 1 hts (gi_V wd_192 wd_193 wd_194 wd_159 wd_195) rfl rfl rfl hdV_X1_slotsStart ⟨Nat.le_of_ble_eq_true rfl, Nat.le_of_ble_eq_true rfl⟩) hK hP hD 3 rfl rfl rfl hl.1 (Nat.le_of_ble_eq_true rfl) dX1_slotFrom_16 ⟨by show _ ≤ 0; omega, by show _ ≤ 0; omega⟩) hS hD hA (fun H locs hP hS => ?_)
  refine lv_istore (lv' := [(5, .int r3), (4, .int r2), (3, .int r1), (0, .ref (Q 3)), (1, .int p0), (2, .int p1)]) hx hb dX1_slotFrom_19 hl (by decide) rfl (fun ls hl => ?_)
  exact L_mp_slotFrom_l21 _ _ _ _ _ _ _ _ _ _ _ _ _ _ _ _ _ _ C hK FU _ _ _ _ _ _ _ _ _ hP hD hS (lv_sub hl [3, 5, 2, 1, 0] rfl) hf (by omega) (by omega)
set_option maxHeartbeats 4000000 in
set_option maxRecDepth 100000 in
theorem c_mp_readEntry (l : Launch) (G : va_G) (cL cZ : ClassId) (Q : Nat → Nat) (A : Nat → Nat) (z : Hs) (sz : Nat) (p0 : Int32) (p1 : Int32) (p2 : Int32) (O0 : Hs × Unit) (hf : mp_readEntry z p0 p1 p2 = some O0) : Met l yX1_readEntry vX1_readEntry { frames := 3, cells := 0, slots := 0, locals := 65 } (gPc G vwCl (ct cL cZ) [.ref (Q 3), .int p0, .int p1, .int p2] (cw cL cZ Q A z) sz) (qWv G vwCl (ct cL cZ) (cw cL cZ Q A z) sz (cw cL cZ Q) O0) 0 0 (va_A (cw cL cZ Q A z) sz) := by
  refine gMet (by decide) rfl (Nat.le_of_ble_eq_true rfl) ?_
  intro p e s m below meth c ls C hK hP hD hsz hl
  subst hsz
  obtain ⟨hx, hb, hr, hml, hown, hts, hlocks⟩ := id C
  have FX : CallFix p m c cX1_readEntry 4 s _ vX1_readEntry RX1 := ⟨hx, hb, hml, hown, hts⟩
  have hA : ∀ q9 : Nat, s.heap.size ≤ q9 → va_A (cw cL cZ Q A z) s.heap.size q9 := fun q9 h => Or.inr h
  have hS : va_S (va_A (cw cL cZ Q A z) s.heap.size) s.heap s.heap [] := va_S.rf
  have hl : lv_has ls 4 [(0, .ref (Q 3)), (1, .int p0), (2, .int p1), (3, .int p2)] := hl
  unfold mp_readEntry at hf
  refine lv_aload_n hx hb dX1_readEntry_0 rfl (lv_at hl 0 rfl) ?_
  refine va_get (D := G) (ci := 1) (v := .ref (Q 1)) (C := RX1) (T := TX1) (N := 2) hx hb hts (fun w h => .tail _ (wl_X1 w h)) hown hK hP 3 rfl rfl 0 (by decide) (hts _ (.tail _ wd_152)) (fun _ h9 => h9) rfl dX1_readEntry_1 ?_
  refine lv_iload_n hx hb dX1_readEntry_4 rfl (lv_at hl 3 rfl) ?_
  refine lv_iload_n hx hb dX1_readEntry_5 rfl (lv_at hl 2 rfl) ?_
  refine lv_iconst (v := 3) hx hb dX1_readEntry_6 (by decide) ?_
  refine lv_iadd hx hb dX1_readEntry_7 ?_
  refine lv_aload_n hx hb dX1_readEntry_8 rfl (lv_at hl 0 rfl) ?_
  refine lv_iload_n hx hb dX1_readEntry_9 rfl (lv_at hl 1 rfl) ?_
  obtain ⟨r1, ho1, hf⟩ := of_b0 hf
  refine gcRi (gV FX [.int p0] (c_mp_entryWords l G cL cZ Q A z _ p0 _ ho1) (cwV 1 hts (gi_V wd_187 wd_188 wd_189 wd_159 wd_190) rfl rfl rfl hdV_X1_entryWords ⟨Nat.le_of_ble_eq_true rfl, Nat.le_of_ble_eq_true rfl⟩) hK hP hD 3 rfl rfl rfl hl.1 (Nat.le_of_ble_eq_true rfl) dX1_readEntry_10 ⟨by show _ ≤ 0; omega, by show _ ≤ 0; omega⟩) hS hD hA (fun H locs hP hS => ?_)
  obtain ⟨z2, o9, ho2, hf⟩ := of_bw hf
  refine gcWv (gV FX [.int p2, .int (p1 + 3), .int r1] (c_hp_copyWords l G cL cZ Q A z _ p2 (p1 + 3) r1 _ ho2) (cwV 3 hts (gi_V wd_229 wd_49 wd_50 wd_7 wd_51) rfl rfl rfl hdV_X0_copyWords ⟨Nat.le_of_ble_eq_true rfl, Nat.le_of_ble_eq_true rfl⟩) hK hP hD 1 rfl rfl rfl hl.1 (Nat.le_of_ble_eq_true rfl) dX1_readEntry_13 ⟨by show _ ≤ 0; omega, by show _ ≤ 0; omega⟩) hS hD hA (fun A H locs hP hD hS => ?_)
  obtain rfl := Option.some.inj hf
  exact grWv hx hb hr hlocks hP hK hD hS dX1_readEntry_16 (by omega) (by omega)
set_option maxHeartbeats 4000000 in
set_option maxRecDepth 100000 in
theorem c_wh_needRegister (l : Launch) (hl0 : l.stackTraces = false) (G : va_G) (cL cZ : ClassId) (Q : Nat → Nat) (A : Nat → Nat) (z : Hs) (sz : Nat) (p0 : Int32) (O0 : (String ⊕ Unit)) (hf : wh_needRegister z p0 = some O0) : vx_Met l yX3_needRegister vX3_needRegister { frames := 8, cells := 1, slots := 6, locals := 200 } (gPx txC G vwCl (ct cL cZ) [.int p0] (cw cL cZ Q A z) sz) (qTv G vwCl (ct cL cZ) (cw cL cZ Q A z) sz O0) (xT G vwCl (ct cL cZ) (cw cL cZ Q A z) sz O0) 1 6 (va_A (cw cL cZ Q A z) sz) := by
  refine gMetx (by decide) rfl (Nat.le_of_ble_eq_true rfl) ?_
  intro p e s m below meth c ls C hE hK hP hD hT hsz hl
  subst hsz
  obtain ⟨hx, hb, hr, hml, hown, hts, hlocks⟩ := id C
  have FX : CallFix p m c cX3_needRegister 1 s _ vX3_needRegister RX3 := ⟨hx, hb, hml, hown, hts⟩
  have hA : ∀ q9 : Nat, s.heap.size ≤ q9 → va_A (cw cL cZ Q A z) s.heap.size q9 := fun q9 h => Or.inr h
  have hS : va_S (va_A (cw cL cZ Q A z) s.heap.size) s.heap s.heap [] := va_S.rf
  have hl : lv_has ls 1 [(0, .int p0)] := hl
  unfold wh_needRegister at hf
  refine lv_iload_n hx hb dX3_needRegister_0 rfl (lv_at hl 0 rfl) ?_
  refine lv_if_lt (tgt := 10) hx hb dX3_needRegister_1 (by decide) (fun c1 => ?_) (fun c1 => ?_)
  · have hf := (if_pos c1).symm.trans hf
    obtain rfl := Option.some.inj hf
    exact gthr0 (cls := "java/lang/IllegalArgumentException") (names := ["java/lang/RuntimeException", "java/lang/Exception"]) (text := "no such register") hx hb hl0 hown hts (by decide) (by decide) (.tail _ wd_260) (.tail _ wd_261) (by decide +kernel) (fun w h => .tail _ (tha_1 w h)) tht_1 (by decide +kernel) thg_1_209 hT hS (hl.1.trans hml.symm) dX3_needRegister_10 dX3_needRegister_13 dX3_needRegister_14 dX3_needRegister_16 dX3_needRegister_19 hE (Nat.lt_of_succ_le (Nat.le_of_ble_eq_true rfl)) (Nat.le_of_ble_eq_true rfl) (by show _ ≤ 1; omega) (by show _ ≤ 6; omega) hlocks (gqT hP hK hD hS) hS.2.2 (by omega) (by omega)
  · have hf := (if_neg c1).symm.trans hf
    refine lv_iload_n hx hb dX3_needRegister_4 rfl (lv_at hl 0 rfl) ?_
    refine lv_bipush (v := 16) hx hb dX3_needRegister_5 (by decide) ?_
    refine lv_icmp_lt (tgt := 20) hx hb dX3_needRegister_7 (by decide) (fun c2 => ?_) (fun c2 => ?_)
    · have hf := (if_pos c2).symm.trans hf
      obtain rfl := Option.some.inj hf
      exact grTv hx hb hr hlocks hP hK hD hS dX3_needRegister_20 (by omega) (by omega)
    · have hf := (if_neg c2).symm.trans hf
      obtain rfl := Option.some.inj hf
      exact gthr0 (cls := "java/lang/IllegalArgumentException") (names := ["java/lang/RuntimeException", "java/lang/Exception"]) (text := "no such register") hx hb hl0 hown hts (by decide) (by decide) (.tail _ wd_260) (.tail _ wd_261) (by decide +kernel) (fun w h => .tail _ (tha_1 w h)) tht_1 (by decide +kernel) thg_1_209 hT hS (hl.1.trans hml.symm) dX3_needRegister_10 dX3_needRegister_13 dX3_needRegister_14 dX3_needRegister_16 dX3_needRegister_19 hE (Nat.lt_of_succ_le (Nat.le_of_ble_eq_true rfl)) (Nat.le_of_ble_eq_true rfl) (by show _ ≤ 1; omega) (by show _ ≤ 6; omega) hlocks (gqT hP hK hD hS) hS.2.2 (by omega) (by omega)
set_option maxHeartbeats 4000000 in
set_option maxRecDepth 100000 in
theorem c_wh_number (l : Launch) (hl0 : l.stackTraces = false) (G : va_G) (cL cZ : ClassId) (Q : Nat → Nat) (A : Nat → Nat) (z : Hs) (sz : Nat) (p0 : Int32) (p1 : Int64) (O0 : Hs × (String ⊕ Unit)) (hf : wh_number z p0 p1 = some O0) : vx_Met l yX3_number vX3_number { frames := 9, cells := 1, slots := 6, locals := 220 } (gPx txC G vwCl (ct cL cZ) [.ref (Q 0), .int p0, .long p1] (cw cL cZ Q A z) sz) (qXv G vwCl (ct cL cZ) (cw cL cZ Q A z) sz (cw cL cZ Q) O0) (xX G vwCl (ct cL cZ) (cw cL cZ Q A z) sz (cw cL cZ Q) O0) 1 6 (va_A (cw cL cZ Q A z) sz) := by
  refine gMetx (by decide) rfl (Nat.le_of_ble_eq_true rfl) ?_
  intro p e s m below meth c ls C hE hK hP hD hT hsz hl
  subst hsz
  obtain ⟨hx, hb, hr, hml, hown, hts, hlocks⟩ := id C
  have FX : CallFix p m c cX3_number 4 s _ vX3_number RX3 := ⟨hx, hb, hml, hown, hts⟩
  have hA : ∀ q9 : Nat, s.heap.size ≤ q9 → va_A (cw cL cZ Q A z) s.heap.size q9 := fun q9 h => Or.inr h
  have hS : va_S (va_A (cw cL cZ Q A z) s.heap.size) s.heap s.heap [] := va_S.rf
  have hl : lv_has ls 4 [(0, .ref (Q 0)), (1, .int p0), (2, .long p1)] := hl
  unfold wh_number at hf
  refine lv_iload_n hx hb dX3_number_0 rfl (lv_at hl 1 rfl) ?_
  rcases of_bt hf with ⟨e9, ho1, hj⟩ | ⟨o9, ho1, hf⟩
  · subst hj
    exact goutX (gSx FX [.int p0] (c_wh_needRegister l hl0 G cL cZ Q A z _ p0 _ ho1) (cwS 1 hts (gi_S wd_264 wd_265 wd_266 wd_267) rfl rfl rfl hdS_X3_needRegister ⟨Nat.le_of_ble_eq_true rfl, Nat.le_of_ble_eq_true rfl⟩) hK hP hD hT hS hA rfl hl.1 (Nat.le_of_ble_eq_true rfl) dX3_number_1 ⟨by show _ ≤ 1; omega, by show _ ≤ 6; omega⟩) (noTv) hS hD hK hE hlocks (by omega) (by omega)
  refine gcTv (gSx FX [.int p0] (c_wh_needRegister l hl0 G cL cZ Q A z _ p0 _ ho1) (cwS 1 hts (gi_S wd_264 wd_265 wd_266 wd_267) rfl rfl rfl hdS_X3_needRegister ⟨Nat.le_of_ble_eq_true rfl, Nat.le_of_ble_eq_true rfl⟩) hK hP hD hT hS hA rfl hl.1 (Nat.le_of_ble_eq_true rfl) dX3_number_1 ⟨by show _ ≤ 1; omega, by show _ ≤ 6; omega⟩) hS hD hA (fun H locs hP hS => ?_)
  refine lv_aload_n hx hb dX3_number_4 rfl (lv_at hl 0 rfl) ?_
  refine va_get (D := G) (ci := 3) (v := .ref (Q 1)) (C := RX3) (T := TX3) (N := 3) hx hb hts (fun w h => .tail _ (wl_X3 w h)) hown hK hP 0 rfl rfl 0 (by decide) (hts _ (.tail _ wd_262)) (fun _ h9 => h9) rfl dX3_number_5 ?_
  refine lv_iload_n hx hb dX3_number_8 rfl (lv_at hl 1 rfl) ?_
  refine lv_lload_n hx hb dX3_number_9 rfl (lv_at hl 2 rfl) ?_
  obtain ⟨z2, o9, ho2, hf⟩ := of_bw hf
  refine gcWv (gV FX [.int p0, .long p1] (c_hp_setNumber l G cL cZ Q A z _ p0 p1 _ ho2) (cwV 2 hts (gi_V wd_263 wd_117 wd_118 wd_7 wd_119) rfl rfl rfl hdV_X0_setNumber ⟨Nat.le_of_ble_eq_true rfl, Nat.le_of_ble_eq_true rfl⟩) hK hP hD 1 rfl rfl rfl hl.1 (Nat.le_of_ble_eq_true rfl) dX3_number_10 ⟨by show _ ≤ 1; omega, by show _ ≤ 6; omega⟩) hS hD hA (fun A H locs hP hD hS => ?_)
  obtain rfl := Option.some.inj hf
  exact grXv hx hb hr hlocks hP hK hD hS dX3_number_13 (by omega) (by omega)
set_option maxHeartbeats 4000000 in
set_option maxRecDepth 100000 in
theorem c_wh_nil (l : Launch) (hl0 : l.stackTraces = false) (G : va_G) (cL cZ : ClassId) (Q : Nat → Nat) (A : Nat → Nat) (z : Hs) (sz : Nat) (p0 : Int32) (O0 : Hs × (String ⊕ Unit)) (hf : wh_nil z p0 = some O0) : vx_Met l yX3_nil vX3_nil { frames := 9, cells := 1, slots := 6, locals := 220 } (gPx txC G vwCl (ct cL cZ) [.ref (Q 0), .int p0] (cw cL cZ Q A z) sz) (qXv G vwCl (ct cL cZ) (cw cL cZ Q A z) sz (cw cL cZ Q) O0) (xX G vwCl (ct cL cZ) (cw cL cZ Q A z) sz (cw cL cZ Q) O0) 1 6 (va_A (cw cL cZ Q A z) sz) := by
  refine gMetx (by decide) rfl (Nat.le_of_ble_eq_true rfl) ?_
  intro p e s m below meth c ls C hE hK hP hD hT hsz hl
  subst hsz
  obtain ⟨hx, hb, hr, hml, hown, hts, hlocks⟩ := id C
  have FX : CallFix p m c cX3_nil 2 s _ vX3_nil RX3 := ⟨hx, hb, hml, hown, hts⟩
  have hA : ∀ q9 : Nat, s.heap.size ≤ q9 → va_A (cw cL cZ Q A z) s.heap.size q9 := fun q9 h => Or.inr h
  have hS : va_S (va_A (cw cL cZ Q A z) s.heap.size) s.heap s.heap [] := va_S.rf
  have hl : lv_has ls 2 [(0, .ref (Q 0)), (1, .int p0)] := hl
  unfold wh_nil at hf
  refine lv_iload_n hx hb dX3_nil_0 rfl (lv_at hl 1 rfl) ?_
  rcases of_bt hf with ⟨e9, ho1, hj⟩ | ⟨o9, ho1, hf⟩
  · subst hj
    exact goutX (gSx FX [.int p0] (c_wh_needRegister l hl0 G cL cZ Q A z _ p0 _ ho1) (cwS 1 hts (gi_S wd_264 wd_265 wd_266 wd_267) rfl rfl rfl hdS_X3_needRegister ⟨Nat.le_of_ble_eq_true rfl, Nat.le_of_ble_eq_true rfl⟩) hK hP hD hT hS hA rfl hl.1 (Nat.le_of_ble_eq_true rfl) dX3_nil_1 ⟨by show _ ≤ 1; omega, by show _ ≤ 6; omega⟩) (noTv) hS hD hK hE hlocks (by omega) (by omega)
  refine gcTv (gSx FX [.int p0] (c_wh_needRegister l hl0 G cL cZ Q A z _ p0 _ ho1) (cwS 1 hts (gi_S wd_264 wd_265 wd_266 wd_267) rfl rfl rfl hdS_X3_needRegister ⟨Nat.le_of_ble_eq_true rfl, Nat.le_of_ble_eq_true rfl⟩) hK hP hD hT hS hA rfl hl.1 (Nat.le_of_ble_eq_true rfl) dX3_nil_1 ⟨by show _ ≤ 1; omega, by show _ ≤ 6; omega⟩) hS hD hA (fun H locs hP hS => ?_)
  refine lv_aload_n hx hb dX3_nil_4 rfl (lv_at hl 0 rfl) ?_
  refine va_get (D := G) (ci := 3) (v := .ref (Q 1)) (C := RX3) (T := TX3) (N := 3) hx hb hts (fun w h => .tail _ (wl_X3 w h)) hown hK hP 0 rfl rfl 0 (by decide) (hts _ (.tail _ wd_262)) (fun _ h9 => h9) rfl dX3_nil_5 ?_
  refine lv_iload_n hx hb dX3_nil_8 rfl (lv_at hl 1 rfl) ?_
  refine lv_iconst (v := 0) hx hb dX3_nil_9 (by decide) ?_
  refine lv_iconst (v := 0) hx hb dX3_nil_10 (by decide) ?_
  obtain ⟨z2, o9, ho2, hf⟩ := of_bw hf
  refine gcWv (gV FX [.int p0, .int 0, .int 0] (c_hp_setReference l G cL cZ Q A z _ p0 0 0 _ ho2) (cwV 3 hts (gi_V wd_268 wd_166 wd_167 wd_7 wd_168) rfl rfl rfl hdV_X0_setReference ⟨Nat.le_of_ble_eq_true rfl, Nat.le_of_ble_eq_true rfl⟩) hK hP hD 1 rfl rfl rfl hl.1 (Nat.le_of_ble_eq_true rfl) dX3_nil_11 ⟨by show _ ≤ 1; omega, by show _ ≤ 6; omega⟩) hS hD hA (fun A H locs hP hD hS => ?_)
  obtain rfl := Option.some.inj hf
  exact grXv hx hb hr hlocks hP hK hD hS dX3_nil_14 (by omega) (by omega)
set_option maxHeartbeats 4000000 in
set_option maxRecDepth 100000 in
theorem c_wh_move (l : Launch) (hl0 : l.stackTraces = false) (G : va_G) (cL cZ : ClassId) (Q : Nat → Nat) (A : Nat → Nat) (z : Hs) (sz : Nat) (p0 : Int32) (p1 : Int32) (O0 : Hs × (String ⊕ Unit)) (hf : wh_move z p0 p1 = some O0) : vx_Met l yX3_move vX3_move { frames := 9, cells := 2, slots := 12, locals := 220 } (gPx txC G vwCl (ct cL cZ) [.ref (Q 0), .int p0, .int p1] (cw cL cZ Q A z) sz) (qXv G vwCl (ct cL cZ) (cw cL cZ Q A z) sz (cw cL cZ Q) O0) (xX G vwCl (ct cL cZ) (cw cL cZ Q A z) sz (cw cL cZ Q) O0) 2 12 (va_A (cw cL cZ Q A z) sz) := by
  refine gMetx (by decide) rfl (Nat.le_of_ble_eq_true rfl) ?_
  intro p e s m below meth c ls C hE hK hP hD hT hsz hl
  subst hsz
  obtain ⟨hx, hb, hr, hml, hown, hts, hlocks⟩ := id C
  have FX : CallFix p m c cX3_move 3 s _ vX3_move RX3 := ⟨hx, hb, hml, hown, hts⟩
  have hA : ∀ q9 : Nat, s.heap.size ≤ q9 → va_A (cw cL cZ Q A z) s.heap.size q9 := fun q9 h => Or.inr h
  have hS : va_S (va_A (cw cL cZ Q A z) s.heap.size) s.heap s.heap [] := va_S.rf
  have hl : lv_has ls 3 [(0, .ref (Q 0)), (1, .int p0), (2, .int p1)] := hl
  unfold wh_move at hf
  refine lv_iload_n hx hb dX3_move_0 rfl (lv_at hl 1 rfl) ?_
  rcases of_bt hf with ⟨e9, ho1, hj⟩ | ⟨o9, ho1, hf⟩
  · subst hj
    exact goutX (gSx FX [.int p0] (c_wh_needRegister l hl0 G cL cZ Q A z _ p0 _ ho1) (cwS 1 hts (gi_S wd_264 wd_265 wd_266 wd_267) rfl rfl rfl hdS_X3_needRegister ⟨Nat.le_of_ble_eq_true rfl, Nat.le_of_ble_eq_true rfl⟩) hK hP hD hT hS hA rfl hl.1 (Nat.le_of_ble_eq_true rfl) dX3_move_1 ⟨by show _ ≤ 2; omega, by show _ ≤ 12; omega⟩) (noTv) hS hD hK hE hlocks (by omega) (by omega)
  refine gcTv (gSx FX [.int p0] (c_wh_needRegister l hl0 G cL cZ Q A z _ p0 _ ho1) (cwS 1 hts (gi_S wd_264 wd_265 wd_266 wd_267) rfl rfl rfl hdS_X3_needRegister ⟨Nat.le_of_ble_eq_true rfl, Nat.le_of_ble_eq_true rfl⟩) hK hP hD hT hS hA rfl hl.1 (Nat.le_of_ble_eq_true rfl) dX3_move_1 ⟨by show _ ≤ 2; omega, by show _ ≤ 12; omega⟩) hS hD hA (fun H locs hP hS => ?_)
  refine lv_iload_n hx hb dX3_move_4 rfl (lv_at hl 2 rfl) ?_
  rcases of_bt hf with ⟨e9, ho2, hj⟩ | ⟨o9, ho2, hf⟩
  · subst hj
    exact goutX (gSx FX [.int p1] (c_wh_needRegister l hl0 G cL cZ Q A z _ p1 _ ho2) (cwS 1 hts (gi_S wd_264 wd_265 wd_266 wd_267) rfl rfl rfl hdS_X3_needRegister ⟨Nat.le_of_ble_eq_true rfl, Nat.le_of_ble_eq_true rfl⟩) hK hP hD hT hS hA rfl hl.1 (Nat.le_of_ble_eq_true rfl) dX3_move_5 ⟨by show _ ≤ 2; omega, by show _ ≤ 12; omega⟩) (noTv) hS hD hK hE hlocks (by omega) (by omega)
  refine gcTv (gSx FX [.int p1] (c_wh_needRegister l hl0 G cL cZ Q A z _ p1 _ ho2) (cwS 1 hts (gi_S wd_264 wd_265 wd_266 wd_267) rfl rfl rfl hdS_X3_needRegister ⟨Nat.le_of_ble_eq_true rfl, Nat.le_of_ble_eq_true rfl⟩) hK hP hD hT hS hA rfl hl.1 (Nat.le_of_ble_eq_true rfl) dX3_move_5 ⟨by show _ ≤ 2; omega, by show _ ≤ 12; omega⟩) hS hD hA (fun H locs hP hS => ?_)
  refine lv_aload_n hx hb dX3_move_8 rfl (lv_at hl 0 rfl) ?_
  refine va_get (D := G) (ci := 3) (v := .ref (Q 1)) (C := RX3) (T := TX3) (N := 3) hx hb hts (fun w h => .tail _ (wl_X3 w h)) hown hK hP 0 rfl rfl 0 (by decide) (hts _ (.tail _ wd_262)) (fun _ h9 => h9) rfl dX3_move_9 ?_
  refine lv_iload_n hx hb dX3_move_12 rfl (lv_at hl 1 rfl) ?_
  refine lv_iload_n hx hb dX3_move_13 rfl (lv_at hl 2 rfl) ?_
  obtain ⟨z3, o9, ho3, hf⟩ := of_bw hf
  refine gcWv (gV FX [.int p0, .int p1] (c_hp_setWord l G cL cZ Q A z _ p0 p1 _ ho3) (cwV 2 hts (gi_V wd_269 wd_270 wd_271 wd_7 wd_272) rfl rfl rfl hdV_X0_setWord ⟨Nat.le_of_ble_eq_true rfl, Nat.le_of_ble_eq_true rfl⟩) hK hP hD 1 rfl rfl rfl hl.1 (Nat.le_of_ble_eq_true rfl) dX3_move_14 ⟨by show _ ≤ 2; omega, by show _ ≤ 12; omega⟩) hS hD hA (fun A H locs hP hD hS => ?_)
  obtain rfl := Option.some.inj hf
  exact grXv hx hb hr hlocks hP hK hD hS dX3_move_17 (by omega) (by omega)
set_option maxHeartbeats 4000000 in
set_option maxRecDepth 100000 in
theorem c_wh_needWithin (l : Launch) (hl0 : l.stackTraces = false) (G : va_G) (cL cZ : ClassId) (Q : Nat → Nat) (A : Nat → Nat) (z : Hs) (sz : Nat) (p0 : Int32) (p1 : Int32) (p2 : Int32) (O0 : (String ⊕ Unit)) (hf : wh_needWithin z p0 p1 p2 = some O0) : vx_Met l yX3_needWithin vX3_needWithin { frames := 8, cells := 1, slots := 6, locals := 200 } (gPx txC G vwCl (ct cL cZ) [.int p0, .int p1, .int p2] (cw cL cZ Q A z) sz) (qTv G vwCl (ct cL cZ) (cw cL cZ Q A z) sz O0) (xT G vwCl (ct cL cZ) (cw cL cZ Q A z) sz O0) 1 6 (va_A (cw cL cZ Q A z) sz) := by
  refine gMetx (by decide) rfl (Nat.le_of_ble_eq_true rfl) ?_
  intro p e s m below meth c ls C hE hK hP hD hT hsz hl
  subst hsz
  obtain ⟨hx, hb, hr, hml, hown, hts, hlocks⟩ := id C
  have FX : CallFix p m c cX3_needWithin 3 s _ vX3_needWithin RX3 := ⟨hx, hb, hml, hown, hts⟩
  have hA : ∀ q9 : Nat, s.heap.size ≤ q9 → va_A (cw cL cZ Q A z) s.heap.size q9 := fun q9 h => Or.inr h
  have hS : va_S (va_A (cw cL cZ Q A z) s.heap.size) s.heap s.heap [] := va_S.rf
  have hl : lv_has ls 3 [(0, .int p0), (1, .int p1), (2, .int p2)] := hl
  unfold wh_needWithin at hf
  refine lv_iload_n hx hb dX3_needWithin_0 rfl (lv_at hl 0 rfl) ?_
  refine lv_iload_n hx hb dX3_needWithin_1 rfl (lv_at hl 1 rfl) ?_
  refine lv_icmp_lt (tgt := 10) hx hb dX3_needWithin_2 (by decide) (fun c1 => ?_) (fun c1 => ?_)
  · have hf := (if_pos c1).symm.trans hf
    obtain rfl := Option.some.inj hf
    exact gthr0 (cls := "java/lang/IllegalArgumentException") (names := ["java/lang/RuntimeException", "java/lang/Exception"]) (text := "out of range") hx hb hl0 hown hts (by decide) (by decide) (.tail _ wd_260) (.tail _ wd_261) (by decide +kernel) (fun w h => .tail _ (tha_1 w h)) tht_1 (by decide +kernel) thg_1_209 hT hS (hl.1.trans hml.symm) dX3_needWithin_10 dX3_needWithin_13 dX3_needWithin_14 dX3_needWithin_16 dX3_needWithin_19 hE (Nat.lt_of_succ_le (Nat.le_of_ble_eq_true rfl)) (Nat.le_of_ble_eq_true rfl) (by show _ ≤ 1; omega) (by show _ ≤ 6; omega) hlocks (gqT hP hK hD hS) hS.2.2 (by omega) (by omega)
  · have hf := (if_neg c1).symm.trans hf
    refine lv_iload_n hx hb dX3_needWithin_5 rfl (lv_at hl 0 rfl) ?_
    refine lv_iload_n hx hb dX3_needWithin_6 rfl (lv_at hl 2 rfl) ?_
    refine lv_icmp_le (tgt := 20) hx hb dX3_needWithin_7 (by decide) (fun c2 => ?_) (fun c2 => ?_)
    · have hf := (if_pos c2).symm.trans hf
      obtain rfl := Option.some.inj hf
      exact grTv hx hb hr hlocks hP hK hD hS dX3_needWithin_20 (by omega) (by omega)
    · have hf := (if_neg c2).symm.trans hf
      obtain rfl := Option.some.inj hf
      exact gthr0 (cls := "java/lang/IllegalArgumentException") (names := ["java/lang/RuntimeException", "java/lang/Exception"]) (text := "out of range") hx hb hl0 hown hts (by decide) (by decide) (.tail _ wd_260) (.tail _ wd_261) (by decide +kernel) (fun w h => .tail _ (tha_1 w h)) tht_1 (by decide +kernel) thg_1_209 hT hS (hl.1.trans hml.symm) dX3_needWithin_10 dX3_needWithin_13 dX3_needWithin_14 dX3_needWithin_16 dX3_needWithin_19 hE (Nat.lt_of_succ_le (Nat.le_of_ble_eq_true rfl)) (Nat.le_of_ble_eq_true rfl) (by show _ ≤ 1; omega) (by show _ ≤ 6; omega) hlocks (gqT hP hK hD hS) hS.2.2 (by omega) (by omega)
set_option maxHeartbeats 4000000 in
set_option maxRecDepth 100000 in
theorem c_wh_hold (l : Launch) (G : va_G) (cL cZ : ClassId) (Q : Nat → Nat) (A : Nat → Nat) (z : Hs) (sz : Nat) (p0 : Int32) (p1 : Int32) (O0 : Hs × Int32) (hf : wh_hold z p0 p1 = some O0) : Met l yX3_hold vX3_hold { frames := 2, cells := 0, slots := 0, locals := 42 } (gPc G vwCl (ct cL cZ) [.ref (Q 0), .int p0, .int p1] (cw cL cZ Q A z) sz) (qWi G vwCl (ct cL cZ) (cw cL cZ Q A z) sz (cw cL cZ Q) O0) 0 0 (va_A (cw cL cZ Q A z) sz) := by
  refine gMet (by decide) rfl (Nat.le_of_ble_eq_true rfl) ?_
  intro p e s m below meth c ls C hK hP hD hsz hl
  subst hsz
  obtain ⟨hx, hb, hr, hml, hown, hts, hlocks⟩ := id C
  have FX : CallFix p m c cX3_hold 3 s _ vX3_hold RX3 := ⟨hx, hb, hml, hown, hts⟩
  have hA : ∀ q9 : Nat, s.heap.size ≤ q9 → va_A (cw cL cZ Q A z) s.heap.size q9 := fun q9 h => Or.inr h
  have hS : va_S (va_A (cw cL cZ Q A z) s.heap.size) s.heap s.heap [] := va_S.rf
  have hl : lv_has ls 3 [(0, .ref (Q 0)), (1, .int p0), (2, .int p1)] := hl
  unfold wh_hold at hf
  refine lv_aload_n hx hb dX3_hold_0 rfl (lv_at hl 0 rfl) ?_
  refine va_get (D := G) (ci := 3) (v := .ref (Q 1)) (C := RX3) (T := TX3) (N := 3) hx hb hts (fun w h => .tail _ (wl_X3 w h)) hown hK hP 0 rfl rfl 0 (by decide) (hts _ (.tail _ wd_262)) (fun _ h9 => h9) rfl dX3_hold_1 ?_
  refine lv_iload_n hx hb dX3_hold_4 rfl (lv_at hl 1 rfl) ?_
  refine lv_iload_n hx hb dX3_hold_5 rfl (lv_at hl 2 rfl) ?_
  refine lv_iconst (v := 0) hx hb dX3_hold_6 (by decide) ?_
  obtain ⟨z1, o9, ho1, hf⟩ := of_bw hf
  refine gcWv (gV FX [.int p0, .int p1, .int 0] (c_hp_setReference l G cL cZ Q A z _ p0 p1 0 _ ho1) (cwV 3 hts (gi_V wd_268 wd_166 wd_167 wd_7 wd_168) rfl rfl rfl hdV_X0_setReference ⟨Nat.le_of_ble_eq_true rfl, Nat.le_of_ble_eq_true rfl⟩) hK hP hD 1 rfl rfl rfl hl.1 (Nat.le_of_ble_eq_true rfl) dX3_hold_7 ⟨by show _ ≤ 0; omega, by show _ ≤ 0; omega⟩) hS hD hA (fun A H locs hP hD hS => ?_)
  refine lv_aload_n hx hb dX3_hold_10 rfl (lv_at hl 0 rfl) ?_
  refine va_get (D := G) (ci := 3) (v := .ref (Q 1)) (C := RX3) (T := TX3) (N := 3) hx hb hts (fun w h => .tail _ (wl_X3 w h)) hown hK hP 0 rfl rfl 0 (by decide) (hts _ (.tail _ wd_262)) (fun _ h9 => h9) rfl dX3_hold_11 ?_
  refine lv_iload_n hx hb dX3_hold_14 rfl (lv_at hl 2 rfl) ?_
  obtain ⟨r2, ho2, hf⟩ := of_b0 hf
  refine gcRi (gV FX [.int p1] (c_hp_serial l G cL cZ Q A z1 _ p1 _ ho2) (cwV 1 hts (gi_V wd_273 wd_274 wd_275 wd_7 wd_276) rfl rfl rfl hdV_X0_serial ⟨Nat.le_of_ble_eq_true rfl, Nat.le_of_ble_eq_true rfl⟩) hK hP hD 1 rfl rfl rfl hl.1 (Nat.le_of_ble_eq_true rfl) dX3_hold_15 ⟨by show _ ≤ 0; omega, by show _ ≤ 0; omega⟩) hS hD hA (fun H locs hP hS => ?_)
  obtain rfl := Option.some.inj hf
  exact grWi hx hb hr hlocks hP hK hD hS dX3_hold_18 (by omega) (by omega)
set_option maxHeartbeats 4000000 in
set_option maxRecDepth 100000 in
theorem c_wh_make (l : Launch) (hl0 : l.stackTraces = false) (G : va_G) (cL cZ : ClassId) (Q : Nat → Nat) (A : Nat → Nat) (z : Hs) (sz : Nat) (p0 : Int32) (p1 : Int32) (c0 : Nat) (O0 : Hs × (String ⊕ Int32)) (hf : wh_make z p0 p1 = some (c0, O0)) : vx_Met l yX3_make vX3_make { frames := 10, cells := 8, slots := 18 + c0, locals := 243 } (gPx txC G vwCl (ct cL cZ) [.ref (Q 0), .int p0, .int p1] (cw cL cZ Q A z) sz) (qXi G vwCl (ct cL cZ) (cw cL cZ Q A z) sz (cw cL cZ Q) O0) (xX G vwCl (ct cL cZ) (cw cL cZ Q A z) sz (cw cL cZ Q) O0) 8 (18 + c0) (va_A (cw cL cZ Q A z) sz) := by
  refine gMetx (by decide) rfl (Nat.le_of_ble_eq_true rfl) ?_
  intro p e s m below meth c ls C hE hK hP hD hT hsz hl
  subst hsz
  obtain ⟨hx, hb, hr, hml, hown, hts, hlocks⟩ := id C
  have FX : CallFix p m c cX3_make 3 s _ vX3_make RX3 := ⟨hx, hb, hml, hown, hts⟩
  have hA : ∀ q9 : Nat, s.heap.size ≤ q9 → va_A (cw cL cZ Q A z) s.heap.size q9 := fun q9 h => Or.inr h
  have hS : va_S (va_A (cw cL cZ Q A z) s.heap.size) s.heap s.heap [] := va_S.rf
  have hl : lv_has ls 3 [(0, .ref (Q 0)), (1, .int p0), (2, .int p1)] := hl
  unfold wh_make at hf
  refine lv_iload_n hx hb dX3_make_0 rfl (lv_at hl 1 rfl) ?_
  rcases of_bt hf with ⟨e9, ho1, hj⟩ | ⟨o9, ho1, hf⟩
  · obtain ⟨hc0, hj⟩ := of_pair hj
    subst hj
    exact goutX (gSx FX [.int p0] (c_wh_needRegister l hl0 G cL cZ Q A z _ p0 _ ho1) (cwS 1 hts (gi_S wd_264 wd_265 wd_266 wd_267) rfl rfl rfl hdS_X3_needRegister ⟨Nat.le_of_ble_eq_true rfl, Nat.le_of_ble_eq_true rfl⟩) hK hP hD hT hS hA rfl hl.1 (Nat.le_of_ble_eq_true rfl) dX3_make_1 ⟨by show _ ≤ 8; omega, by show _ ≤ 18 + c0; omega⟩) (noTv) hS hD hK hE hlocks (by omega) (by omega)
  refine gcTv (gSx FX [.int p0] (c_wh_needRegister l hl0 G cL cZ Q A z _ p0 _ ho1) (cwS 1 hts (gi_S wd_264 wd_265 wd_266 wd_267) rfl rfl rfl hdS_X3_needRegister ⟨Nat.le_of_ble_eq_true rfl, Nat.le_of_ble_eq_true rfl⟩) hK hP hD hT hS hA rfl hl.1 (Nat.le_of_ble_eq_true rfl) dX3_make_1 ⟨by show _ ≤ 8; omega, by show _ ≤ 18 + c0; omega⟩) hS hD hA (fun H locs hP hS => ?_)
  refine lv_iload_n hx hb dX3_make_4 rfl (lv_at hl 2 rfl) ?_
  refine lv_iconst (v := 0) hx hb dX3_make_5 (by decide) ?_
  refine lv_sipush (v := 4096) hx hb dX3_make_6 (by decide) ?_
  rcases of_bt hf with ⟨e9, ho2, hj⟩ | ⟨o9, ho2, hf⟩
  · obtain ⟨hc0, hj⟩ := of_pair hj
    subst hj
    exact goutX (gSx FX [.int p1, .int 0, .int 4096] (c_wh_needWithin l hl0 G cL cZ Q A z _ p1 0 4096 _ ho2) (cwS 3 hts (gi_S wd_282 wd_283 wd_266 wd_284) rfl rfl rfl hdS_X3_needWithin ⟨Nat.le_of_ble_eq_true rfl, Nat.le_of_ble_eq_true rfl⟩) hK hP hD hT hS hA rfl hl.1 (Nat.le_of_ble_eq_true rfl) dX3_make_9 ⟨by show _ ≤ 8; omega, by show _ ≤ 18 + c0; omega⟩) (noTv) hS hD hK hE hlocks (by omega) (by omega)
  refine gcTv (gSx FX [.int p1, .int 0, .int 4096] (c_wh_needWithin l hl0 G cL cZ Q A z _ p1 0 4096 _ ho2) (cwS 3 hts (gi_S wd_282 wd_283 wd_266 wd_284) rfl rfl rfl hdS_X3_needWithin ⟨Nat.le_of_ble_eq_true rfl, Nat.le_of_ble_eq_true rfl⟩) hK hP hD hT hS hA rfl hl.1 (Nat.le_of_ble_eq_true rfl) dX3_make_9 ⟨by show _ ≤ 8; omega, by show _ ≤ 18 + c0; omega⟩) hS hD hA (fun H locs hP hS => ?_)
  refine lv_aload_n hx hb dX3_make_12 rfl (lv_at hl 0 rfl) ?_
  refine lv_iload_n hx hb dX3_make_13 rfl (lv_at hl 1 rfl) ?_
  refine lv_aload_n hx hb dX3_make_14 rfl (lv_at hl 0 rfl) ?_
  refine va_get (D := G) (ci := 3) (v := .ref (Q 1)) (C := RX3) (T := TX3) (N := 3) hx hb hts (fun w h => .tail _ (wl_X3 w h)) hown hK hP 0 rfl rfl 0 (by decide) (hts _ (.tail _ wd_262)) (fun _ h9 => h9) rfl dX3_make_15 ?_
  refine lv_iconst (v := 2) hx hb dX3_make_18 (by decide) ?_
  refine lv_iload_n hx hb dX3_make_19 rfl (lv_at hl 2 rfl) ?_
  rcases of_bcwt hf with ⟨k3, z3, e9, ho3, hj⟩ | ⟨k3, z3, r3, d3, ho3, hf, ek3⟩
  · obtain ⟨hc0, hj⟩ := of_pair hj
    subst hj
    exact goutXX (gVx FX [.int 2, .int p1] (c_hp_claim l hl0 G cL cZ Q A z _ 2 p1 k3 _ ho3) (cwV 2 hts (gi_V wd_281 wd_142 wd_143 wd_7 wd_144) rfl rfl rfl hdV_X0_claim ⟨Nat.le_of_ble_eq_true rfl, Nat.le_of_ble_eq_true rfl⟩) hK hP hD hT hS hA 1 rfl rfl rfl hl.1 (Nat.le_of_ble_eq_true rfl) dX3_make_20 ⟨by show _ ≤ 8; omega, by show _ ≤ 18 + c0; omega⟩) (noXi) hS hD hK hE hlocks (by omega) (by omega)
  refine gcXi (gVx FX [.int 2, .int p1] (c_hp_claim l hl0 G cL cZ Q A z _ 2 p1 k3 _ ho3) (cwV 2 hts (gi_V wd_281 wd_142 wd_143 wd_7 wd_144) rfl rfl rfl hdV_X0_claim ⟨Nat.le_of_ble_eq_true rfl, Nat.le_of_ble_eq_true rfl⟩) hK hP hD hT hS hA 1 rfl rfl rfl hl.1 (Nat.le_of_ble_eq_true rfl) dX3_make_20 ⟨by show _ ≤ 8; omega, by show _ ≤ 18 + c0; omega⟩) hS hD hA (fun A H locs hP hD hS => ?_)
  obtain ⟨z4, r4, ho4, hf⟩ := of_bw hf
  refine gcWi (gV FX [.int p0, .int r3] (c_wh_hold l G cL cZ Q A z3 _ p0 r3 _ ho4) (cwV 2 hts (gi_V wd_277 wd_278 wd_279 wd_266 wd_280) rfl rfl rfl hdV_X3_hold ⟨Nat.le_of_ble_eq_true rfl, Nat.le_of_ble_eq_true rfl⟩) hK hP hD 0 rfl rfl rfl hl.1 (Nat.le_of_ble_eq_true rfl) dX3_make_23 ⟨by show _ ≤ 8; omega, by show _ ≤ 18 + c0; omega⟩) hS hD hA (fun A H locs hP hD hS => ?_)
  obtain ⟨hc0, hj0⟩ := of_some2 hf
  subst hj0
  exact grXi hx hb hr hlocks hP hK hD hS dX3_make_26 (by omega) (by omega)
set_option maxHeartbeats 4000000 in
set_option maxRecDepth 100000 in
theorem c_wh_text (l : Launch) (hl0 : l.stackTraces = false) (G : va_G) (cL cZ : ClassId) (Q : Nat → Nat) (A : Nat → Nat) (z : Hs) (sz : Nat) (p0 : Int32) (p1 : Int32) (c0 : Nat) (O0 : Hs × (String ⊕ Int32)) (hf : wh_text z p0 p1 = some (c0, O0)) : vx_Met l yX3_text vX3_text { frames := 10, cells := 8, slots := 18 + c0, locals := 243 } (gPx txC G vwCl (ct cL cZ) [.ref (Q 0), .int p0, .int p1] (cw cL cZ Q A z) sz) (qXi G vwCl (ct cL cZ) (cw cL cZ Q A z) sz (cw cL cZ Q) O0) (xX G vwCl (ct cL cZ) (cw cL cZ Q A z) sz (cw cL cZ Q) O0) 8 (18 + c0) (va_A (cw cL cZ Q A z) sz) := by
  refine gMetx (by decide) rfl (Nat.le_of_ble_eq_true rfl) ?_
  intro p e s m below meth c ls C hE hK hP hD hT hsz hl
  subst hsz
  obtain ⟨hx, hb, hr, hml, hown, hts, hlocks⟩ := id C
  have FX : CallFix p m c cX3_text 3 s _ vX3_text RX3 := ⟨hx, hb, hml, hown, hts⟩
  have hA : ∀ q9 : Nat, s.heap.size ≤ q9 → va_A (cw cL cZ Q A z) s.heap.size q9 := fun q9 h => Or.inr h
  have hS : va_S (va_A (cw cL cZ Q A z) s.heap.size) s.heap s.heap [] := va_S.rf
  have hl : lv_has ls 3 [(0, .ref (Q 0)), (1, .int p0), (2, .int p1)] := hl
  unfold wh_text at hf
  refine lv_iload_n hx hb dX3_text_0 rfl (lv_at hl 1 rfl) ?_
  rcases of_bt hf with ⟨e9, ho1, hj⟩ | ⟨o9, ho1, hf⟩
  · obtain ⟨hc0, hj⟩ := of_pair hj
    subst hj
    exact goutX (gSx FX [.int p0] (c_wh_needRegister l hl0 G cL cZ Q A z _ p0 _ ho1) (cwS 1 hts (gi_S wd_264 wd_265 wd_266 wd_267) rfl rfl rfl hdS_X3_needRegister ⟨Nat.le_of_ble_eq_true rfl, Nat.le_of_ble_eq_true rfl⟩) hK hP hD hT hS hA rfl hl.1 (Nat.le_of_ble_eq_true rfl) dX3_text_1 ⟨by show _ ≤ 8; omega, by show _ ≤ 18 + c0; omega⟩) (noTv) hS hD hK hE hlocks (by omega) (by omega)
  refine gcTv (gSx FX [.int p0] (c_wh_needRegister l hl0 G cL cZ Q A z _ p0 _ ho1) (cwS 1 hts (gi_S wd_264 wd_265 wd_266 wd_267) rfl rfl rfl hdS_X3_needRegister ⟨Nat.le_of_ble_eq_true rfl, Nat.le_of_ble_eq_true rfl⟩) hK hP hD hT hS hA rfl hl.1 (Nat.le_of_ble_eq_true rfl) dX3_text_1 ⟨by show _ ≤ 8; omega, by show _ ≤ 18 + c0; omega⟩) hS hD hA (fun H locs hP hS => ?_)
  refine lv_iload_n hx hb dX3_text_4 rfl (lv_at hl 2 rfl) ?_
  refine lv_iconst (v := 0) hx hb dX3_text_5 (by decide) ?_
  refine lv_ldc (v := 32768) hx hb hown (hts _ (.tail _ wd_285)) dX3_text_6 ?_
  rcases of_bt hf with ⟨e9, ho2, hj⟩ | ⟨o9, ho2, hf⟩
  · obtain ⟨hc0, hj⟩ := of_pair hj
    subst hj
    exact goutX (gSx FX [.int p1, .int 0, .int 32768] (c_wh_needWithin l hl0 G cL cZ Q A z _ p1 0 32768 _ ho2) (cwS 3 hts (gi_S wd_282 wd_283 wd_266 wd_284) rfl rfl rfl hdS_X3_needWithin ⟨Nat.le_of_ble_eq_true rfl, Nat.le_of_ble_eq_true rfl⟩) hK hP hD hT hS hA rfl hl.1 (Nat.le_of_ble_eq_true rfl) dX3_text_8 ⟨by show _ ≤ 8; omega, by show _ ≤ 18 + c0; omega⟩) (noTv) hS hD hK hE hlocks (by omega) (by omega)
  refine gcTv (gSx FX [.int p1, .int 0, .int 32768] (c_wh_needWithin l hl0 G cL cZ Q A z _ p1 0 32768 _ ho2) (cwS 3 hts (gi_S wd_282 wd_283 wd_266 wd_284) rfl rfl rfl hdS_X3_needWithin ⟨Nat.le_of_ble_eq_true rfl, Nat.le_of_ble_eq_true rfl⟩) hK hP hD hT hS hA rfl hl.1 (Nat.le_of_ble_eq_true rfl) dX3_text_8 ⟨by show _ ≤ 8; omega, by show _ ≤ 18 + c0; omega⟩) hS hD hA (fun H locs hP hS => ?_)
  refine lv_aload_n hx hb dX3_text_11 rfl (lv_at hl 0 rfl) ?_
  refine lv_iload_n hx hb dX3_text_12 rfl (lv_at hl 1 rfl) ?_
  refine lv_aload_n hx hb dX3_text_13 rfl (lv_at hl 0 rfl) ?_
  refine va_get (D := G) (ci := 3) (v := .ref (Q 1)) (C := RX3) (T := TX3) (N := 3) hx hb hts (fun w h => .tail _ (wl_X3 w h)) hown hK hP 0 rfl rfl 0 (by decide) (hts _ (.tail _ wd_262)) (fun _ h9 => h9) rfl dX3_text_14 ?_
  refine lv_iconst (v := 3) hx hb dX3_text_17 (by decide) ?_
  refine lv_iload_n hx hb dX3_text_18 rfl (lv_at hl 2 rfl) ?_
  rcases of_bcwt hf with ⟨k3, z3, e9, ho3, hj⟩ | ⟨k3, z3, r3, d3, ho3, hf, ek3⟩
  · obtain ⟨hc0, hj⟩ := of_pair hj
    subst hj
    exact goutXX (gVx FX [.int 3, .int p1] (c_hp_claim l hl0 G cL cZ Q A z _ 3 p1 k3 _ ho3) (cwV 2 hts (gi_V wd_281 wd_142 wd_143 wd_7 wd_144) rfl rfl rfl hdV_X0_claim ⟨Nat.le_of_ble_eq_true rfl, Nat.le_of_ble_eq_true rfl⟩) hK hP hD hT hS hA 1 rfl rfl rfl hl.1 (Nat.le_of_ble_eq_true rfl) dX3_text_19 ⟨by show _ ≤ 8; omega, by show _ ≤ 18 + c0; omega⟩) (noXi) hS hD hK hE hlocks (by omega) (by omega)
  refine gcXi (gVx FX [.int 3, .int p1] (c_hp_claim l hl0 G cL cZ Q A z _ 3 p1 k3 _ ho3) (cwV 2 hts (gi_V wd_281 wd_142 wd_143 wd_7 wd_144) rfl rfl rfl hdV_X0_claim ⟨Nat.le_of_ble_eq_true rfl, Nat.le_of_ble_eq_true rfl⟩) hK hP hD hT hS hA 1 rfl rfl rfl hl.1 (Nat.le_of_ble_eq_true rfl) dX3_text_19 ⟨by show _ ≤ 8; omega, by show _ ≤ 18 + c0; omega⟩) hS hD hA (fun A H locs hP hD hS => ?_)
  obtain ⟨z4, r4, ho4, hf⟩ := of_bw hf
  refine gcWi (gV FX [.int p0, .int r3] (c_wh_hold l G cL cZ Q A z3 _ p0 r3 _ ho4) (cwV 2 hts (gi_V wd_277 wd_278 wd_279 wd_266 wd_280) rfl rfl rfl hdV_X3_hold ⟨Nat.le_of_ble_eq_true rfl, Nat.le_of_ble_eq_true rfl⟩) hK hP hD 0 rfl rfl rfl hl.1 (Nat.le_of_ble_eq_true rfl) dX3_text_22 ⟨by show _ ≤ 8; omega, by show _ ≤ 18 + c0; omega⟩) hS hD hA (fun A H locs hP hD hS => ?_)
  obtain ⟨hc0, hj0⟩ := of_some2 hf
  subst hj0
  exact grXi hx hb hr hlocks hP hK hD hS dX3_text_25 (by omega) (by omega)
