def At_mp_slotOfKey_l21 (l : Launch) (G : va_G) (cL cZ : ClassId) (Q : Nat → Nat) (A : Nat → Nat) (z : Hs) (p : Program) (e : Env) (s : State) (m : MethodId) (args : Array Value) (below : List Frame) (meth : Method) (c : Code) (O0 : Int32) (mcT msT : Nat) (F : Int32 → Int32 → Int32 → Int32 → Int32 → Hs → Option (Int32)) : Prop := ∀ (x1 : Int32) (x2 : Int32) (x3 : Int32) (x4 : Int32) (x5 : Int32) (H : Heap) (locs : List Loc) (ls : Array Slot) (cells slots : Nat), va_P G vwCl (cw cL cZ Q A z) H → va_D (va_A (cw cL cZ Q A z) s.heap.size) (cw cL cZ Q A z) → va_S (va_A (cw cL cZ Q A z) s.heap.size) s.heap H locs → lv_has ls 6 [(0, .ref (Q 3)), (1, .int x1), (2, .int x2), (3, .int x3), (4, .int x4), (5, .int x5)] → F x1 x2 x3 x4 x5 z = some O0 → cells + 0 ≤ mcT → slots + 0 ≤ msT → W p l e { frames := 4, cells := mcT, slots := msT, locals := 92 } s m args below meth c H locs cells slots (MQ below (qRi G vwCl (ct cL cZ) (cw cL cZ Q A z) s.heap.size O0) args s mcT msT (va_A (cw cL cZ Q A z) s.heap.size)) (F0 m 21 ls [])
set_option maxHeartbeats 4000000 in
set_option maxRecDepth 100000 in
theorem L_mp_slotOfKey_l21 (l : Launch) (G : va_G) (cL cZ : ClassId) (Q : Nat → Nat) (A : Nat → Nat) (z : Hs) (p : Program) (e : Env) (s : State) (m : MethodId) (args : Array Value) (below : List Frame) (meth : Method) (c : Code) (O0 : Int32) (mcT msT : Nat) (C : MC p s m args meth c cX1_slotOfKey 6 (some .int) RX1 vX1_slotOfKey) (hK : va_K G vwCl (ct cL cZ) s) : ∀ n : Nat, At_mp_slotOfKey_l21 l G cL cZ Q A z p e s m args below meth c O0 mcT msT (mp_slotOfKey_l21 n) := by
  obtain ⟨hx, hb, hr, hml, hown, hts, hlocks⟩ := id C
  have FX : CallFix p m c cX1_slotOfKey 6 s args vX1_slotOfKey RX1 := ⟨hx, hb, hml, hown, hts⟩
  have hA : ∀ q9 : Nat, s.heap.size ≤ q9 → va_A (cw cL cZ Q A z) s.heap.size q9 := fun q9 h => Or.inr h
  intro n
  induction n with
  | zero =>
    intro x1 x2 x3 x4 x5 H locs ls cells slots hP hD hS hl hf hcc hss
    exact nomatch (show none = some _ from hf)
  | succ n ih =>
    intro x1 x2 x3 x4 x5 H locs ls cells slots hP hD hS hl hf hcc hss
    rw [mp_slotOfKey_l21] at hf
    refine lv_iload hx hb dX1_slotOfKey_21 (lv_at hl 5 rfl) ?_
    refine lv_iload hx hb dX1_slotOfKey_23 (lv_at hl 4 rfl) ?_
    refine lv_icmp_ge (tgt := 63) hx hb dX1_slotOfKey_25 (by decide) (fun c4 => ?_) (fun c4 => ?_)
    · have hf := (if_pos c4).symm.trans hf
      refine lv_iconst (v := (-1)) hx hb dX1_slotOfKey_63 (by decide) ?_
      obtain rfl := Option.some.inj hf
      exact grRi hx hb hr hlocks hP hK hD hS dX1_slotOfKey_64 (by omega) (by omega)
    · have hf := (if_neg c4).symm.trans hf
      refine lv_aload_n hx hb dX1_slotOfKey_28 rfl (lv_at hl 0 rfl) ?_
      refine lv_iload hx hb dX1_slotOfKey_29 (lv_at hl 5 rfl) ?_
      obtain ⟨r5, ho5, hf⟩ := of_b0 hf
      refine gcRi (gV FX [.int x5] (c_mp_orderIn l G cL cZ Q A z _ x5 _ ho5) (cwV 1 hts (gi_V wd_224 wd_225 wd_226 wd_166 wd_227) rfl rfl rfl hdV_X1_orderIn ⟨Nat.le_of_ble_eq_true rfl, Nat.le_of_ble_eq_true rfl⟩) hK hP hD 3 rfl rfl rfl hl.1 (Nat.le_of_ble_eq_true rfl) dX1_slotOfKey_31 ⟨by show _ ≤ mcT; omega, by show _ ≤ msT; omega⟩) hS hD hA (fun H locs hP hS => ?_)
      refine lv_iconst (v := (-1)) hx hb dX1_slotOfKey_34 (by decide) ?_
      refine lv_icmp_eq (tgt := 54) hx hb dX1_slotOfKey_35 (by decide) (fun c6 => ?_) (fun c6 => ?_)
      · have hf := (if_pos c6).symm.trans hf
        refine lv_iload hx hb dX1_slotOfKey_54 (lv_at hl 5 rfl) ?_
        refine lv_iload_n hx hb dX1_slotOfKey_56 rfl (lv_at hl 3 rfl) ?_
        refine lv_iadd hx hb dX1_slotOfKey_57 ?_
        refine lv_istore (lv' := [(5, .int (x5 + x3)), (0, .ref (Q 3)), (1, .int x1), (2, .int x2), (3, .int x3), (4, .int x4)]) hx hb dX1_slotOfKey_58 hl (by decide) rfl (fun ls hl => ?_)
        refine lv_goto (tgt := 21) hx hb dX1_slotOfKey_60 (by decide) ?_
        exact ih _ _ _ _ _ _ _ _ _ _ hP hD hS (lv_sub hl [1, 2, 3, 4, 5, 0] rfl) hf (by omega) (by omega)
      · have hf := (if_neg c6).symm.trans hf
        refine lv_aload_n hx hb dX1_slotOfKey_38 rfl (lv_at hl 0 rfl) ?_
        refine lv_iload_n hx hb dX1_slotOfKey_39 rfl (lv_at hl 1 rfl) ?_
        refine lv_iload hx hb dX1_slotOfKey_40 (lv_at hl 5 rfl) ?_
        refine lv_iconst (v := 3) hx hb dX1_slotOfKey_42 (by decide) ?_
        refine lv_iadd hx hb dX1_slotOfKey_43 ?_
        refine lv_iload_n hx hb dX1_slotOfKey_44 rfl (lv_at hl 2 rfl) ?_
        obtain ⟨r7, ho7, hf⟩ := of_b0 hf
        refine gcRi (gV FX [.int x1, .int (x5 + 3), .int x2] (c_mp_alikeKeys l G cL cZ Q A z _ x1 (x5 + 3) x2 _ ho7) (cwV 3 hts (gi_V wd_220 wd_221 wd_222 wd_166 wd_223) rfl rfl rfl hdV_X1_alikeKeys ⟨Nat.le_of_ble_eq_true rfl, Nat.le_of_ble_eq_true rfl⟩) hK hP hD 3 rfl rfl rfl hl.1 (Nat.le_of_ble_eq_true rfl) dX1_slotOfKey_45 ⟨by show _ ≤ mcT; omega, by show _ ≤ msT; omega⟩) hS hD hA (fun H locs hP hS => ?_)
        refine lv_if_eq (tgt := 54) hx hb dX1_slotOfKey_48 (by decide) (fun c8 => ?_) (fun c8 => ?_)
        · have hf := (if_pos c8).symm.trans hf
          refine lv_iload hx hb dX1_slotOfKey_54 (lv_at hl 5 rfl) ?_
          refine lv_iload_n hx hb dX1_slotOfKey_56 rfl (lv_at hl 3 rfl) ?_
          refine lv_iadd hx hb dX1_slotOfKey_57 ?_
          refine lv_istore (lv' := [(5, .int (x5 + x3)), (0, .ref (Q 3)), (1, .int x1), (2, .int x2), (3, .int x3), (4, .int x4)]) hx hb dX1_slotOfKey_58 hl (by decide) rfl (fun ls hl => ?_)
          refine lv_goto (tgt := 21) hx hb dX1_slotOfKey_60 (by decide) ?_
          exact ih _ _ _ _ _ _ _ _ _ _ hP hD hS (lv_sub hl [1, 2, 3, 4, 5, 0] rfl) hf (by omega) (by omega)
        · have hf := (if_neg c8).symm.trans hf
          refine lv_iload hx hb dX1_slotOfKey_51 (lv_at hl 5 rfl) ?_
          obtain rfl := Option.some.inj hf
          exact grRi hx hb hr hlocks hP hK hD hS dX1_slotOfKey_53 (by omega) (by omega)
set_option maxHeartbeats 4000000 in
set_option maxRecDepth 100000 in
theorem c_mp_slotOfKey (l : Launch) (G : va_G) (cL cZ : ClassId) (Q : Nat → Nat) (A : Nat → Nat) (z : Hs) (sz : Nat) (p0 : Int32) (p1 : Int32) (O0 : Int32) (hf : mp_slotOfKey z p0 p1 = some O0) : Met l yX1_slotOfKey vX1_slotOfKey { frames := 4, cells := 0, slots := 0, locals := 92 } (gPc G vwCl (ct cL cZ) [.ref (Q 3), .int p0, .int p1] (cw cL cZ Q A z) sz) (qRi G vwCl (ct cL cZ) (cw cL cZ Q A z) sz O0) 0 0 (va_A (cw cL cZ Q A z) sz) := by
  refine gMet (by decide) rfl (Nat.le_of_ble_eq_true rfl) ?_
  intro p e s m below meth c ls C hK hP hD hsz hl
  subst hsz
  obtain ⟨hx, hb, hr, hml, hown, hts, hlocks⟩ := id C
  have FX : CallFix p m c cX1_slotOfKey 6 s _ vX1_slotOfKey RX1 := ⟨hx, hb, hml, hown, hts⟩
  have hA : ∀ q9 : Nat, s.heap.size ≤ q9 → va_A (cw cL cZ Q A z) s.heap.size q9 := fun q9 h => Or.inr h
  have hS : va_S (va_A (cw cL cZ Q A z) s.heap.size) s.heap s.heap [] := va_S.rf
  have hl : lv_has ls 6 [(0, .ref (Q 3)), (1, .int p0), (2, .int p1)] := hl
  unfold mp_slotOfKey at hf
  refine lv_aload_n hx hb dX1_slotOfKey_0 rfl (lv_at hl 0 rfl) ?_
  refine lv_iload_n hx hb dX1_slotOfKey_1 rfl (lv_at hl 1 rfl) ?_
  obtain ⟨r1, ho1, hf⟩ := of_b0 hf
  refine gcRi (gV FX [.int p0] (c_mp_slotWords l G cL cZ Q A z _ p0 _ ho1) (cwV 1 hts (gi_V wd_216 wd_217 wd_218 wd_166 wd_219) rfl rfl rfl hdV_X1_slotWords ⟨Nat.le_of_ble_eq_true rfl, Nat.le_of_ble_eq_true rfl⟩) hK hP hD 3 rfl rfl rfl hl.1 (Nat.le_of_ble_eq_true rfl) dX1_slotOfKey_2 ⟨by show _ ≤ 0; omega, by show _ ≤ 0; omega⟩) hS hD hA (fun H locs hP hS => ?_)
  refine lv_istore_n (lv' := [(3, .int r1), (0, .ref (Q 3)), (1, .int p0), (2, .int p1)]) hx hb dX1_slotOfKey_5 rfl hl (by decide) rfl (fun ls hl => ?_)
  refine lv_aload_n hx hb dX1_slotOfKey_6 rfl (lv_at hl 1 rfl) ?_
  refine lv_iload_n hx hb dX1_slotOfKey_7 rfl (lv_at hl 2 rfl) ?_
  refine lv_iload_n hx hb dX1_slotOfKey_8 rfl (lv_at hl 0 rfl) ?_
  obtain ⟨r2, ho2, hf⟩ := of_b0 hf
  refine gcRi (gV FX [.int p0, .int r1] (c_mp_slotsEnd l G cL cZ Q A z _ p0 r1 _ ho2) (cwV 2 hts (gi_V wd_212 wd_213 wd_214 wd_166 wd_215) rfl rfl rfl hdV_X1_slotsEnd ⟨Nat.le_of_ble_eq_true rfl, Nat.le_of_ble_eq_true rfl⟩) hK hP hD 3 rfl rfl rfl hl.1 (Nat.le_of_ble_eq_true rfl) dX1_slotOfKey_9 ⟨by show _ ≤ 0; omega, by show _ ≤ 0; omega⟩) hS hD hA (fun H locs hP hS => ?_)
  refine lv_istore (lv' := [(4, .int r2), (3, .int r1), (0, .ref (Q 3)), (1, .int p0), (2, .int p1)]) hx hb dX1_slotOfKey_12 hl (by decide) rfl (fun ls hl => ?_)
  refine lv_aload_n hx hb dX1_slotOfKey_14 rfl (lv_at hl 2 rfl) ?_
  refine lv_iload_n hx hb dX1_slotOfKey_15 rfl (lv_at hl 3 rfl) ?_
  obtain ⟨r3, ho3, hf⟩ := of_b0 hf
  refine gcRi (gV FX [.int p0] (c_mp_slotsStart l G cL cZ Q A z _ p0 _ ho3) (cwV 1 hts (gi_V wd_199 wd_200 wd_201 wd_166 wd_202) rfl rfl rfl hdV_X1_slotsStart ⟨Nat.le_of_ble_eq_true rfl, Nat.le_of_ble_eq_true rfl⟩) hK hP hD 3 rfl rfl rfl hl.1 (Nat.le_of_ble_eq_true rfl) dX1_slotOfKey_16 ⟨by show _ ≤ 0; omega, by show _ ≤ 0; omega⟩) hS hD hA (fun H locs hP hS => ?_)
  refine lv_istore (lv' := [(5, .int r3), (4, .int r2), (3, .int r1), (0, .ref (Q 3)), (1, .int p0), (2, .int p1)]) hx hb dX1_slotOfKey_19 hl (by decide) rfl (fun ls hl => ?_)
  exact L_mp_slotOfKey_l21 _ _ _ _ _ _ _ _ _ _ _ _ _ _ _ _ _ _ C hK FU _ _ _ _ _ _ _ _ _ _ hP hD hS (lv_sub hl [3, 4, 5, 2, 1, 0] rfl) hf (by omega) (by omega)
set_option maxHeartbeats 4000000 in
set_option maxRecDepth 100000 in
theorem c_mp_valueWords (l : Launch) (G : va_G) (cL cZ : ClassId) (Q : Nat → Nat) (A : Nat → Nat) (z : Hs) (sz : Nat) (p0 : Int32) (O0 : Int32) (hf : mp_valueWords z p0 = some O0) : Met l yX1_valueWords vX1_valueWords { frames := 2, cells := 0, slots := 0, locals := 43 } (gPc G vwCl (ct cL cZ) [.ref (Q 3), .int p0] (cw cL cZ Q A z) sz) (qRi G vwCl (ct cL cZ) (cw cL cZ Q A z) sz O0) 0 0 (va_A (cw cL cZ Q A z) sz) := by
  refine gMet (by decide) rfl (Nat.le_of_ble_eq_true rfl) ?_
  intro p e s m below meth c ls C hK hP hD hsz hl
  subst hsz
  obtain ⟨hx, hb, hr, hml, hown, hts, hlocks⟩ := id C
  have FX : CallFix p m c cX1_valueWords 2 s _ vX1_valueWords RX1 := ⟨hx, hb, hml, hown, hts⟩
  have hA : ∀ q9 : Nat, s.heap.size ≤ q9 → va_A (cw cL cZ Q A z) s.heap.size q9 := fun q9 h => Or.inr h
  have hS : va_S (va_A (cw cL cZ Q A z) s.heap.size) s.heap s.heap [] := va_S.rf
  have hl : lv_has ls 2 [(0, .ref (Q 3)), (1, .int p0)] := hl
  unfold mp_valueWords at hf
  refine lv_aload_n hx hb dX1_valueWords_0 rfl (lv_at hl 0 rfl) ?_
  refine lv_iload_n hx hb dX1_valueWords_1 rfl (lv_at hl 1 rfl) ?_
  refine lv_iconst (v := 1) hx hb dX1_valueWords_2 (by decide) ?_
  obtain ⟨r1, ho1, hf⟩ := of_b0 hf
  refine gcRi (gV FX [.int p0, .int 1] (c_mp_field l G cL cZ Q A z _ p0 1 _ ho1) (cwV 2 hts (gi_V wd_168 wd_169 wd_170 wd_166 wd_171) rfl rfl rfl hdV_X1_field ⟨Nat.le_of_ble_eq_true rfl, Nat.le_of_ble_eq_true rfl⟩) hK hP hD 3 rfl rfl rfl hl.1 (Nat.le_of_ble_eq_true rfl) dX1_valueWords_3 ⟨by show _ ≤ 0; omega, by show _ ≤ 0; omega⟩) hS hD hA (fun H locs hP hS => ?_)
  refine lv_iconst (v := 3) hx hb dX1_valueWords_6 (by decide) ?_
  refine lv_iushr hx hb dX1_valueWords_7 rfl ?_
  refine lv_bipush (v := 7) hx hb dX1_valueWords_8 (by decide) ?_
  refine lv_iand hx hb dX1_valueWords_10 ?_
  obtain rfl := Option.some.inj hf
  exact grRi hx hb hr hlocks hP hK hD hS dX1_valueWords_11 (by omega) (by omega)
set_option maxHeartbeats 4000000 in
set_option maxRecDepth 100000 in
theorem c_mp_nextCapacity (l : Launch) (G : va_G) (cL cZ : ClassId) (Q : Nat → Nat) (A : Nat → Nat) (z : Hs) (sz : Nat) (p0 : Int32) (O0 : Int32) (hf : mp_nextCapacity z p0 = some O0) : Met l yX1_nextCapacity vX1_nextCapacity { frames := 3, cells := 0, slots := 0, locals := 64 } (gPc G vwCl (ct cL cZ) [.ref (Q 3), .int p0] (cw cL cZ Q A z) sz) (qRi G vwCl (ct cL cZ) (cw cL cZ Q A z) sz O0) 0 0 (va_A (cw cL cZ Q A z) sz) := by
  refine gMet (by decide) rfl (Nat.le_of_ble_eq_true rfl) ?_
  intro p e s m below meth c ls C hK hP hD hsz hl
  subst hsz
  obtain ⟨hx, hb, hr, hml, hown, hts, hlocks⟩ := id C
  have FX : CallFix p m c cX1_nextCapacity 3 s _ vX1_nextCapacity RX1 := ⟨hx, hb, hml, hown, hts⟩
  have hA : ∀ q9 : Nat, s.heap.size ≤ q9 → va_A (cw cL cZ Q A z) s.heap.size q9 := fun q9 h => Or.inr h
  have hS : va_S (va_A (cw cL cZ Q A z) s.heap.size) s.heap s.heap [] := va_S.rf
  have hl : lv_has ls 3 [(0, .ref (Q 3)), (1, .int p0)] := hl
  unfold mp_nextCapacity at hf
  refine lv_aload_n hx hb dX1_nextCapacity_0 rfl (lv_at hl 0 rfl) ?_
  refine lv_iload_n hx hb dX1_nextCapacity_1 rfl (lv_at hl 1 rfl) ?_
  obtain ⟨r1, ho1, hf⟩ := of_b0 hf
  refine gcRi (gV FX [.int p0] (c_mp_capacity l G cL cZ Q A z _ p0 _ ho1) (cwV 1 hts (gi_V wd_232 wd_233 wd_234 wd_166 wd_235) rfl rfl rfl hdV_X1_capacity ⟨Nat.le_of_ble_eq_true rfl, Nat.le_of_ble_eq_true rfl⟩) hK hP hD 3 rfl rfl rfl hl.1 (Nat.le_of_ble_eq_true rfl) dX1_nextCapacity_2 ⟨by show _ ≤ 0; omega, by show _ ≤ 0; omega⟩) hS hD hA (fun H locs hP hS => ?_)
  refine lv_istore_n (lv' := [(2, .int r1), (0, .ref (Q 3)), (1, .int p0)]) hx hb dX1_nextCapacity_5 rfl hl (by decide) rfl (fun ls hl => ?_)
  refine lv_iconst (v := 4) hx hb dX1_nextCapacity_6 (by decide) ?_
  refine lv_aload_n hx hb dX1_nextCapacity_7 rfl (lv_at hl 1 rfl) ?_
  refine lv_iload_n hx hb dX1_nextCapacity_8 rfl (lv_at hl 2 rfl) ?_
  obtain ⟨r2, ho2, hf⟩ := of_b0 hf
  refine gcRi (gV FX [.int p0] (c_mp_entries l G cL cZ Q A z _ p0 _ ho2) (cwV 1 hts (gi_V wd_228 wd_229 wd_230 wd_166 wd_231) rfl rfl rfl hdV_X1_entries ⟨Nat.le_of_ble_eq_true rfl, Nat.le_of_ble_eq_true rfl⟩) hK hP hD 3 rfl rfl rfl hl.1 (Nat.le_of_ble_eq_true rfl) dX1_nextCapacity_9 ⟨by show _ ≤ 0; omega, by show _ ≤ 0; omega⟩) hS hD hA (fun H locs hP hS => ?_)
  refine lv_imul hx hb dX1_nextCapacity_12 ?_
  refine lv_iconst (v := 3) hx hb dX1_nextCapacity_13 (by decide) ?_
  refine lv_iload_n hx hb dX1_nextCapacity_14 rfl (lv_at hl 0 rfl) ?_
  refine lv_imul hx hb dX1_nextCapacity_15 ?_
  refine lv_icmp_lt (tgt := 25) hx hb dX1_nextCapacity_16 (by decide) (fun c3 => ?_) (fun c3 => ?_)
  · have hf := (if_pos c3).symm.trans hf
    refine lv_iload_n hx hb dX1_nextCapacity_25 rfl (lv_at hl 0 rfl) ?_
    obtain rfl := Option.some.inj hf
    exact grRi hx hb hr hlocks hP hK hD hS dX1_nextCapacity_26 (by omega) (by omega)
  · have hf := (if_neg c3).symm.trans hf
    refine lv_iconst (v := 2) hx hb dX1_nextCapacity_19 (by decide) ?_
    refine lv_iload_n hx hb dX1_nextCapacity_20 rfl (lv_at hl 0 rfl) ?_
    refine lv_imul hx hb dX1_nextCapacity_21 ?_
    refine lv_goto (tgt := 26) hx hb dX1_nextCapacity_22 (by decide) ?_
    obtain rfl := Option.some.inj hf
    exact grRi hx hb hr hlocks hP hK hD hS dX1_nextCapacity_26 (by omega) (by omega)
def At_mp_moveEntries_l33 (l : Launch) (G : va_G) (cL cZ : ClassId) (Q : Nat → Nat) (w : va_W) (p : Program) (e : Env) (s : State) (m : MethodId) (args : Array Value) (below : List Frame) (meth : Method) (c : Code) (O0 : Hs × Unit) (mcT msT : Nat) (F : Int32 → Int32 → Int32 → Int32 → Int32 → Int32 → Int32 → Hs → Option (Hs × Unit)) : Prop := ∀ (A : Nat → Nat) (z : Hs) (x1 : Int32) (x2 : Int32) (x3 : Int32) (x4 : Int32) (x5 : Int32) (x6 : Int32) (x7 : Int32) (H : Heap) (locs : List Loc) (ls : Array Slot) (cells slots : Nat), va_P G vwCl (cw cL cZ Q A z) H → va_D (va_A w s.heap.size) (cw cL cZ Q A z) → va_S (va_A w s.heap.size) s.heap H locs → lv_has ls 8 [(0, .ref (Q 3)), (1, .int x1), (2, .int x2), (3, .int x3), (4, .int x4), (5, .int x5), (6, .int x6), (7, .int x7)] → F x1 x2 x3 x4 x5 x6 x7 z = some O0 → cells + 0 ≤ mcT → slots + 0 ≤ msT → W p l e { frames := 4, cells := mcT, slots := msT, locals := 86 } s m args below meth c H locs cells slots (MQ below (qWv G vwCl (ct cL cZ) w s.heap.size (cw cL cZ Q) O0) args s mcT msT (va_A w s.heap.size)) (F0 m 33 ls [])
set_option maxHeartbeats 4000000 in
set_option maxRecDepth 100000 in
theorem L_mp_moveEntries_l33 (l : Launch) (G : va_G) (cL cZ : ClassId) (Q : Nat → Nat) (w : va_W) (p : Program) (e : Env) (s : State) (m : MethodId) (args : Array Value) (below : List Frame) (meth : Method) (c : Code) (O0 : Hs × Unit) (mcT msT : Nat) (C : MC p s m args meth c cX1_moveEntries 8 (none) RX1 vX1_moveEntries) (hK : va_K G vwCl (ct cL cZ) s) : ∀ n : Nat, At_mp_moveEntries_l33 l G cL cZ Q w p e s m args below meth c O0 mcT msT (mp_moveEntries_l33 n) := by
  obtain ⟨hx, hb, hr, hml, hown, hts, hlocks⟩ := id C
  have FX : CallFix p m c cX1_moveEntries 8 s args vX1_moveEntries RX1 := ⟨hx, hb, hml, hown, hts⟩
  have hA : ∀ q9 : Nat, s.heap.size ≤ q9 → va_A w s.heap.size q9 := fun q9 h => Or.inr h
  intro n
  induction n with
  | zero =>
    intro A z x1 x2 x3 x4 x5 x6 x7 H locs ls cells slots hP hD hS hl hf hcc hss
    exact nomatch (show none = some _ from hf)
  | succ n ih =>
    intro A z x1 x2 x3 x4 x5 x6 x7 H locs ls cells slots hP hD hS hl hf hcc hss
    rw [mp_moveEntries_l33] at hf
    refine lv_iload hx hb dX1_moveEntries_33 (lv_at hl 7 rfl) ?_
    refine lv_iload hx hb dX1_moveEntries_35 (lv_at hl 6 rfl) ?_
    refine lv_icmp_ge (tgt := 80) hx hb dX1_moveEntries_37 (by decide) (fun c5 => ?_) (fun c5 => ?_)
    · have hf := (if_pos c5).symm.trans hf
      refine lv_aload_n hx hb dX1_moveEntries_80 rfl (lv_at hl 0 rfl) ?_
      refine lv_iload_n hx hb dX1_moveEntries_81 rfl (lv_at hl 1 rfl) ?_
      refine lv_iload_n hx hb dX1_moveEntries_82 rfl (lv_at hl 2 rfl) ?_
      refine lv_iload_n hx hb dX1_moveEntries_83 rfl (lv_at hl 3 rfl) ?_
      obtain ⟨z6, o9, ho6, hf⟩ := of_bw hf
      refine gcWv (gV FX [.int x1, .int x2, .int x3] (c_mp_useTable l G cL cZ Q A z _ x1 x2 x3 _ ho6) (cwV 3 hts (gi_V wd_176 wd_177 wd_178 wd_166 wd_179) rfl rfl rfl hdV_X1_useTable ⟨Nat.le_of_ble_eq_true rfl, Nat.le_of_ble_eq_true rfl⟩) hK hP hD 3 rfl rfl rfl hl.1 (Nat.le_of_ble_eq_true rfl) dX1_moveEntries_84 ⟨by show _ ≤ mcT; omega, by show _ ≤ msT; omega⟩) hS hD hA (fun A H locs hP hD hS => ?_)
      refine lv_aload_n hx hb dX1_moveEntries_87 rfl (lv_at hl 0 rfl) ?_
      refine lv_iload_n hx hb dX1_moveEntries_88 rfl (lv_at hl 1 rfl) ?_
      refine lv_iconst (v := 4) hx hb dX1_moveEntries_89 (by decide) ?_
      refine lv_aload_n hx hb dX1_moveEntries_90 rfl (lv_at hl 0 rfl) ?_
      refine lv_iload_n hx hb dX1_moveEntries_91 rfl (lv_at hl 1 rfl) ?_
      obtain ⟨r7, ho7, hf⟩ := of_b0 hf
      refine gcRi (gV FX [.int x1] (c_mp_entries l G cL cZ Q A z6 _ x1 _ ho7) (cwV 1 hts (gi_V wd_228 wd_229 wd_230 wd_166 wd_231) rfl rfl rfl hdV_X1_entries ⟨Nat.le_of_ble_eq_true rfl, Nat.le_of_ble_eq_true rfl⟩) hK hP hD 3 rfl rfl rfl hl.1 (Nat.le_of_ble_eq_true rfl) dX1_moveEntries_92 ⟨by show _ ≤ mcT; omega, by show _ ≤ msT; omega⟩) hS hD hA (fun H locs hP hS => ?_)
      obtain ⟨z8, o9, ho8, hf⟩ := of_bw hf
      refine gcWv (gV FX [.int x1, .int 4, .int r7] (c_mp_setField l G cL cZ Q A z6 _ x1 4 r7 _ ho8) (cwV 3 hts (gi_V wd_163 wd_164 wd_165 wd_166 wd_167) rfl rfl rfl hdV_X1_setField ⟨Nat.le_of_ble_eq_true rfl, Nat.le_of_ble_eq_true rfl⟩) hK hP hD 3 rfl rfl rfl hl.1 (Nat.le_of_ble_eq_true rfl) dX1_moveEntries_95 ⟨by show _ ≤ mcT; omega, by show _ ≤ msT; omega⟩) hS hD hA (fun A H locs hP hD hS => ?_)
      obtain rfl := Option.some.inj hf
      exact grWv hx hb hr hlocks hP hK hD hS dX1_moveEntries_98 (by omega) (by omega)
    · have hf := (if_neg c5).symm.trans hf
      refine lv_aload_n hx hb dX1_moveEntries_40 rfl (lv_at hl 0 rfl) ?_
      refine lv_iload hx hb dX1_moveEntries_41 (lv_at hl 7 rfl) ?_
      obtain ⟨r9, ho9, hf⟩ := of_b0 hf
      refine gcRi (gV FX [.int x7] (c_mp_orderIn l G cL cZ Q A z _ x7 _ ho9) (cwV 1 hts (gi_V wd_224 wd_225 wd_226 wd_166 wd_227) rfl rfl rfl hdV_X1_orderIn ⟨Nat.le_of_ble_eq_true rfl, Nat.le_of_ble_eq_true rfl⟩) hK hP hD 3 rfl rfl rfl hl.1 (Nat.le_of_ble_eq_true rfl) dX1_moveEntries_43 ⟨by show _ ≤ mcT; omega, by show _ ≤ msT; omega⟩) hS hD hA (fun H locs hP hS => ?_)
      refine lv_iconst (v := (-1)) hx hb dX1_moveEntries_46 (by decide) ?_
      refine lv_icmp_eq (tgt := 70) hx hb dX1_moveEntries_47 (by decide) (fun c10 => ?_) (fun c10 => ?_)
      · have hf := (if_pos c10).symm.trans hf
        refine lv_iload hx hb dX1_moveEntries_70 (lv_at hl 7 rfl) ?_
        refine lv_iload hx hb dX1_moveEntries_72 (lv_at hl 5 rfl) ?_
        refine lv_iadd hx hb dX1_moveEntries_74 ?_
        refine lv_istore (lv' := [(7, .int (x7 + x5)), (0, .ref (Q 3)), (1, .int x1), (2, .int x2), (3, .int x3), (4, .int x4), (5, .int x5), (6, .int x6)]) hx hb dX1_moveEntries_75 hl (by decide) rfl (fun ls hl => ?_)
        refine lv_goto (tgt := 33) hx hb dX1_moveEntries_77 (by decide) ?_
        exact ih _ _ _ _ _ _ _ _ _ _ _ _ _ _ hP hD hS (lv_sub hl [1, 2, 3, 4, 5, 6, 7, 0] rfl) hf (by omega) (by omega)
      · have hf := (if_neg c10).symm.trans hf
        refine lv_aload_n hx hb dX1_moveEntries_50 rfl (lv_at hl 0 rfl) ?_
        refine va_get (D := G) (ci := 1) (v := .ref (Q 1)) (C := RX1) (T := TX1) (N := 2) hx hb hts (fun w h => .tail _ (wl_X1 w h)) hown hK hP 3 rfl rfl 0 (by decide) (hts _ (.tail _ wd_159)) (fun _ h9 => h9) rfl dX1_moveEntries_51 ?_
        refine lv_iload hx hb dX1_moveEntries_54 (lv_at hl 4 rfl) ?_
        refine lv_iload hx hb dX1_moveEntries_56 (lv_at hl 7 rfl) ?_
        refine lv_iload hx hb dX1_moveEntries_58 (lv_at hl 5 rfl) ?_
        obtain ⟨z11, o9, ho11, hf⟩ := of_bw hf
        refine gcWv (gV FX [.int x4, .int x7, .int x5] (c_hp_copyWords l G cL cZ Q A z _ x4 x7 x5 _ ho11) (cwV 3 hts (gi_V wd_236 wd_49 wd_50 wd_7 wd_51) rfl rfl rfl hdV_X0_copyWords ⟨Nat.le_of_ble_eq_true rfl, Nat.le_of_ble_eq_true rfl⟩) hK hP hD 1 rfl rfl rfl hl.1 (Nat.le_of_ble_eq_true rfl) dX1_moveEntries_60 ⟨by show _ ≤ mcT; omega, by show _ ≤ msT; omega⟩) hS hD hA (fun A H locs hP hD hS => ?_)
        refine lv_iload hx hb dX1_moveEntries_63 (lv_at hl 4 rfl) ?_
        refine lv_iload hx hb dX1_moveEntries_65 (lv_at hl 5 rfl) ?_
        refine lv_iadd hx hb dX1_moveEntries_67 ?_
        refine lv_istore (lv' := [(4, .int (x4 + x5)), (0, .ref (Q 3)), (1, .int x1), (2, .int x2), (3, .int x3), (5, .int x5), (6, .int x6), (7, .int x7)]) hx hb dX1_moveEntries_68 hl (by decide) rfl (fun ls hl => ?_)
        refine lv_iload hx hb dX1_moveEntries_70 (lv_at hl 7 rfl) ?_
        refine lv_iload hx hb dX1_moveEntries_72 (lv_at hl 5 rfl) ?_
        refine lv_iadd hx hb dX1_moveEntries_74 ?_
        refine lv_istore (lv' := [(7, .int (x7 + x5)), (4, .int (x4 + x5)), (0, .ref (Q 3)), (1, .int x1), (2, .int x2), (3, .int x3), (5, .int x5), (6, .int x6)]) hx hb dX1_moveEntries_75 hl (by decide) rfl (fun ls hl => ?_)
        refine lv_goto (tgt := 33) hx hb dX1_moveEntries_77 (by decide) ?_
        exact ih _ _ _ _ _ _ _ _ _ _ _ _ _ _ hP hD hS (lv_sub hl [2, 3, 4, 5, 1, 6, 7, 0] rfl) hf (by omega) (by omega)
set_option maxHeartbeats 4000000 in
set_option maxRecDepth 100000 in
theorem c_mp_moveEntries (l : Launch) (G : va_G) (cL cZ : ClassId) (Q : Nat → Nat) (A : Nat → Nat) (z : Hs) (sz : Nat) (p0 : Int32) (p1 : Int32) (p2 : Int32) (O0 : Hs × Unit) (hf : mp_moveEntries z p0 p1 p2 = some O0) : Met l yX1_moveEntries vX1_moveEntries { frames := 4, cells := 0, slots := 0, locals := 86 } (gPc G vwCl (ct cL cZ) [.ref (Q 3), .int p0, .int p1, .int p2] (cw cL cZ Q A z) sz) (qWv G vwCl (ct cL cZ) (cw cL cZ Q A z) sz (cw cL cZ Q) O0) 0 0 (va_A (cw cL cZ Q A z) sz) := by
  refine gMet (by decide) rfl (Nat.le_of_ble_eq_true rfl) ?_
  intro p e s m below meth c ls C hK hP hD hsz hl
  subst hsz
  obtain ⟨hx, hb, hr, hml, hown, hts, hlocks⟩ := id C
  have FX : CallFix p m c cX1_moveEntries 8 s _ vX1_moveEntries RX1 := ⟨hx, hb, hml, hown, hts⟩
  have hA : ∀ q9 : Nat, s.heap.size ≤ q9 → va_A (cw cL cZ Q A z) s.heap.size q9 := fun q9 h => Or.inr h
  have hS : va_S (va_A (cw cL cZ Q A z) s.heap.size) s.heap s.heap [] := va_S.rf
  have hl : lv_has ls 8 [(0, .ref (Q 3)), (1, .int p0), (2, .int p1), (3, .int p2)] := hl
  unfold mp_moveEntries at hf
  refine lv_aload_n hx hb dX1_moveEntries_0 rfl (lv_at hl 0 rfl) ?_
  refine va_get (D := G) (ci := 1) (v := .ref (Q 1)) (C := RX1) (T := TX1) (N := 2) hx hb hts (fun w h => .tail _ (wl_X1 w h)) hown hK hP 3 rfl rfl 0 (by decide) (hts _ (.tail _ wd_159)) (fun _ h9 => h9) rfl dX1_moveEntries_1 ?_
  refine lv_iload_n hx hb dX1_moveEntries_4 rfl (lv_at hl 2 rfl) ?_
  obtain ⟨r1, ho1, hf⟩ := of_b0 hf
  refine gcRi (gV FX [.int p1] (c_hp_first l G cL cZ Q A z _ p1 _ ho1) (cwV 1 hts (gi_V wd_161 wd_65 wd_66 wd_7 wd_67) rfl rfl rfl hdV_X0_first ⟨Nat.le_of_ble_eq_true rfl, Nat.le_of_ble_eq_true rfl⟩) hK hP hD 1 rfl rfl rfl hl.1 (Nat.le_of_ble_eq_true rfl) dX1_moveEntries_5 ⟨by show _ ≤ 0; omega, by show _ ≤ 0; omega⟩) hS hD hA (fun H locs hP hS => ?_)
  refine lv_istore (lv' := [(4, .int r1), (0, .ref (Q 3)), (1, .int p0), (2, .int p1), (3, .int p2)]) hx hb dX1_moveEntries_8 hl (by decide) rfl (fun ls hl => ?_)
  refine lv_aload_n hx hb dX1_moveEntries_10 rfl (lv_at hl 1 rfl) ?_
  refine lv_iload_n hx hb dX1_moveEntries_11 rfl (lv_at hl 2 rfl) ?_
  obtain ⟨r2, ho2, hf⟩ := of_b0 hf
  refine gcRi (gV FX [.int p0] (c_mp_slotWords l G cL cZ Q A z _ p0 _ ho2) (cwV 1 hts (gi_V wd_216 wd_217 wd_218 wd_166 wd_219) rfl rfl rfl hdV_X1_slotWords ⟨Nat.le_of_ble_eq_true rfl, Nat.le_of_ble_eq_true rfl⟩) hK hP hD 3 rfl rfl rfl hl.1 (Nat.le_of_ble_eq_true rfl) dX1_moveEntries_12 ⟨by show _ ≤ 0; omega, by show _ ≤ 0; omega⟩) hS hD hA (fun H locs hP hS => ?_)
  refine lv_istore (lv' := [(5, .int r2), (4, .int r1), (0, .ref (Q 3)), (1, .int p0), (2, .int p1), (3, .int p2)]) hx hb dX1_moveEntries_15 hl (by decide) rfl (fun ls hl => ?_)
  refine lv_aload_n hx hb dX1_moveEntries_17 rfl (lv_at hl 2 rfl) ?_
  refine lv_iload_n hx hb dX1_moveEntries_18 rfl (lv_at hl 3 rfl) ?_
  refine lv_iload hx hb dX1_moveEntries_19 (lv_at hl 0 rfl) ?_
  obtain ⟨r3, ho3, hf⟩ := of_b0 hf
  refine gcRi (gV FX [.int p0, .int r2] (c_mp_slotsEnd l G cL cZ Q A z _ p0 r2 _ ho3) (cwV 2 hts (gi_V wd_212 wd_213 wd_214 wd_166 wd_215) rfl rfl rfl hdV_X1_slotsEnd ⟨Nat.le_of_ble_eq_true rfl, Nat.le_of_ble_eq_true rfl⟩) hK hP hD 3 rfl rfl rfl hl.1 (Nat.le_of_ble_eq_true rfl) dX1_moveEntries_21 ⟨by show _ ≤ 0; omega, by show _ ≤ 0; omega⟩) hS hD hA (fun H locs hP hS => ?_)
  refine lv_istore (lv' := [(6, .int r3), (5, .int r2), (4, .int r1), (0, .ref (Q 3)), (1, .int p0), (2, .int p1), (3, .int p2)]) hx hb dX1_moveEntries_24 hl (by decide) rfl (fun ls hl => ?_)
  refine lv_aload_n hx hb dX1_moveEntries_26 rfl (lv_at hl 3 rfl) ?_
  refine lv_iload_n hx hb dX1_moveEntries_27 rfl (lv_at hl 4 rfl) ?_
  obtain ⟨r4, ho4, hf⟩ := of_b0 hf
  refine gcRi (gV FX [.int p0] (c_mp_slotsStart l G cL cZ Q A z _ p0 _ ho4) (cwV 1 hts (gi_V wd_199 wd_200 wd_201 wd_166 wd_202) rfl rfl rfl hdV_X1_slotsStart ⟨Nat.le_of_ble_eq_true rfl, Nat.le_of_ble_eq_true rfl⟩) hK hP hD 3 rfl rfl rfl hl.1 (Nat.le_of_ble_eq_true rfl) dX1_moveEntries_28 ⟨by show _ ≤ 0; omega, by show _ ≤ 0; omega⟩) hS hD hA (fun H locs hP hS => ?_)
  refine lv_istore (lv' := [(7, .int r4), (6, .int r3), (5, .int r2), (4, .int r1), (0, .ref (Q 3)), (1, .int p0), (2, .int p1), (3, .int p2)]) hx hb dX1_moveEntries_31 hl (by decide) rfl (fun ls hl => ?_)
  exact L_mp_moveEntries_l33 _ _ _ _ _ _ _ _ _ _ _ _ _ _ _ _ _ C hK FU _ _ _ _ _ _ _ _ _ _ _ _ _ _ hP hD hS (lv_sub hl [4, 5, 6, 7, 3, 2, 1, 0] rfl) hf (by omega) (by omega)
def At_mp_freezeTexts_l2 (l : Launch) (G : va_G) (cL cZ : ClassId) (Q : Nat → Nat) (w : va_W) (p : Program) (e : Env) (s : State) (m : MethodId) (args : Array Value) (below : List Frame) (meth : Method) (c : Code) (O0 : Hs × Unit) (mcT msT : Nat) (F : Int32 → Int32 → Int32 → Hs → Option (Hs × Unit)) : Prop := ∀ (A : Nat → Nat) (z : Hs) (x1 : Int32) (x2 : Int32) (x3 : Int32) (H : Heap) (locs : List Loc) (ls : Array Slot) (cells slots : Nat), va_P G vwCl (cw cL cZ Q A z) H → va_D (va_A w s.heap.size) (cw cL cZ Q A z) → va_S (va_A w s.heap.size) s.heap H locs → lv_has ls 5 [(0, .ref (Q 3)), (1, .int x1), (2, .int x2), (3, .int x3)] → F x1 x2 x3 z = some O0 → cells + 0 ≤ mcT → slots + 0 ≤ msT → W p l e { frames := 3, cells := mcT, slots := msT, locals := 65 } s m args below meth c H locs cells slots (MQ below (qWv G vwCl (ct cL cZ) w s.heap.size (cw cL cZ Q) O0) args s mcT msT (va_A w s.heap.size)) (F0 m 2 ls [])
set_option maxHeartbeats 4000000 in
set_option maxRecDepth 100000 in
theorem L_mp_freezeTexts_l2 (l : Launch) (G : va_G) (cL cZ : ClassId) (Q : Nat → Nat) (w : va_W) (p : Program) (e : Env) (s : State) (m : MethodId) (args : Array Value) (below : List Frame) (meth : Method) (c : Code) (O0 : Hs × Unit) (mcT msT : Nat) (C : MC p s m args meth c cX1_freezeTexts 5 (none) RX1 vX1_freezeTexts) (hK : va_K G vwCl (ct cL cZ) s) : ∀ n : Nat, At_mp_freezeTexts_l2 l G cL cZ Q w p e s m args below meth c O0 mcT msT (mp_freezeTexts_l2 n) := by
  obtain ⟨hx, hb, hr, hml, hown, hts, hlocks⟩ := id C
  have FX : CallFix p m c cX1_freezeTexts 5 s args vX1_freezeTexts RX1 := ⟨hx, hb, hml, hown, hts⟩
  have hA : ∀ q9 : Nat, s.heap.size ≤ q9 → va_A w s.heap.size q9 := fun q9 h => Or.inr h
  intro n
  induction n with
  | zero =>
    intro A z x1 x2 x3 H locs ls cells slots hP hD hS hl hf hcc hss
    exact nomatch (show none = some _ from hf)
  | succ n ih =>
    intro A z x1 x2 x3 H locs ls cells slots hP hD hS hl hf hcc hss
    rw [mp_freezeTexts_l2] at hf
    refine lv_iload_n hx hb dX1_freezeTexts_2 rfl (lv_at hl 3 rfl) ?_
    refine lv_aload_n hx hb dX1_freezeTexts_3 rfl (lv_at hl 0 rfl) ?_
    refine lv_iload_n hx hb dX1_freezeTexts_4 rfl (lv_at hl 1 rfl) ?_
    obtain ⟨r1, ho1, hf⟩ := of_b0 hf
    refine gcRi (gV FX [.int x1] (c_mp_keyWords l G cL cZ Q A z _ x1 _ ho1) (cwV 1 hts (gi_V wd_190 wd_191 wd_192 wd_166 wd_193) rfl rfl rfl hdV_X1_keyWords ⟨Nat.le_of_ble_eq_true rfl, Nat.le_of_ble_eq_true rfl⟩) hK hP hD 3 rfl rfl rfl hl.1 (Nat.le_of_ble_eq_true rfl) dX1_freezeTexts_5 ⟨by show _ ≤ mcT; omega, by show _ ≤ msT; omega⟩) hS hD hA (fun H locs hP hS => ?_)
    refine lv_icmp_ge (tgt := 52) hx hb dX1_freezeTexts_8 (by decide) (fun c2 => ?_) (fun c2 => ?_)
    · have hf := (if_pos c2).symm.trans hf
      obtain rfl := Option.some.inj hf
      exact grWv hx hb hr hlocks hP hK hD hS dX1_freezeTexts_52 (by omega) (by omega)
    · have hf := (if_neg c2).symm.trans hf
      refine lv_aload_n hx hb dX1_freezeTexts_11 rfl (lv_at hl 0 rfl) ?_
      refine va_get (D := G) (ci := 1) (v := .ref (Q 1)) (C := RX1) (T := TX1) (N := 2) hx hb hts (fun w h => .tail _ (wl_X1 w h)) hown hK hP 3 rfl rfl 0 (by decide) (hts _ (.tail _ wd_159)) (fun _ h9 => h9) rfl dX1_freezeTexts_12 ?_
      refine lv_iload_n hx hb dX1_freezeTexts_15 rfl (lv_at hl 2 rfl) ?_
      refine lv_iload_n hx hb dX1_freezeTexts_16 rfl (lv_at hl 3 rfl) ?_
      refine lv_iadd hx hb dX1_freezeTexts_17 ?_
      obtain ⟨r3, ho3, hf⟩ := of_b0 hf
      refine gcRi (gV FX [.int (x2 + x3)] (c_hp_handleAt l G cL cZ Q A z _ (x2 + x3) _ ho3) (cwV 1 hts (gi_V wd_198 wd_14 wd_15 wd_7 wd_16) rfl rfl rfl hdV_X0_handleAt ⟨Nat.le_of_ble_eq_true rfl, Nat.le_of_ble_eq_true rfl⟩) hK hP hD 1 rfl rfl rfl hl.1 (Nat.le_of_ble_eq_true rfl) dX1_freezeTexts_18 ⟨by show _ ≤ mcT; omega, by show _ ≤ msT; omega⟩) hS hD hA (fun H locs hP hS => ?_)
      refine lv_istore (lv' := [(4, .int r3), (0, .ref (Q 3)), (1, .int x1), (2, .int x2), (3, .int x3)]) hx hb dX1_freezeTexts_21 hl (by decide) rfl (fun ls hl => ?_)
      refine lv_aload_n hx hb dX1_freezeTexts_23 rfl (lv_at hl 1 rfl) ?_
      refine lv_iload_n hx hb dX1_freezeTexts_24 rfl (lv_at hl 2 rfl) ?_
      refine lv_iload_n hx hb dX1_freezeTexts_25 rfl (lv_at hl 4 rfl) ?_
      obtain ⟨r4, ho4, hf⟩ := of_b0 hf
      refine gcRi (gV FX [.int x1, .int x3] (c_mp_isTextual l G cL cZ Q A z _ x1 x3 _ ho4) (cwV 2 hts (gi_V wd_182 wd_183 wd_184 wd_166 wd_185) rfl rfl rfl hdV_X1_isTextual ⟨Nat.le_of_ble_eq_true rfl, Nat.le_of_ble_eq_true rfl⟩) hK hP hD 3 rfl rfl rfl hl.1 (Nat.le_of_ble_eq_true rfl) dX1_freezeTexts_26 ⟨by show _ ≤ mcT; omega, by show _ ≤ msT; omega⟩) hS hD hA (fun H locs hP hS => ?_)
      refine lv_if_eq (tgt := 46) hx hb dX1_freezeTexts_29 (by decide) (fun c5 => ?_) (fun c5 => ?_)
      · have hf := (if_pos c5).symm.trans hf
        refine lv_iinc (v := (x3 + 1)) (lv' := [(3, .int (x3 + 1)), (4, .int r3), (0, .ref (Q 3)), (1, .int x1), (2, .int x2)]) hx hb dX1_freezeTexts_46 hl (k := 4) rfl rfl (by decide) rfl (fun ls hl => ?_)
        refine lv_goto (tgt := 2) hx hb dX1_freezeTexts_49 (by decide) ?_
        exact ih _ _ _ _ _ _ _ _ _ _ hP hD hS (lv_sub hl [2, 3, 4, 0] rfl) hf (by omega) (by omega)
      · have hf := (if_neg c5).symm.trans hf
        refine lv_iload hx hb dX1_freezeTexts_32 (lv_at hl 0 rfl) ?_
        refine lv_if_eq (tgt := 46) hx hb dX1_freezeTexts_34 (by decide) (fun c6 => ?_) (fun c6 => ?_)
        · have hf := (if_pos c6).symm.trans hf
          refine lv_iinc (v := (x3 + 1)) (lv' := [(3, .int (x3 + 1)), (4, .int r3), (0, .ref (Q 3)), (1, .int x1), (2, .int x2)]) hx hb dX1_freezeTexts_46 hl (k := 4) rfl rfl (by decide) rfl (fun ls hl => ?_)
          refine lv_goto (tgt := 2) hx hb dX1_freezeTexts_49 (by decide) ?_
          exact ih _ _ _ _ _ _ _ _ _ _ hP hD hS (lv_sub hl [2, 3, 4, 0] rfl) hf (by omega) (by omega)
        · have hf := (if_neg c6).symm.trans hf
          refine lv_aload_n hx hb dX1_freezeTexts_37 rfl (lv_at hl 1 rfl) ?_
          refine va_get (D := G) (ci := 1) (v := .ref (Q 1)) (C := RX1) (T := TX1) (N := 2) hx hb hts (fun w h => .tail _ (wl_X1 w h)) hown hK hP 3 rfl rfl 0 (by decide) (hts _ (.tail _ wd_159)) (fun _ h9 => h9) rfl dX1_freezeTexts_38 ?_
          refine lv_iload hx hb dX1_freezeTexts_41 (lv_at hl 0 rfl) ?_
          obtain ⟨z7, o9, ho7, hf⟩ := of_bw hf
          refine gcWv (gV FX [.int r3] (c_hp_freeze l G cL cZ Q A z _ r3 _ ho7) (cwV 1 hts (gi_V wd_237 wd_238 wd_239 wd_7 wd_240) rfl rfl rfl hdV_X0_freeze ⟨Nat.le_of_ble_eq_true rfl, Nat.le_of_ble_eq_true rfl⟩) hK hP hD 1 rfl rfl rfl hl.1 (Nat.le_of_ble_eq_true rfl) dX1_freezeTexts_43 ⟨by show _ ≤ mcT; omega, by show _ ≤ msT; omega⟩) hS hD hA (fun A H locs hP hD hS => ?_)
          refine lv_iinc (v := (x3 + 1)) (lv' := [(3, .int (x3 + 1)), (4, .int r3), (0, .ref (Q 3)), (1, .int x1), (2, .int x2)]) hx hb dX1_freezeTexts_46 hl (k := 4) rfl rfl (by decide) rfl (fun ls hl => ?_)
          refine lv_goto (tgt := 2) hx hb dX1_freezeTexts_49 (by decide) ?_
          exact ih _ _ _ _ _ _ _ _ _ _ hP hD hS (lv_sub hl [2, 3, 4, 0] rfl) hf (by omega) (by omega)
set_option maxHeartbeats 4000000 in
set_option maxRecDepth 100000 in
theorem c_mp_freezeTexts (l : Launch) (G : va_G) (cL cZ : ClassId) (Q : Nat → Nat) (A : Nat → Nat) (z : Hs) (sz : Nat) (p0 : Int32) (p1 : Int32) (O0 : Hs × Unit) (hf : mp_freezeTexts z p0 p1 = some O0) : Met l yX1_freezeTexts vX1_freezeTexts { frames := 3, cells := 0, slots := 0, locals := 65 } (gPc G vwCl (ct cL cZ) [.ref (Q 3), .int p0, .int p1] (cw cL cZ Q A z) sz) (qWv G vwCl (ct cL cZ) (cw cL cZ Q A z) sz (cw cL cZ Q) O0) 0 0 (va_A (cw cL cZ Q A z) sz) := by
  refine gMet (by decide) rfl (Nat.le_of_ble_eq_true rfl) ?_
  intro p e s m below meth c ls C hK hP hD hsz hl
  subst hsz
  obtain ⟨hx, hb, hr, hml, hown, hts, hlocks⟩ := id C
  have FX : CallFix p m c cX1_freezeTexts 5 s _ vX1_freezeTexts RX1 := ⟨hx, hb, hml, hown, hts⟩
  have hA : ∀ q9 : Nat, s.heap.size ≤ q9 → va_A (cw cL cZ Q A z) s.heap.size q9 := fun q9 h => Or.inr h
  have hS : va_S (va_A (cw cL cZ Q A z) s.heap.size) s.heap s.heap [] := va_S.rf
  have hl : lv_has ls 5 [(0, .ref (Q 3)), (1, .int p0), (2, .int p1)] := hl
  unfold mp_freezeTexts at hf
  refine lv_iconst (v := 0) hx hb dX1_freezeTexts_0 (by decide) ?_
  refine lv_istore_n (lv' := [(3, .int 0), (0, .ref (Q 3)), (1, .int p0), (2, .int p1)]) hx hb dX1_freezeTexts_1 rfl hl (by decide) rfl (fun ls hl => ?_)
  exact L_mp_freezeTexts_l2 _ _ _ _ _ _ _ _ _ _ _ _ _ _ _ _ _ C hK FU _ _ _ _ _ _ _ _ _ _ hP hD hS (lv_sub hl [1, 2, 3, 0] rfl) hf (by omega) (by omega)
set_option maxHeartbeats 4000000 in
set_option maxRecDepth 100000 in
theorem c_mp_append (l : Launch) (G : va_G) (cL cZ : ClassId) (Q : Nat → Nat) (A : Nat → Nat) (z : Hs) (sz : Nat) (p0 : Int32) (p1 : Int32) (O0 : Hs × Int32) (hf : mp_append z p0 p1 = some O0) : Met l yX1_append vX1_append { frames := 4, cells := 0, slots := 0, locals := 89 } (gPc G vwCl (ct cL cZ) [.ref (Q 3), .int p0, .int p1] (cw cL cZ Q A z) sz) (qWi G vwCl (ct cL cZ) (cw cL cZ Q A z) sz (cw cL cZ Q) O0) 0 0 (va_A (cw cL cZ Q A z) sz) := by
  refine gMet (by decide) rfl (Nat.le_of_ble_eq_true rfl) ?_
  intro p e s m below meth c ls C hK hP hD hsz hl
  subst hsz
  obtain ⟨hx, hb, hr, hml, hown, hts, hlocks⟩ := id C
  have FX : CallFix p m c cX1_append 5 s _ vX1_append RX1 := ⟨hx, hb, hml, hown, hts⟩
  have hA : ∀ q9 : Nat, s.heap.size ≤ q9 → va_A (cw cL cZ Q A z) s.heap.size q9 := fun q9 h => Or.inr h
  have hS : va_S (va_A (cw cL cZ Q A z) s.heap.size) s.heap s.heap [] := va_S.rf
  have hl : lv_has ls 5 [(0, .ref (Q 3)), (1, .int p0), (2, .int p1)] := hl
  unfold mp_append at hf
  refine lv_aload_n hx hb dX1_append_0 rfl (lv_at hl 0 rfl) ?_
  refine lv_iload_n hx hb dX1_append_1 rfl (lv_at hl 1 rfl) ?_
  refine lv_aload_n hx hb dX1_append_2 rfl (lv_at hl 0 rfl) ?_
  refine lv_iload_n hx hb dX1_append_3 rfl (lv_at hl 1 rfl) ?_
  obtain ⟨r1, ho1, hf⟩ := of_b0 hf
  refine gcRi (gV FX [.int p0] (c_mp_slotWords l G cL cZ Q A z _ p0 _ ho1) (cwV 1 hts (gi_V wd_216 wd_217 wd_218 wd_166 wd_219) rfl rfl rfl hdV_X1_slotWords ⟨Nat.le_of_ble_eq_true rfl, Nat.le_of_ble_eq_true rfl⟩) hK hP hD 3 rfl rfl rfl hl.1 (Nat.le_of_ble_eq_true rfl) dX1_append_4 ⟨by show _ ≤ 0; omega, by show _ ≤ 0; omega⟩) hS hD hA (fun H locs hP hS => ?_)
  obtain ⟨r2, ho2, hf⟩ := of_b0 hf
  refine gcRi (gV FX [.int p0, .int r1] (c_mp_slotsEnd l G cL cZ Q A z _ p0 r1 _ ho2) (cwV 2 hts (gi_V wd_212 wd_213 wd_214 wd_166 wd_215) rfl rfl rfl hdV_X1_slotsEnd ⟨Nat.le_of_ble_eq_true rfl, Nat.le_of_ble_eq_true rfl⟩) hK hP hD 3 rfl rfl rfl hl.1 (Nat.le_of_ble_eq_true rfl) dX1_append_7 ⟨by show _ ≤ 0; omega, by show _ ≤ 0; omega⟩) hS hD hA (fun H locs hP hS => ?_)
  refine lv_istore_n (lv' := [(3, .int r2), (0, .ref (Q 3)), (1, .int p0), (2, .int p1)]) hx hb dX1_append_10 rfl hl (by decide) rfl (fun ls hl => ?_)
  refine lv_aload_n hx hb dX1_append_11 rfl (lv_at hl 1 rfl) ?_
  refine lv_iload_n hx hb dX1_append_12 rfl (lv_at hl 2 rfl) ?_
  refine lv_iconst (v := 3) hx hb dX1_append_13 (by decide) ?_
  obtain ⟨r3, ho3, hf⟩ := of_b0 hf
  refine gcRi (gV FX [.int p0, .int 3] (c_mp_field l G cL cZ Q A z _ p0 3 _ ho3) (cwV 2 hts (gi_V wd_168 wd_169 wd_170 wd_166 wd_171) rfl rfl rfl hdV_X1_field ⟨Nat.le_of_ble_eq_true rfl, Nat.le_of_ble_eq_true rfl⟩) hK hP hD 3 rfl rfl rfl hl.1 (Nat.le_of_ble_eq_true rfl) dX1_append_14 ⟨by show _ ≤ 0; omega, by show _ ≤ 0; omega⟩) hS hD hA (fun H locs hP hS => ?_)
  refine lv_istore (lv' := [(4, .int r3), (3, .int r2), (0, .ref (Q 3)), (1, .int p0), (2, .int p1)]) hx hb dX1_append_17 hl (by decide) rfl (fun ls hl => ?_)
  refine lv_aload_n hx hb dX1_append_19 rfl (lv_at hl 2 rfl) ?_
  refine va_get (D := G) (ci := 1) (v := .ref (Q 1)) (C := RX1) (T := TX1) (N := 2) hx hb hts (fun w h => .tail _ (wl_X1 w h)) hown hK hP 3 rfl rfl 0 (by decide) (hts _ (.tail _ wd_159)) (fun _ h9 => h9) rfl dX1_append_20 ?_
  refine lv_iload_n hx hb dX1_append_23 rfl (lv_at hl 1 rfl) ?_
  refine lv_iload hx hb dX1_append_24 (lv_at hl 0 rfl) ?_
  refine lv_iconst (v := 1) hx hb dX1_append_26 (by decide) ?_
  refine lv_iadd hx hb dX1_append_27 ?_
  refine lv_i2l hx hb dX1_append_28 rfl ?_
  obtain ⟨z4, o9, ho4, hf⟩ := of_bw hf
  refine gcWv (gV FX [.int r2, .long ((r3 + 1).toInt64)] (c_hp_setNumber l G cL cZ Q A z _ r2 ((r3 + 1).toInt64) _ ho4) (cwV 2 hts (gi_V wd_160 wd_127 wd_128 wd_7 wd_129) rfl rfl rfl hdV_X0_setNumber ⟨Nat.le_of_ble_eq_true rfl, Nat.le_of_ble_eq_true rfl⟩) hK hP hD 1 rfl rfl rfl hl.1 (Nat.le_of_ble_eq_true rfl) dX1_append_29 ⟨by show _ ≤ 0; omega, by show _ ≤ 0; omega⟩) hS hD hA (fun A H locs hP hD hS => ?_)
  refine lv_aload_n hx hb dX1_append_32 rfl (lv_at hl 2 rfl) ?_
  refine va_get (D := G) (ci := 1) (v := .ref (Q 1)) (C := RX1) (T := TX1) (N := 2) hx hb hts (fun w h => .tail _ (wl_X1 w h)) hown hK hP 3 rfl rfl 0 (by decide) (hts _ (.tail _ wd_159)) (fun _ h9 => h9) rfl dX1_append_33 ?_
  refine lv_iload_n hx hb dX1_append_36 rfl (lv_at hl 1 rfl) ?_
  refine lv_iconst (v := 3) hx hb dX1_append_37 (by decide) ?_
  refine lv_iadd hx hb dX1_append_38 ?_
  refine lv_iload_n hx hb dX1_append_39 rfl (lv_at hl 4 rfl) ?_
  refine lv_aload_n hx hb dX1_append_40 rfl (lv_at hl 2 rfl) ?_
  refine lv_iload_n hx hb dX1_append_41 rfl (lv_at hl 3 rfl) ?_
  obtain ⟨r5, ho5, hf⟩ := of_b0 hf
  refine gcRi (gV FX [.int p0] (c_mp_entryWords l G cL cZ Q A z4 _ p0 _ ho5) (cwV 1 hts (gi_V wd_194 wd_195 wd_196 wd_166 wd_197) rfl rfl rfl hdV_X1_entryWords ⟨Nat.le_of_ble_eq_true rfl, Nat.le_of_ble_eq_true rfl⟩) hK hP hD 3 rfl rfl rfl hl.1 (Nat.le_of_ble_eq_true rfl) dX1_append_42 ⟨by show _ ≤ 0; omega, by show _ ≤ 0; omega⟩) hS hD hA (fun H locs hP hS => ?_)
  obtain ⟨z6, o9, ho6, hf⟩ := of_bw hf
  refine gcWv (gV FX [.int (r2 + 3), .int p1, .int r5] (c_hp_copyWords l G cL cZ Q A z4 _ (r2 + 3) p1 r5 _ ho6) (cwV 3 hts (gi_V wd_236 wd_49 wd_50 wd_7 wd_51) rfl rfl rfl hdV_X0_copyWords ⟨Nat.le_of_ble_eq_true rfl, Nat.le_of_ble_eq_true rfl⟩) hK hP hD 1 rfl rfl rfl hl.1 (Nat.le_of_ble_eq_true rfl) dX1_append_45 ⟨by show _ ≤ 0; omega, by show _ ≤ 0; omega⟩) hS hD hA (fun A H locs hP hD hS => ?_)
  refine lv_aload_n hx hb dX1_append_48 rfl (lv_at hl 2 rfl) ?_
  refine lv_iload_n hx hb dX1_append_49 rfl (lv_at hl 3 rfl) ?_
  refine lv_iload_n hx hb dX1_append_50 rfl (lv_at hl 1 rfl) ?_
  refine lv_iconst (v := 3) hx hb dX1_append_51 (by decide) ?_
  refine lv_iadd hx hb dX1_append_52 ?_
  obtain ⟨z7, o9, ho7, hf⟩ := of_bw hf
  refine gcWv (gV FX [.int p0, .int (r2 + 3)] (c_mp_freezeTexts l G cL cZ Q A z6 _ p0 (r2 + 3) _ ho7) (cwV 2 hts (gi_V wd_241 wd_242 wd_243 wd_166 wd_244) rfl rfl rfl hdV_X1_freezeTexts ⟨Nat.le_of_ble_eq_true rfl, Nat.le_of_ble_eq_true rfl⟩) hK hP hD 3 rfl rfl rfl hl.1 (Nat.le_of_ble_eq_true rfl) dX1_append_53 ⟨by show _ ≤ 0; omega, by show _ ≤ 0; omega⟩) hS hD hA (fun A H locs hP hD hS => ?_)
  refine lv_aload_n hx hb dX1_append_56 rfl (lv_at hl 2 rfl) ?_
  refine lv_iload_n hx hb dX1_append_57 rfl (lv_at hl 3 rfl) ?_
  refine lv_iconst (v := 4) hx hb dX1_append_58 (by decide) ?_
  refine lv_aload_n hx hb dX1_append_59 rfl (lv_at hl 2 rfl) ?_
  refine lv_iload_n hx hb dX1_append_60 rfl (lv_at hl 3 rfl) ?_
  refine lv_iconst (v := 4) hx hb dX1_append_61 (by decide) ?_
  obtain ⟨r8, ho8, hf⟩ := of_b0 hf
  refine gcRi (gV FX [.int p0, .int 4] (c_mp_field l G cL cZ Q A z7 _ p0 4 _ ho8) (cwV 2 hts (gi_V wd_168 wd_169 wd_170 wd_166 wd_171) rfl rfl rfl hdV_X1_field ⟨Nat.le_of_ble_eq_true rfl, Nat.le_of_ble_eq_true rfl⟩) hK hP hD 3 rfl rfl rfl hl.1 (Nat.le_of_ble_eq_true rfl) dX1_append_62 ⟨by show _ ≤ 0; omega, by show _ ≤ 0; omega⟩) hS hD hA (fun H locs hP hS => ?_)
  refine lv_iconst (v := 1) hx hb dX1_append_65 (by decide) ?_
  refine lv_iadd hx hb dX1_append_66 ?_
  obtain ⟨z9, o9, ho9, hf⟩ := of_bw hf
  refine gcWv (gV FX [.int p0, .int 4, .int (r8 + 1)] (c_mp_setField l G cL cZ Q A z7 _ p0 4 (r8 + 1) _ ho9) (cwV 3 hts (gi_V wd_163 wd_164 wd_165 wd_166 wd_167) rfl rfl rfl hdV_X1_setField ⟨Nat.le_of_ble_eq_true rfl, Nat.le_of_ble_eq_true rfl⟩) hK hP hD 3 rfl rfl rfl hl.1 (Nat.le_of_ble_eq_true rfl) dX1_append_67 ⟨by show _ ≤ 0; omega, by show _ ≤ 0; omega⟩) hS hD hA (fun A H locs hP hD hS => ?_)
  refine lv_aload_n hx hb dX1_append_70 rfl (lv_at hl 2 rfl) ?_
  refine lv_iload_n hx hb dX1_append_71 rfl (lv_at hl 3 rfl) ?_
  refine lv_iconst (v := 3) hx hb dX1_append_72 (by decide) ?_
  refine lv_iload hx hb dX1_append_73 (lv_at hl 0 rfl) ?_
  refine lv_iconst (v := 1) hx hb dX1_append_75 (by decide) ?_
  refine lv_iadd hx hb dX1_append_76 ?_
  obtain ⟨z10, o9, ho10, hf⟩ := of_bw hf
  refine gcWv (gV FX [.int p0, .int 3, .int (r3 + 1)] (c_mp_setField l G cL cZ Q A z9 _ p0 3 (r3 + 1) _ ho10) (cwV 3 hts (gi_V wd_163 wd_164 wd_165 wd_166 wd_167) rfl rfl rfl hdV_X1_setField ⟨Nat.le_of_ble_eq_true rfl, Nat.le_of_ble_eq_true rfl⟩) hK hP hD 3 rfl rfl rfl hl.1 (Nat.le_of_ble_eq_true rfl) dX1_append_77 ⟨by show _ ≤ 0; omega, by show _ ≤ 0; omega⟩) hS hD hA (fun A H locs hP hD hS => ?_)
  refine lv_aload_n hx hb dX1_append_80 rfl (lv_at hl 2 rfl) ?_
  refine lv_iload_n hx hb dX1_append_81 rfl (lv_at hl 3 rfl) ?_
  refine lv_iconst (v := 2) hx hb dX1_append_82 (by decide) ?_
  refine lv_aload_n hx hb dX1_append_83 rfl (lv_at hl 2 rfl) ?_
  refine lv_iload_n hx hb dX1_append_84 rfl (lv_at hl 3 rfl) ?_
  obtain ⟨r11, ho11, hf⟩ := of_b0 hf
  refine gcRi (gV FX [.int p0] (c_mp_entries l G cL cZ Q A z10 _ p0 _ ho11) (cwV 1 hts (gi_V wd_228 wd_229 wd_230 wd_166 wd_231) rfl rfl rfl hdV_X1_entries ⟨Nat.le_of_ble_eq_true rfl, Nat.le_of_ble_eq_true rfl⟩) hK hP hD 3 rfl rfl rfl hl.1 (Nat.le_of_ble_eq_true rfl) dX1_append_85 ⟨by show _ ≤ 0; omega, by show _ ≤ 0; omega⟩) hS hD hA (fun H locs hP hS => ?_)
  refine lv_iconst (v := 1) hx hb dX1_append_88 (by decide) ?_
  refine lv_iadd hx hb dX1_append_89 ?_
  obtain ⟨z12, o9, ho12, hf⟩ := of_bw hf
  refine gcWv (gV FX [.int p0, .int 2, .int (r11 + 1)] (c_mp_setField l G cL cZ Q A z10 _ p0 2 (r11 + 1) _ ho12) (cwV 3 hts (gi_V wd_163 wd_164 wd_165 wd_166 wd_167) rfl rfl rfl hdV_X1_setField ⟨Nat.le_of_ble_eq_true rfl, Nat.le_of_ble_eq_true rfl⟩) hK hP hD 3 rfl rfl rfl hl.1 (Nat.le_of_ble_eq_true rfl) dX1_append_90 ⟨by show _ ≤ 0; omega, by show _ ≤ 0; omega⟩) hS hD hA (fun A H locs hP hD hS => ?_)
  refine lv_iload hx hb dX1_append_93 (lv_at hl 0 rfl) ?_
  obtain rfl := Option.some.inj hf
  exact grWi hx hb hr hlocks hP hK hD hS dX1_append_95 (by omega) (by omega)
set_option maxHeartbeats 4000000 in
set_option maxRecDepth 100000 in
theorem c_mp_enter (l : Launch) (hl0 : l.stackTraces = false) (G : va_G) (cL cZ : ClassId) (Q : Nat → Nat) (A : Nat → Nat) (z : Hs) (sz : Nat) (p0 : Int32) (p1 : Int32) (p2 : Int32) (c0 : Nat) (O0 : Hs × (String ⊕ Int32)) (hf : mp_enter z p0 p1 p2 = some (c0, O0)) : vx_Met l yX1_enter vX1_enter { frames := 10, cells := 6, slots := 6 + c0, locals := 243 } (gPx txC G vwCl (ct cL cZ) [.ref (Q 3), .int p0, .int p1, .int p2] (cw cL cZ Q A z) sz) (qXi G vwCl (ct cL cZ) (cw cL cZ Q A z) sz (cw cL cZ Q) O0) (xX G vwCl (ct cL cZ) (cw cL cZ Q A z) sz (cw cL cZ Q) O0) 6 (6 + c0) (va_A (cw cL cZ Q A z) sz) := by
  refine gMetx (by decide) rfl (Nat.le_of_ble_eq_true rfl) ?_
  intro p e s m below meth c ls C hE hK hP hD hT hsz hl
  subst hsz
  obtain ⟨hx, hb, hr, hml, hown, hts, hlocks⟩ := id C
  have FX : CallFix p m c cX1_enter 6 s _ vX1_enter RX1 := ⟨hx, hb, hml, hown, hts⟩
  have hA : ∀ q9 : Nat, s.heap.size ≤ q9 → va_A (cw cL cZ Q A z) s.heap.size q9 := fun q9 h => Or.inr h
  have hS : va_S (va_A (cw cL cZ Q A z) s.heap.size) s.heap s.heap [] := va_S.rf
  have hl : lv_has ls 6 [(0, .ref (Q 3)), (1, .int p0), (2, .int p1), (3, .int p2)] := hl
  unfold mp_enter at hf
  refine lv_aload_n hx hb dX1_enter_0 rfl (lv_at hl 0 rfl) ?_
  refine lv_iload_n hx hb dX1_enter_1 rfl (lv_at hl 1 rfl) ?_
  refine lv_aload_n hx hb dX1_enter_2 rfl (lv_at hl 0 rfl) ?_
  refine va_get (D := G) (ci := 1) (v := .ref (Q 1)) (C := RX1) (T := TX1) (N := 2) hx hb hts (fun w h => .tail _ (wl_X1 w h)) hown hK hP 3 rfl rfl 0 (by decide) (hts _ (.tail _ wd_159)) (fun _ h9 => h9) rfl dX1_enter_3 ?_
  refine lv_iload_n hx hb dX1_enter_6 rfl (lv_at hl 2 rfl) ?_
  obtain ⟨r1, ho1, hf⟩ := of_b0 hf
  refine gcRi (gV FX [.int p1] (c_hp_first l G cL cZ Q A z _ p1 _ ho1) (cwV 1 hts (gi_V wd_161 wd_65 wd_66 wd_7 wd_67) rfl rfl rfl hdV_X0_first ⟨Nat.le_of_ble_eq_true rfl, Nat.le_of_ble_eq_true rfl⟩) hK hP hD 1 rfl rfl rfl hl.1 (Nat.le_of_ble_eq_true rfl) dX1_enter_7 ⟨by show _ ≤ 6; omega, by show _ ≤ 6 + c0; omega⟩) hS hD hA (fun H locs hP hS => ?_)
  refine lv_iload_n hx hb dX1_enter_10 rfl (lv_at hl 3 rfl) ?_
  refine lv_iadd hx hb dX1_enter_11 ?_
  obtain ⟨r2, ho2, hf⟩ := of_b0 hf
  refine gcRi (gV FX [.int p0, .int (r1 + p2)] (c_mp_slotOfKey l G cL cZ Q A z _ p0 (r1 + p2) _ ho2) (cwV 2 hts (gi_V wd_262 wd_263 wd_264 wd_166 wd_265) rfl rfl rfl hdV_X1_slotOfKey ⟨Nat.le_of_ble_eq_true rfl, Nat.le_of_ble_eq_true rfl⟩) hK hP hD 3 rfl rfl rfl hl.1 (Nat.le_of_ble_eq_true rfl) dX1_enter_12 ⟨by show _ ≤ 6; omega, by show _ ≤ 6 + c0; omega⟩) hS hD hA (fun H locs hP hS => ?_)
  refine lv_istore (lv' := [(4, .int r2), (0, .ref (Q 3)), (1, .int p0), (2, .int p1), (3, .int p2)]) hx hb dX1_enter_15 hl (by decide) rfl (fun ls hl => ?_)
  refine lv_iload hx hb dX1_enter_17 (lv_at hl 0 rfl) ?_
  refine lv_iconst (v := (-1)) hx hb dX1_enter_19 (by decide) ?_
  refine lv_icmp_eq (tgt := 69) hx hb dX1_enter_20 (by decide) (fun c3 => ?_) (fun c3 => ?_)
  · have hf := (if_pos c3).symm.trans hf
    refine lv_aload_n hx hb dX1_enter_69 rfl (lv_at hl 1 rfl) ?_
    refine lv_iload_n hx hb dX1_enter_70 rfl (lv_at hl 2 rfl) ?_
    refine lv_iconst (v := 4) hx hb dX1_enter_71 (by decide) ?_
    obtain ⟨r4, ho4, hf⟩ := of_b0 hf
    refine gcRi (gV FX [.int p0, .int 4] (c_mp_field l G cL cZ Q A z _ p0 4 _ ho4) (cwV 2 hts (gi_V wd_168 wd_169 wd_170 wd_166 wd_171) rfl rfl rfl hdV_X1_field ⟨Nat.le_of_ble_eq_true rfl, Nat.le_of_ble_eq_true rfl⟩) hK hP hD 3 rfl rfl rfl hl.1 (Nat.le_of_ble_eq_true rfl) dX1_enter_72 ⟨by show _ ≤ 6; omega, by show _ ≤ 6 + c0; omega⟩) hS hD hA (fun H locs hP hS => ?_)
    refine lv_aload_n hx hb dX1_enter_75 rfl (lv_at hl 1 rfl) ?_
    refine lv_iload_n hx hb dX1_enter_76 rfl (lv_at hl 2 rfl) ?_
    obtain ⟨r5, ho5, hf⟩ := of_b0 hf
    refine gcRi (gV FX [.int p0] (c_mp_capacity l G cL cZ Q A z _ p0 _ ho5) (cwV 1 hts (gi_V wd_232 wd_233 wd_234 wd_166 wd_235) rfl rfl rfl hdV_X1_capacity ⟨Nat.le_of_ble_eq_true rfl, Nat.le_of_ble_eq_true rfl⟩) hK hP hD 3 rfl rfl rfl hl.1 (Nat.le_of_ble_eq_true rfl) dX1_enter_77 ⟨by show _ ≤ 6; omega, by show _ ≤ 6 + c0; omega⟩) hS hD hA (fun H locs hP hS => ?_)
    refine lv_icmp_lt (tgt := 113) hx hb dX1_enter_80 (by decide) (fun c6 => ?_) (fun c6 => ?_)
    · have hf := (if_pos c6).symm.trans hf
      refine lv_aload_n hx hb dX1_enter_113 rfl (lv_at hl 1 rfl) ?_
      refine lv_iload_n hx hb dX1_enter_114 rfl (lv_at hl 2 rfl) ?_
      refine lv_aload_n hx hb dX1_enter_115 rfl (lv_at hl 1 rfl) ?_
      refine va_get (D := G) (ci := 1) (v := .ref (Q 1)) (C := RX1) (T := TX1) (N := 2) hx hb hts (fun w h => .tail _ (wl_X1 w h)) hown hK hP 3 rfl rfl 0 (by decide) (hts _ (.tail _ wd_159)) (fun _ h9 => h9) rfl dX1_enter_116 ?_
      refine lv_iload_n hx hb dX1_enter_119 rfl (lv_at hl 3 rfl) ?_
      obtain ⟨r7, ho7, hf⟩ := of_b0 hf
      refine gcRi (gV FX [.int p1] (c_hp_first l G cL cZ Q A z _ p1 _ ho7) (cwV 1 hts (gi_V wd_161 wd_65 wd_66 wd_7 wd_67) rfl rfl rfl hdV_X0_first ⟨Nat.le_of_ble_eq_true rfl, Nat.le_of_ble_eq_true rfl⟩) hK hP hD 1 rfl rfl rfl hl.1 (Nat.le_of_ble_eq_true rfl) dX1_enter_120 ⟨by show _ ≤ 6; omega, by show _ ≤ 6 + c0; omega⟩) hS hD hA (fun H locs hP hS => ?_)
      refine lv_iload_n hx hb dX1_enter_123 rfl (lv_at hl 4 rfl) ?_
      refine lv_iadd hx hb dX1_enter_124 ?_
      obtain ⟨z8, r8, ho8, hf⟩ := of_bw hf
      refine gcWi (gV FX [.int p0, .int (r7 + p2)] (c_mp_append l G cL cZ Q A z _ p0 (r7 + p2) _ ho8) (cwV 2 hts (gi_V wd_245 wd_246 wd_247 wd_166 wd_248) rfl rfl rfl hdV_X1_append ⟨Nat.le_of_ble_eq_true rfl, Nat.le_of_ble_eq_true rfl⟩) hK hP hD 3 rfl rfl rfl hl.1 (Nat.le_of_ble_eq_true rfl) dX1_enter_125 ⟨by show _ ≤ 6; omega, by show _ ≤ 6 + c0; omega⟩) hS hD hA (fun A H locs hP hD hS => ?_)
      obtain ⟨hc0, hj0⟩ := of_some2 hf
      subst hj0
      exact grXi hx hb hr hlocks hP hK hD hS dX1_enter_128 (by omega) (by omega)
    · have hf := (if_neg c6).symm.trans hf
      refine lv_aload_n hx hb dX1_enter_83 rfl (lv_at hl 1 rfl) ?_
      refine lv_iload_n hx hb dX1_enter_84 rfl (lv_at hl 2 rfl) ?_
      obtain ⟨r9, ho9, hf⟩ := of_b0 hf
      refine gcRi (gV FX [.int p0] (c_mp_nextCapacity l G cL cZ Q A z _ p0 _ ho9) (cwV 1 hts (gi_V wd_254 wd_255 wd_256 wd_166 wd_257) rfl rfl rfl hdV_X1_nextCapacity ⟨Nat.le_of_ble_eq_true rfl, Nat.le_of_ble_eq_true rfl⟩) hK hP hD 3 rfl rfl rfl hl.1 (Nat.le_of_ble_eq_true rfl) dX1_enter_85 ⟨by show _ ≤ 6; omega, by show _ ≤ 6 + c0; omega⟩) hS hD hA (fun H locs hP hS => ?_)
      refine lv_istore (lv' := [(5, .int r9), (4, .int r2), (0, .ref (Q 3)), (1, .int p0), (2, .int p1), (3, .int p2)]) hx hb dX1_enter_88 hl (by decide) rfl (fun ls hl => ?_)
      refine lv_aload_n hx hb dX1_enter_90 rfl (lv_at hl 2 rfl) ?_
      refine lv_iload_n hx hb dX1_enter_91 rfl (lv_at hl 3 rfl) ?_
      refine lv_aload_n hx hb dX1_enter_92 rfl (lv_at hl 2 rfl) ?_
      refine va_get (D := G) (ci := 1) (v := .ref (Q 1)) (C := RX1) (T := TX1) (N := 2) hx hb hts (fun w h => .tail _ (wl_X1 w h)) hown hK hP 3 rfl rfl 0 (by decide) (hts _ (.tail _ wd_159)) (fun _ h9 => h9) rfl dX1_enter_93 ?_
      refine lv_iconst (v := 5) hx hb dX1_enter_96 (by decide) ?_
      refine lv_iload hx hb dX1_enter_97 (lv_at hl 0 rfl) ?_
      refine lv_aload_n hx hb dX1_enter_99 rfl (lv_at hl 2 rfl) ?_
      refine lv_iload_n hx hb dX1_enter_100 rfl (lv_at hl 3 rfl) ?_
      obtain ⟨r10, ho10, hf⟩ := of_b0 hf
      refine gcRi (gV FX [.int p0] (c_mp_slotWords l G cL cZ Q A z _ p0 _ ho10) (cwV 1 hts (gi_V wd_216 wd_217 wd_218 wd_166 wd_219) rfl rfl rfl hdV_X1_slotWords ⟨Nat.le_of_ble_eq_true rfl, Nat.le_of_ble_eq_true rfl⟩) hK hP hD 3 rfl rfl rfl hl.1 (Nat.le_of_ble_eq_true rfl) dX1_enter_101 ⟨by show _ ≤ 6; omega, by show _ ≤ 6 + c0; omega⟩) hS hD hA (fun H locs hP hS => ?_)
      refine lv_imul hx hb dX1_enter_104 ?_
      rcases of_bcwt hf with ⟨k11, z11, e9, ho11, hj⟩ | ⟨k11, z11, r11, d11, ho11, hf, ek11⟩
      · obtain ⟨hc0, hj⟩ := of_pair hj
        subst hj
        exact goutXX (gVx FX [.int 5, .int (r9 * r10)] (c_hp_claim l hl0 G cL cZ Q A z _ 5 (r9 * r10) k11 _ ho11) (cwV 2 hts (gi_V wd_253 wd_149 wd_150 wd_7 wd_151) rfl rfl rfl hdV_X0_claim ⟨Nat.le_of_ble_eq_true rfl, Nat.le_of_ble_eq_true rfl⟩) hK hP hD hT hS hA 1 rfl rfl rfl hl.1 (Nat.le_of_ble_eq_true rfl) dX1_enter_105 ⟨by show _ ≤ 6; omega, by show _ ≤ 6 + c0; omega⟩) (noXi) hS hD hK hE hlocks (by omega) (by omega)
      refine gcXi (gVx FX [.int 5, .int (r9 * r10)] (c_hp_claim l hl0 G cL cZ Q A z _ 5 (r9 * r10) k11 _ ho11) (cwV 2 hts (gi_V wd_253 wd_149 wd_150 wd_7 wd_151) rfl rfl rfl hdV_X0_claim ⟨Nat.le_of_ble_eq_true rfl, Nat.le_of_ble_eq_true rfl⟩) hK hP hD hT hS hA 1 rfl rfl rfl hl.1 (Nat.le_of_ble_eq_true rfl) dX1_enter_105 ⟨by show _ ≤ 6; omega, by show _ ≤ 6 + c0; omega⟩) hS hD hA (fun A H locs hP hD hS => ?_)
      refine lv_iload hx hb dX1_enter_108 (lv_at hl 0 rfl) ?_
      obtain ⟨z12, o9, ho12, hf⟩ := of_bw hf
      refine gcWv (gV FX [.int p0, .int r11, .int r9] (c_mp_moveEntries l G cL cZ Q A z11 _ p0 r11 r9 _ ho12) (cwV 3 hts (gi_V wd_249 wd_250 wd_251 wd_166 wd_252) rfl rfl rfl hdV_X1_moveEntries ⟨Nat.le_of_ble_eq_true rfl, Nat.le_of_ble_eq_true rfl⟩) hK hP hD 3 rfl rfl rfl hl.1 (Nat.le_of_ble_eq_true rfl) dX1_enter_110 ⟨by show _ ≤ 6; omega, by show _ ≤ 6 + c0; omega⟩) hS hD hA (fun A H locs hP hD hS => ?_)
      refine lv_aload_n hx hb dX1_enter_113 rfl (lv_at hl 2 rfl) ?_
      refine lv_iload_n hx hb dX1_enter_114 rfl (lv_at hl 3 rfl) ?_
      refine lv_aload_n hx hb dX1_enter_115 rfl (lv_at hl 2 rfl) ?_
      refine va_get (D := G) (ci := 1) (v := .ref (Q 1)) (C := RX1) (T := TX1) (N := 2) hx hb hts (fun w h => .tail _ (wl_X1 w h)) hown hK hP 3 rfl rfl 0 (by decide) (hts _ (.tail _ wd_159)) (fun _ h9 => h9) rfl dX1_enter_116 ?_
      refine lv_iload_n hx hb dX1_enter_119 rfl (lv_at hl 4 rfl) ?_
      obtain ⟨r13, ho13, hf⟩ := of_b0 hf
      refine gcRi (gV FX [.int p1] (c_hp_first l G cL cZ Q A z12 _ p1 _ ho13) (cwV 1 hts (gi_V wd_161 wd_65 wd_66 wd_7 wd_67) rfl rfl rfl hdV_X0_first ⟨Nat.le_of_ble_eq_true rfl, Nat.le_of_ble_eq_true rfl⟩) hK hP hD 1 rfl rfl rfl hl.1 (Nat.le_of_ble_eq_true rfl) dX1_enter_120 ⟨by show _ ≤ 6; omega, by show _ ≤ 6 + c0; omega⟩) hS hD hA (fun H locs hP hS => ?_)
      refine lv_iload_n hx hb dX1_enter_123 rfl (lv_at hl 5 rfl) ?_
      refine lv_iadd hx hb dX1_enter_124 ?_
      obtain ⟨z14, r14, ho14, hf⟩ := of_bw hf
      refine gcWi (gV FX [.int p0, .int (r13 + p2)] (c_mp_append l G cL cZ Q A z12 _ p0 (r13 + p2) _ ho14) (cwV 2 hts (gi_V wd_245 wd_246 wd_247 wd_166 wd_248) rfl rfl rfl hdV_X1_append ⟨Nat.le_of_ble_eq_true rfl, Nat.le_of_ble_eq_true rfl⟩) hK hP hD 3 rfl rfl rfl hl.1 (Nat.le_of_ble_eq_true rfl) dX1_enter_125 ⟨by show _ ≤ 6; omega, by show _ ≤ 6 + c0; omega⟩) hS hD hA (fun A H locs hP hD hS => ?_)
      obtain ⟨hc0, hj0⟩ := of_some2 hf
      subst hj0
      exact grXi hx hb hr hlocks hP hK hD hS dX1_enter_128 (by omega) (by omega)
  · have hf := (if_neg c3).symm.trans hf
    refine lv_aload_n hx hb dX1_enter_23 rfl (lv_at hl 1 rfl) ?_
    refine lv_iload_n hx hb dX1_enter_24 rfl (lv_at hl 2 rfl) ?_
    obtain ⟨r15, ho15, hf⟩ := of_b0 hf
    refine gcRi (gV FX [.int p0] (c_mp_keyWords l G cL cZ Q A z _ p0 _ ho15) (cwV 1 hts (gi_V wd_190 wd_191 wd_192 wd_166 wd_193) rfl rfl rfl hdV_X1_keyWords ⟨Nat.le_of_ble_eq_true rfl, Nat.le_of_ble_eq_true rfl⟩) hK hP hD 3 rfl rfl rfl hl.1 (Nat.le_of_ble_eq_true rfl) dX1_enter_25 ⟨by show _ ≤ 6; omega, by show _ ≤ 6 + c0; omega⟩) hS hD hA (fun H locs hP hS => ?_)
    refine lv_istore (lv' := [(5, .int r15), (4, .int r2), (0, .ref (Q 3)), (1, .int p0), (2, .int p1), (3, .int p2)]) hx hb dX1_enter_28 hl (by decide) rfl (fun ls hl => ?_)
    refine lv_aload_n hx hb dX1_enter_30 rfl (lv_at hl 2 rfl) ?_
    refine va_get (D := G) (ci := 1) (v := .ref (Q 1)) (C := RX1) (T := TX1) (N := 2) hx hb hts (fun w h => .tail _ (wl_X1 w h)) hown hK hP 3 rfl rfl 0 (by decide) (hts _ (.tail _ wd_159)) (fun _ h9 => h9) rfl dX1_enter_31 ?_
    refine lv_iload hx hb dX1_enter_34 (lv_at hl 1 rfl) ?_
    refine lv_iconst (v := 3) hx hb dX1_enter_36 (by decide) ?_
    refine lv_iadd hx hb dX1_enter_37 ?_
    refine lv_iload hx hb dX1_enter_38 (lv_at hl 0 rfl) ?_
    refine lv_iadd hx hb dX1_enter_40 ?_
    refine lv_aload_n hx hb dX1_enter_41 rfl (lv_at hl 2 rfl) ?_
    refine va_get (D := G) (ci := 1) (v := .ref (Q 1)) (C := RX1) (T := TX1) (N := 2) hx hb hts (fun w h => .tail _ (wl_X1 w h)) hown hK hP 3 rfl rfl 0 (by decide) (hts _ (.tail _ wd_159)) (fun _ h9 => h9) rfl dX1_enter_42 ?_
    refine lv_iload_n hx hb dX1_enter_45 rfl (lv_at hl 4 rfl) ?_
    obtain ⟨r16, ho16, hf⟩ := of_b0 hf
    refine gcRi (gV FX [.int p1] (c_hp_first l G cL cZ Q A z _ p1 _ ho16) (cwV 1 hts (gi_V wd_161 wd_65 wd_66 wd_7 wd_67) rfl rfl rfl hdV_X0_first ⟨Nat.le_of_ble_eq_true rfl, Nat.le_of_ble_eq_true rfl⟩) hK hP hD 1 rfl rfl rfl hl.1 (Nat.le_of_ble_eq_true rfl) dX1_enter_46 ⟨by show _ ≤ 6; omega, by show _ ≤ 6 + c0; omega⟩) hS hD hA (fun H locs hP hS => ?_)
    refine lv_iload_n hx hb dX1_enter_49 rfl (lv_at hl 5 rfl) ?_
    refine lv_iadd hx hb dX1_enter_50 ?_
    refine lv_iload hx hb dX1_enter_51 (lv_at hl 0 rfl) ?_
    refine lv_iadd hx hb dX1_enter_53 ?_
    refine lv_aload_n hx hb dX1_enter_54 rfl (lv_at hl 2 rfl) ?_
    refine lv_iload_n hx hb dX1_enter_55 rfl (lv_at hl 3 rfl) ?_
    obtain ⟨r17, ho17, hf⟩ := of_b0 hf
    refine gcRi (gV FX [.int p0] (c_mp_valueWords l G cL cZ Q A z _ p0 _ ho17) (cwV 1 hts (gi_V wd_258 wd_259 wd_260 wd_166 wd_261) rfl rfl rfl hdV_X1_valueWords ⟨Nat.le_of_ble_eq_true rfl, Nat.le_of_ble_eq_true rfl⟩) hK hP hD 3 rfl rfl rfl hl.1 (Nat.le_of_ble_eq_true rfl) dX1_enter_56 ⟨by show _ ≤ 6; omega, by show _ ≤ 6 + c0; omega⟩) hS hD hA (fun H locs hP hS => ?_)
    obtain ⟨z18, o9, ho18, hf⟩ := of_bw hf
    refine gcWv (gV FX [.int ((r2 + 3) + r15), .int ((r16 + p2) + r15), .int r17] (c_hp_copyWords l G cL cZ Q A z _ ((r2 + 3) + r15) ((r16 + p2) + r15) r17 _ ho18) (cwV 3 hts (gi_V wd_236 wd_49 wd_50 wd_7 wd_51) rfl rfl rfl hdV_X0_copyWords ⟨Nat.le_of_ble_eq_true rfl, Nat.le_of_ble_eq_true rfl⟩) hK hP hD 1 rfl rfl rfl hl.1 (Nat.le_of_ble_eq_true rfl) dX1_enter_59 ⟨by show _ ≤ 6; omega, by show _ ≤ 6 + c0; omega⟩) hS hD hA (fun A H locs hP hD hS => ?_)
    refine lv_aload_n hx hb dX1_enter_62 rfl (lv_at hl 2 rfl) ?_
    refine lv_iload hx hb dX1_enter_63 (lv_at hl 1 rfl) ?_
    obtain ⟨r19, ho19, hf⟩ := of_b0 hf
    refine gcRi (gV FX [.int r2] (c_mp_orderIn l G cL cZ Q A z18 _ r2 _ ho19) (cwV 1 hts (gi_V wd_224 wd_225 wd_226 wd_166 wd_227) rfl rfl rfl hdV_X1_orderIn ⟨Nat.le_of_ble_eq_true rfl, Nat.le_of_ble_eq_true rfl⟩) hK hP hD 3 rfl rfl rfl hl.1 (Nat.le_of_ble_eq_true rfl) dX1_enter_65 ⟨by show _ ≤ 6; omega, by show _ ≤ 6 + c0; omega⟩) hS hD hA (fun H locs hP hS => ?_)
    obtain ⟨hc0, hj0⟩ := of_some2 hf
    subst hj0
    exact grXi hx hb hr hlocks hP hK hD hS dX1_enter_68 (by omega) (by omega)
set_option maxHeartbeats 4000000 in
set_option maxRecDepth 100000 in
theorem c_mp_fetch (l : Launch) (G : va_G) (cL cZ : ClassId) (Q : Nat → Nat) (A : Nat → Nat) (z : Hs) (sz : Nat) (p0 : Int32) (p1 : Int32) (O0 : Hs × Int32) (hf : mp_fetch z p0 p1 = some O0) : Met l yX1_fetch vX1_fetch { frames := 5, cells := 0, slots := 0, locals := 117 } (gPc G vwCl (ct cL cZ) [.ref (Q 3), .int p0, .int p1] (cw cL cZ Q A z) sz) (qWi G vwCl (ct cL cZ) (cw cL cZ Q A z) sz (cw cL cZ Q) O0) 0 0 (va_A (cw cL cZ Q A z) sz) := by
  refine gMet (by decide) rfl (Nat.le_of_ble_eq_true rfl) ?_
  intro p e s m below meth c ls C hK hP hD hsz hl
  subst hsz
  obtain ⟨hx, hb, hr, hml, hown, hts, hlocks⟩ := id C
  have FX : CallFix p m c cX1_fetch 5 s _ vX1_fetch RX1 := ⟨hx, hb, hml, hown, hts⟩
  have hA : ∀ q9 : Nat, s.heap.size ≤ q9 → va_A (cw cL cZ Q A z) s.heap.size q9 := fun q9 h => Or.inr h
  have hS : va_S (va_A (cw cL cZ Q A z) s.heap.size) s.heap s.heap [] := va_S.rf
  have hl : lv_has ls 5 [(0, .ref (Q 3)), (1, .int p0), (2, .int p1)] := hl
  unfold mp_fetch at hf
  refine lv_aload_n hx hb dX1_fetch_0 rfl (lv_at hl 0 rfl) ?_
  refine lv_iload_n hx hb dX1_fetch_1 rfl (lv_at hl 1 rfl) ?_
  refine lv_iload_n hx hb dX1_fetch_2 rfl (lv_at hl 2 rfl) ?_
  obtain ⟨r1, ho1, hf⟩ := of_b0 hf
  refine gcRi (gV FX [.int p0, .int p1] (c_mp_slotOfKey l G cL cZ Q A z _ p0 p1 _ ho1) (cwV 2 hts (gi_V wd_262 wd_263 wd_264 wd_166 wd_265) rfl rfl rfl hdV_X1_slotOfKey ⟨Nat.le_of_ble_eq_true rfl, Nat.le_of_ble_eq_true rfl⟩) hK hP hD 3 rfl rfl rfl hl.1 (Nat.le_of_ble_eq_true rfl) dX1_fetch_3 ⟨by show _ ≤ 0; omega, by show _ ≤ 0; omega⟩) hS hD hA (fun H locs hP hS => ?_)
  refine lv_istore_n (lv' := [(3, .int r1), (0, .ref (Q 3)), (1, .int p0), (2, .int p1)]) hx hb dX1_fetch_6 rfl hl (by decide) rfl (fun ls hl => ?_)
  refine lv_iload_n hx hb dX1_fetch_7 rfl (lv_at hl 0 rfl) ?_
  refine lv_iconst (v := (-1)) hx hb dX1_fetch_8 (by decide) ?_
  refine lv_icmp_ne (tgt := 14) hx hb dX1_fetch_9 (by decide) (fun c2 => ?_) (fun c2 => ?_)
  · have hf := (if_neg c2).symm.trans hf
    refine lv_aload_n hx hb dX1_fetch_14 rfl (lv_at hl 1 rfl) ?_
    refine lv_iload_n hx hb dX1_fetch_15 rfl (lv_at hl 2 rfl) ?_
    obtain ⟨r3, ho3, hf⟩ := of_b0 hf
    refine gcRi (gV FX [.int p0] (c_mp_keyWords l G cL cZ Q A z _ p0 _ ho3) (cwV 1 hts (gi_V wd_190 wd_191 wd_192 wd_166 wd_193) rfl rfl rfl hdV_X1_keyWords ⟨Nat.le_of_ble_eq_true rfl, Nat.le_of_ble_eq_true rfl⟩) hK hP hD 3 rfl rfl rfl hl.1 (Nat.le_of_ble_eq_true rfl) dX1_fetch_16 ⟨by show _ ≤ 0; omega, by show _ ≤ 0; omega⟩) hS hD hA (fun H locs hP hS => ?_)
    refine lv_istore (lv' := [(4, .int r3), (3, .int r1), (0, .ref (Q 3)), (1, .int p0), (2, .int p1)]) hx hb dX1_fetch_19 hl (by decide) rfl (fun ls hl => ?_)
    refine lv_aload_n hx hb dX1_fetch_21 rfl (lv_at hl 2 rfl) ?_
    refine va_get (D := G) (ci := 1) (v := .ref (Q 1)) (C := RX1) (T := TX1) (N := 2) hx hb hts (fun w h => .tail _ (wl_X1 w h)) hown hK hP 3 rfl rfl 0 (by decide) (hts _ (.tail _ wd_159)) (fun _ h9 => h9) rfl dX1_fetch_22 ?_
    refine lv_iload_n hx hb dX1_fetch_25 rfl (lv_at hl 4 rfl) ?_
    refine lv_iload hx hb dX1_fetch_26 (lv_at hl 0 rfl) ?_
    refine lv_iadd hx hb dX1_fetch_28 ?_
    refine lv_iload_n hx hb dX1_fetch_29 rfl (lv_at hl 1 rfl) ?_
    refine lv_iconst (v := 3) hx hb dX1_fetch_30 (by decide) ?_
    refine lv_iadd hx hb dX1_fetch_31 ?_
    refine lv_iload hx hb dX1_fetch_32 (lv_at hl 0 rfl) ?_
    refine lv_iadd hx hb dX1_fetch_34 ?_
    refine lv_aload_n hx hb dX1_fetch_35 rfl (lv_at hl 2 rfl) ?_
    refine lv_iload_n hx hb dX1_fetch_36 rfl (lv_at hl 3 rfl) ?_
    obtain ⟨r4, ho4, hf⟩ := of_b0 hf
    refine gcRi (gV FX [.int p0] (c_mp_valueWords l G cL cZ Q A z _ p0 _ ho4) (cwV 1 hts (gi_V wd_258 wd_259 wd_260 wd_166 wd_261) rfl rfl rfl hdV_X1_valueWords ⟨Nat.le_of_ble_eq_true rfl, Nat.le_of_ble_eq_true rfl⟩) hK hP hD 3 rfl rfl rfl hl.1 (Nat.le_of_ble_eq_true rfl) dX1_fetch_37 ⟨by show _ ≤ 0; omega, by show _ ≤ 0; omega⟩) hS hD hA (fun H locs hP hS => ?_)
    obtain ⟨z5, o9, ho5, hf⟩ := of_bw hf
    refine gcWv (gV FX [.int (p1 + r3), .int ((r1 + 3) + r3), .int r4] (c_hp_copyWords l G cL cZ Q A z _ (p1 + r3) ((r1 + 3) + r3) r4 _ ho5) (cwV 3 hts (gi_V wd_236 wd_49 wd_50 wd_7 wd_51) rfl rfl rfl hdV_X0_copyWords ⟨Nat.le_of_ble_eq_true rfl, Nat.le_of_ble_eq_true rfl⟩) hK hP hD 1 rfl rfl rfl hl.1 (Nat.le_of_ble_eq_true rfl) dX1_fetch_40 ⟨by show _ ≤ 0; omega, by show _ ≤ 0; omega⟩) hS hD hA (fun A H locs hP hD hS => ?_)
    refine lv_aload_n hx hb dX1_fetch_43 rfl (lv_at hl 2 rfl) ?_
    refine lv_iload_n hx hb dX1_fetch_44 rfl (lv_at hl 1 rfl) ?_
    obtain ⟨r6, ho6, hf⟩ := of_b0 hf
    refine gcRi (gV FX [.int r1] (c_mp_orderIn l G cL cZ Q A z5 _ r1 _ ho6) (cwV 1 hts (gi_V wd_224 wd_225 wd_226 wd_166 wd_227) rfl rfl rfl hdV_X1_orderIn ⟨Nat.le_of_ble_eq_true rfl, Nat.le_of_ble_eq_true rfl⟩) hK hP hD 3 rfl rfl rfl hl.1 (Nat.le_of_ble_eq_true rfl) dX1_fetch_45 ⟨by show _ ≤ 0; omega, by show _ ≤ 0; omega⟩) hS hD hA (fun H locs hP hS => ?_)
    obtain rfl := Option.some.inj hf
    exact grWi hx hb hr hlocks hP hK hD hS dX1_fetch_48 (by omega) (by omega)
  · have hf := (if_pos c2).symm.trans hf
    refine lv_iconst (v := (-1)) hx hb dX1_fetch_12 (by decide) ?_
    obtain rfl := Option.some.inj hf
    exact grWi hx hb hr hlocks hP hK hD hS dX1_fetch_13 (by omega) (by omega)
set_option maxHeartbeats 4000000 in
set_option maxRecDepth 100000 in
theorem c_mp_erase (l : Launch) (G : va_G) (cL cZ : ClassId) (Q : Nat → Nat) (A : Nat → Nat) (z : Hs) (sz : Nat) (p0 : Int32) (p1 : Int32) (O0 : Hs × Int32) (hf : mp_erase z p0 p1 = some O0) : Met l yX1_erase vX1_erase { frames := 5, cells := 0, slots := 0, locals := 117 } (gPc G vwCl (ct cL cZ) [.ref (Q 3), .int p0, .int p1] (cw cL cZ Q A z) sz) (qWi G vwCl (ct cL cZ) (cw cL cZ Q A z) sz (cw cL cZ Q) O0) 0 0 (va_A (cw cL cZ Q A z) sz) := by
  refine gMet (by decide) rfl (Nat.le_of_ble_eq_true rfl) ?_
  intro p e s m below meth c ls C hK hP hD hsz hl
  subst hsz
  obtain ⟨hx, hb, hr, hml, hown, hts, hlocks⟩ := id C
  have FX : CallFix p m c cX1_erase 5 s _ vX1_erase RX1 := ⟨hx, hb, hml, hown, hts⟩
  have hA : ∀ q9 : Nat, s.heap.size ≤ q9 → va_A (cw cL cZ Q A z) s.heap.size q9 := fun q9 h => Or.inr h
  have hS : va_S (va_A (cw cL cZ Q A z) s.heap.size) s.heap s.heap [] := va_S.rf
  have hl : lv_has ls 5 [(0, .ref (Q 3)), (1, .int p0), (2, .int p1)] := hl
  unfold mp_erase at hf
  refine lv_aload_n hx hb dX1_erase_0 rfl (lv_at hl 0 rfl) ?_
  refine lv_iload_n hx hb dX1_erase_1 rfl (lv_at hl 1 rfl) ?_
  refine lv_iload_n hx hb dX1_erase_2 rfl (lv_at hl 2 rfl) ?_
  obtain ⟨r1, ho1, hf⟩ := of_b0 hf
  refine gcRi (gV FX [.int p0, .int p1] (c_mp_slotOfKey l G cL cZ Q A z _ p0 p1 _ ho1) (cwV 2 hts (gi_V wd_262 wd_263 wd_264 wd_166 wd_265) rfl rfl rfl hdV_X1_slotOfKey ⟨Nat.le_of_ble_eq_true rfl, Nat.le_of_ble_eq_true rfl⟩) hK hP hD 3 rfl rfl rfl hl.1 (Nat.le_of_ble_eq_true rfl) dX1_erase_3 ⟨by show _ ≤ 0; omega, by show _ ≤ 0; omega⟩) hS hD hA (fun H locs hP hS => ?_)
  refine lv_istore_n (lv' := [(3, .int r1), (0, .ref (Q 3)), (1, .int p0), (2, .int p1)]) hx hb dX1_erase_6 rfl hl (by decide) rfl (fun ls hl => ?_)
  refine lv_iload_n hx hb dX1_erase_7 rfl (lv_at hl 0 rfl) ?_
  refine lv_iconst (v := (-1)) hx hb dX1_erase_8 (by decide) ?_
  refine lv_icmp_ne (tgt := 14) hx hb dX1_erase_9 (by decide) (fun c2 => ?_) (fun c2 => ?_)
  · have hf := (if_neg c2).symm.trans hf
    refine lv_aload_n hx hb dX1_erase_14 rfl (lv_at hl 1 rfl) ?_
    refine lv_iload_n hx hb dX1_erase_15 rfl (lv_at hl 0 rfl) ?_
    obtain ⟨r3, ho3, hf⟩ := of_b0 hf
    refine gcRi (gV FX [.int r1] (c_mp_orderIn l G cL cZ Q A z _ r1 _ ho3) (cwV 1 hts (gi_V wd_224 wd_225 wd_226 wd_166 wd_227) rfl rfl rfl hdV_X1_orderIn ⟨Nat.le_of_ble_eq_true rfl, Nat.le_of_ble_eq_true rfl⟩) hK hP hD 3 rfl rfl rfl hl.1 (Nat.le_of_ble_eq_true rfl) dX1_erase_16 ⟨by show _ ≤ 0; omega, by show _ ≤ 0; omega⟩) hS hD hA (fun H locs hP hS => ?_)
    refine lv_istore (lv' := [(4, .int r3), (3, .int r1), (0, .ref (Q 3)), (1, .int p0), (2, .int p1)]) hx hb dX1_erase_19 hl (by decide) rfl (fun ls hl => ?_)
    refine lv_aload_n hx hb dX1_erase_21 rfl (lv_at hl 2 rfl) ?_
    refine va_get (D := G) (ci := 1) (v := .ref (Q 1)) (C := RX1) (T := TX1) (N := 2) hx hb hts (fun w h => .tail _ (wl_X1 w h)) hown hK hP 3 rfl rfl 0 (by decide) (hts _ (.tail _ wd_159)) (fun _ h9 => h9) rfl dX1_erase_22 ?_
    refine lv_iload_n hx hb dX1_erase_25 rfl (lv_at hl 1 rfl) ?_
    refine lv_aload_n hx hb dX1_erase_26 rfl (lv_at hl 2 rfl) ?_
    refine lv_iload_n hx hb dX1_erase_27 rfl (lv_at hl 3 rfl) ?_
    obtain ⟨r4, ho4, hf⟩ := of_b0 hf
    refine gcRi (gV FX [.int p0] (c_mp_slotWords l G cL cZ Q A z _ p0 _ ho4) (cwV 1 hts (gi_V wd_216 wd_217 wd_218 wd_166 wd_219) rfl rfl rfl hdV_X1_slotWords ⟨Nat.le_of_ble_eq_true rfl, Nat.le_of_ble_eq_true rfl⟩) hK hP hD 3 rfl rfl rfl hl.1 (Nat.le_of_ble_eq_true rfl) dX1_erase_28 ⟨by show _ ≤ 0; omega, by show _ ≤ 0; omega⟩) hS hD hA (fun H locs hP hS => ?_)
    obtain ⟨z5, o9, ho5, hf⟩ := of_bw hf
    refine gcWv (gV FX [.int r1, .int r4] (c_hp_clearWords l G cL cZ Q A z _ r1 r4 _ ho5) (cwV 2 hts (gi_V wd_266 wd_93 wd_94 wd_7 wd_95) rfl rfl rfl hdV_X0_clearWords ⟨Nat.le_of_ble_eq_true rfl, Nat.le_of_ble_eq_true rfl⟩) hK hP hD 1 rfl rfl rfl hl.1 (Nat.le_of_ble_eq_true rfl) dX1_erase_31 ⟨by show _ ≤ 0; omega, by show _ ≤ 0; omega⟩) hS hD hA (fun A H locs hP hD hS => ?_)
    refine lv_aload_n hx hb dX1_erase_34 rfl (lv_at hl 2 rfl) ?_
    refine lv_iload_n hx hb dX1_erase_35 rfl (lv_at hl 3 rfl) ?_
    refine lv_iconst (v := 2) hx hb dX1_erase_36 (by decide) ?_
    refine lv_aload_n hx hb dX1_erase_37 rfl (lv_at hl 2 rfl) ?_
    refine lv_iload_n hx hb dX1_erase_38 rfl (lv_at hl 3 rfl) ?_
    obtain ⟨r6, ho6, hf⟩ := of_b0 hf
    refine gcRi (gV FX [.int p0] (c_mp_entries l G cL cZ Q A z5 _ p0 _ ho6) (cwV 1 hts (gi_V wd_228 wd_229 wd_230 wd_166 wd_231) rfl rfl rfl hdV_X1_entries ⟨Nat.le_of_ble_eq_true rfl, Nat.le_of_ble_eq_true rfl⟩) hK hP hD 3 rfl rfl rfl hl.1 (Nat.le_of_ble_eq_true rfl) dX1_erase_39 ⟨by show _ ≤ 0; omega, by show _ ≤ 0; omega⟩) hS hD hA (fun H locs hP hS => ?_)
    refine lv_iconst (v := 1) hx hb dX1_erase_42 (by decide) ?_
    refine lv_isub hx hb dX1_erase_43 ?_
    obtain ⟨z7, o9, ho7, hf⟩ := of_bw hf
    refine gcWv (gV FX [.int p0, .int 2, .int (r6 - 1)] (c_mp_setField l G cL cZ Q A z5 _ p0 2 (r6 - 1) _ ho7) (cwV 3 hts (gi_V wd_163 wd_164 wd_165 wd_166 wd_167) rfl rfl rfl hdV_X1_setField ⟨Nat.le_of_ble_eq_true rfl, Nat.le_of_ble_eq_true rfl⟩) hK hP hD 3 rfl rfl rfl hl.1 (Nat.le_of_ble_eq_true rfl) dX1_erase_44 ⟨by show _ ≤ 0; omega, by show _ ≤ 0; omega⟩) hS hD hA (fun A H locs hP hD hS => ?_)
    refine lv_iload hx hb dX1_erase_47 (lv_at hl 0 rfl) ?_
    obtain rfl := Option.some.inj hf
    exact grWi hx hb hr hlocks hP hK hD hS dX1_erase_49 (by omega) (by omega)
  · have hf := (if_pos c2).symm.trans hf
    refine lv_iconst (v := (-1)) hx hb dX1_erase_12 (by decide) ?_
    obtain rfl := Option.some.inj hf
    exact grWi hx hb hr hlocks hP hK hD hS dX1_erase_13 (by omega) (by omega)
def At_mp_slotFrom_l21 (l : Launch) (G : va_G) (cL cZ : ClassId) (Q : Nat → Nat) (A : Nat → Nat) (z : Hs) (p : Program) (e : Env) (s : State) (m : MethodId) (args : Array Value) (below : List Frame) (meth : Method) (c : Code) (O0 : Int32) (mcT msT : Nat) (F : Int32 → Int32 → Int32 → Int32 → Hs → Option (Int32)) : Prop := ∀ (x2 : Int32) (x3 : Int32) (x4 : Int32) (x5 : Int32) (H : Heap) (locs : List Loc) (ls : Array Slot) (cells slots : Nat), va_P G vwCl (cw cL cZ Q A z) H → va_D (va_A (cw cL cZ Q A z) s.heap.size) (cw cL cZ Q A z) → va_S (va_A (cw cL cZ Q A z) s.heap.size) s.heap H locs → lv_has ls 6 [(0, .ref (Q 3)), (2, .int x2), (3, .int x3), (4, .int x4), (5, .int x5)] → F x2 x3 x4 x5 z = some O0 → cells + 0 ≤ mcT → slots + 0 ≤ msT → W p l e { frames := 4, cells := mcT, slots := msT, locals := 86 } s m args below meth c H locs cells slots (MQ below (qRi G vwCl (ct cL cZ) (cw cL cZ Q A z) s.heap.size O0) args s mcT msT (va_A (cw cL cZ Q A z) s.heap.size)) (F0 m 21 ls [])
set_option maxHeartbeats 4000000 in
set_option maxRecDepth 100000 in
theorem L_mp_slotFrom_l21 (l : Launch) (G : va_G) (cL cZ : ClassId) (Q : Nat → Nat) (A : Nat → Nat) (z : Hs) (p : Program) (e : Env) (s : State) (m : MethodId) (args : Array Value) (below : List Frame) (meth : Method) (c : Code) (O0 : Int32) (mcT msT : Nat) (C : MC p s m args meth c cX1_slotFrom 6 (some .int) RX1 vX1_slotFrom) (hK : va_K G vwCl (ct cL cZ) s) : ∀ n : Nat, At_mp_slotFrom_l21 l G cL cZ Q A z p e s m args below meth c O0 mcT msT (mp_slotFrom_l21 n) := by
  obtain ⟨hx, hb, hr, hml, hown, hts, hlocks⟩ := id C
  have FX : CallFix p m c cX1_slotFrom 6 s args vX1_slotFrom RX1 := ⟨hx, hb, hml, hown, hts⟩
  have hA : ∀ q9 : Nat, s.heap.size ≤ q9 → va_A (cw cL cZ Q A z) s.heap.size q9 := fun q9 h => Or.inr h
  intro n
  induction n with
  | zero =>
    intro x2 x3 x4 x5 H locs ls cells slots hP hD hS hl hf hcc hss
    exact nomatch (show none = some _ from hf)
  | succ n ih =>
    intro x2 x3 x4 x5 H locs ls cells slots hP hD hS hl hf hcc hss
    rw [mp_slotFrom_l21] at hf
    refine lv_iload hx hb dX1_slotFrom_21 (lv_at hl 4 rfl) ?_
    refine lv_iload hx hb dX1_slotFrom_23 (lv_at hl 3 rfl) ?_
    refine lv_icmp_ge (tgt := 60) hx hb dX1_slotFrom_25 (by decide) (fun c4 => ?_) (fun c4 => ?_)
    · have hf := (if_pos c4).symm.trans hf
      refine lv_iconst (v := (-1)) hx hb dX1_slotFrom_60 (by decide) ?_
      obtain rfl := Option.some.inj hf
      exact grRi hx hb hr hlocks hP hK hD hS dX1_slotFrom_61 (by omega) (by omega)
    · have hf := (if_neg c4).symm.trans hf
      refine lv_aload_n hx hb dX1_slotFrom_28 rfl (lv_at hl 0 rfl) ?_
      refine lv_iload hx hb dX1_slotFrom_29 (lv_at hl 4 rfl) ?_
      obtain ⟨r5, ho5, hf⟩ := of_b0 hf
      refine gcRi (gV FX [.int x5] (c_mp_orderIn l G cL cZ Q A z _ x5 _ ho5) (cwV 1 hts (gi_V wd_224 wd_225 wd_226 wd_166 wd_227) rfl rfl rfl hdV_X1_orderIn ⟨Nat.le_of_ble_eq_true rfl, Nat.le_of_ble_eq_true rfl⟩) hK hP hD 3 rfl rfl rfl hl.1 (Nat.le_of_ble_eq_true rfl) dX1_slotFrom_31 ⟨by show _ ≤ mcT; omega, by show _ ≤ msT; omega⟩) hS hD hA (fun H locs hP hS => ?_)
      refine lv_iconst (v := (-1)) hx hb dX1_slotFrom_34 (by decide) ?_
      refine lv_icmp_eq (tgt := 51) hx hb dX1_slotFrom_35 (by decide) (fun c6 => ?_) (fun c6 => ?_)
      · have hf := (if_pos c6).symm.trans hf
        refine lv_iload hx hb dX1_slotFrom_51 (lv_at hl 4 rfl) ?_
        refine lv_iload_n hx hb dX1_slotFrom_53 rfl (lv_at hl 2 rfl) ?_
        refine lv_iadd hx hb dX1_slotFrom_54 ?_
        refine lv_istore (lv' := [(5, .int (x5 + x3)), (0, .ref (Q 3)), (2, .int x2), (3, .int x3), (4, .int x4)]) hx hb dX1_slotFrom_55 hl (by decide) rfl (fun ls hl => ?_)
        refine lv_goto (tgt := 21) hx hb dX1_slotFrom_57 (by decide) ?_
        exact ih _ _ _ _ _ _ _ _ _ hP hD hS (lv_sub hl [1, 2, 3, 4, 0] rfl) hf (by omega) (by omega)
      · have hf := (if_neg c6).symm.trans hf
        refine lv_aload_n hx hb dX1_slotFrom_38 rfl (lv_at hl 0 rfl) ?_
        refine lv_iload hx hb dX1_slotFrom_39 (lv_at hl 4 rfl) ?_
        obtain ⟨r7, ho7, hf⟩ := of_b0 hf
        refine gcRi (gV FX [.int x5] (c_mp_orderIn l G cL cZ Q A z _ x5 _ ho7) (cwV 1 hts (gi_V wd_224 wd_225 wd_226 wd_166 wd_227) rfl rfl rfl hdV_X1_orderIn ⟨Nat.le_of_ble_eq_true rfl, Nat.le_of_ble_eq_true rfl⟩) hK hP hD 3 rfl rfl rfl hl.1 (Nat.le_of_ble_eq_true rfl) dX1_slotFrom_41 ⟨by show _ ≤ mcT; omega, by show _ ≤ msT; omega⟩) hS hD hA (fun H locs hP hS => ?_)
        refine lv_iload_n hx hb dX1_slotFrom_44 rfl (lv_at hl 1 rfl) ?_
        refine lv_icmp_lt (tgt := 51) hx hb dX1_slotFrom_45 (by decide) (fun c8 => ?_) (fun c8 => ?_)
        · have hf := (if_pos c8).symm.trans hf
          refine lv_iload hx hb dX1_slotFrom_51 (lv_at hl 4 rfl) ?_
          refine lv_iload_n hx hb dX1_slotFrom_53 rfl (lv_at hl 2 rfl) ?_
          refine lv_iadd hx hb dX1_slotFrom_54 ?_
          refine lv_istore (lv' := [(5, .int (x5 + x3)), (0, .ref (Q 3)), (2, .int x2), (3, .int x3), (4, .int x4)]) hx hb dX1_slotFrom_55 hl (by decide) rfl (fun ls hl => ?_)
          refine lv_goto (tgt := 21) hx hb dX1_slotFrom_57 (by decide) ?_
          exact ih _ _ _ _ _ _ _ _ _ hP hD hS (lv_sub hl [1, 2, 3, 4, 0] rfl) hf (by omega) (by omega)
        · have hf := (if_neg c8).symm.trans hf
          refine lv_iload hx hb dX1_slotFrom_48 (lv_at hl 4 rfl) ?_
          obtain rfl := Option.some.inj hf
          exact grRi hx hb hr hlocks hP hK hD hS dX1_slotFrom_50 (by omega) (by omega)
set_option maxHeartbeats 4000000 in
set_option maxRecDepth 100000 in
theorem c_mp_slotFrom (l : Launch) (G : va_G) (cL cZ : ClassId) (Q : Nat → Nat) (A : Nat → Nat) (z : Hs) (sz : Nat) (p0 : Int32) (p1 : Int32) (O0 : Int32) (hf : mp_slotFrom z p0 p1 = some O0) : Met l yX1_slotFrom vX1_slotFrom { frames := 4, cells := 0, slots := 0, locals := 86 } (gPc G vwCl (ct cL cZ) [.ref (Q 3), .int p0, .int p1] (cw cL cZ Q A z) sz) (qRi G vwCl (ct cL cZ) (cw cL cZ Q A z) sz O0) 0 0 (va_A (cw cL cZ Q A z) sz) := by
  refine gMet (by decide) rfl (Nat.le_of_ble_eq_true rfl) ?_
  intro p e s m below meth c ls C hK hP hD hsz hl
  subst hsz
  obtain ⟨hx, hb, hr, hml, hown, hts, hlocks⟩ := id C
  have FX : CallFix p m c cX1_slotFrom 6 s _ vX1_slotFrom RX1 := ⟨hx, hb, hml, hown, hts⟩
  have hA : ∀ q9 : Nat, s.heap.size ≤ q9 → va_A (cw cL cZ Q A z) s.heap.size q9 := fun q9 h => Or.inr h
  have hS : va_S (va_A (cw cL cZ Q A z) s.heap.size) s.heap s.heap [] := va_S.rf
  have hl : lv_has ls 6 [(0, .ref (Q 3)), (1, .int p0), (2, .int p1)] := hl
  unfold mp_slotFrom at hf
  refine lv_aload_n hx hb dX1_slotFrom_0 rfl (lv_at hl 0 rfl) ?_
  refine lv_iload_n hx hb dX1_slotFrom_1 rfl (lv_at hl 1 rfl) ?_
  obtain ⟨r1, ho1, hf⟩ := of_b0 hf
  refine gcRi (gV FX [.int p0] (c_mp_slotWords l G cL cZ Q A z _ p0 _ ho1) (cwV 1 hts (gi_V wd_216 wd_217 wd_218 wd_166 wd_219) rfl rfl rfl hdV_X1_slotWords ⟨Nat.le_of_ble_eq_true rfl, Nat.le_of_ble_eq_true rfl⟩) hK hP hD 3 rfl rfl rfl hl.1 (Nat.le_of_ble_eq_true rfl) dX1_slotFrom_2 ⟨by show _ ≤ 0; omega, by show _ ≤ 0; omega⟩) hS hD hA (fun H locs hP hS => ?_)
  refine lv_istore_n (lv' := [(3, .int r1), (0, .ref (Q 3)), (1, .int p0), (2, .int p1)]) hx hb dX1_slotFrom_5 rfl hl (by decide) rfl (fun ls hl => ?_)
  refine lv_aload_n hx hb dX1_slotFrom_6 rfl (lv_at hl 1 rfl) ?_
  refine lv_iload_n hx hb dX1_slotFrom_7 rfl (lv_at hl 2 rfl) ?_
  refine lv_iload_n hx hb dX1_slotFrom_8 rfl (lv_at hl 0 rfl) ?_
  obtain ⟨r2, ho2, hf⟩ := of_b0 hf
  refine gcRi (gV FX [.int p0, .int r1] (c_mp_slotsEnd l G cL cZ Q A z _ p0 r1 _ ho2) (cwV 2 hts (gi_V wd_212 wd_213 wd_214 wd_166 wd_215) rfl rfl rfl hdV_X1_slotsEnd ⟨Nat.le_of_ble_eq_true rfl, Nat.le_of_ble_eq_true rfl⟩) hK hP hD 3 rfl rfl rfl hl.1 (Nat.le_of_ble_eq_true rfl) dX1_slotFrom_9 ⟨by show _ ≤ 0; omega, by show _ ≤ 0; omega⟩) hS hD hA (fun H locs hP hS => ?_)
  refine lv_istore (lv' := [(4, .int r2), (3, .int r1), (0, .ref (Q 3)), (1, .int p0), (2, .int p1)]) hx hb dX1_slotFrom_12 hl (by decide) rfl (fun ls hl => ?_)
  refine lv_aload_n hx hb dX1_slotFrom_14 rfl (lv_at hl 2 rfl) ?_
  refine lv_iload_n hx hb dX1_slotFrom_15 rfl (lv_at hl 3 rfl) ?_
  obtain ⟨r3, ho3, hf⟩ := of_b0 hf
  refine gcRi (gV FX [.int p0] (c_mp_slotsStart l G cL cZ Q A z _ p0 _ ho3) (cwV 1 hts (gi_V wd_199 wd_200 wd_201 wd_166 wd_202) rfl rfl rfl hdV_X1_slotsStart ⟨Nat.le_of_ble_eq_true rfl, Nat.le_of_ble_eq_true rfl⟩) hK hP hD 3 rfl rfl rfl hl.1 (Nat.le_of_ble_eq_true rfl) dX1_slotFrom_16 ⟨by show _ ≤ 0; omega, by show _ ≤ 0; omega⟩) hS hD hA (fun H locs hP hS => ?_)
  refine lv_istore (lv' := [(5, .int r3), (4, .int r2), (3, .int r1), (0, .ref (Q 3)), (1, .int p0), (2, .int p1)]) hx hb dX1_slotFrom_19 hl (by decide) rfl (fun ls hl => ?_)
  exact L_mp_slotFrom_l21 _ _ _ _ _ _ _ _ _ _ _ _ _ _ _ _ _ _ C hK FU _ _ _ _ _ _ _ _ _ hP hD hS (lv_sub hl [3, 5, 2, 1, 0] rfl) hf (by omega) (by omega)
