set_option maxHeartbeats 4000000 in
set_option maxRecDepth 100000 in
theorem c_tx_eightFrom (l : Launch) (G : va_G) (cL cZ : ClassId) (Q : Nat → Nat) (A : Nat → Nat) (z : Hs) (sz : Nat) (p0 : Int32) (p1 : Int32) (O0 : Int64) (hf : tx_eightFrom z p0 p1 = some O0) : Met l yX2_eightFrom vX2_eightFrom { frames := 3, cells := 0, slots := 0, locals := 64 } (gPc G vwCl (ct cL cZ) [.ref (Q 2), .int p0, .int p1] (cw cL cZ Q A z) sz) (qRl G vwCl (ct cL cZ) (cw cL cZ Q A z) sz O0) 0 0 (va_A (cw cL cZ Q A z) sz) := by
  refine gMet (by decide) rfl (Nat.le_of_ble_eq_true rfl) ?_
  intro p e s m below meth c ls C hK hP hD hsz hl
  subst hsz
  obtain ⟨hx, hb, hr, hml, hown, hts, hlocks⟩ := id C
  have FX : CallFix p m c cX2_eightFrom 6 s _ vX2_eightFrom RX2 := ⟨hx, hb, hml, hown, hts⟩
  have hA : ∀ q9 : Nat, s.heap.size ≤ q9 → va_A (cw cL cZ Q A z) s.heap.size q9 := fun q9 h => Or.inr h
  have hS : va_S (va_A (cw cL cZ Q A z) s.heap.size) s.heap s.heap [] := va_S.rf
  have hl : lv_has ls 6 [(0, .ref (Q 2)), (1, .int p0), (2, .int p1)] := hl
  unfold tx_eightFrom at hf
  refine lv_bipush (v := 8) hx hb dX2_eightFrom_0 (by decide) ?_
  refine lv_iload_n hx hb dX2_eightFrom_2 rfl (lv_at hl 2 rfl) ?_
  refine lv_bipush (v := 7) hx hb dX2_eightFrom_3 (by decide) ?_
  refine lv_iand hx hb dX2_eightFrom_5 ?_
  refine lv_imul hx hb dX2_eightFrom_6 ?_
  refine lv_istore_n (lv' := [(3, .int (8 * (p1 &&& 7))), (0, .ref (Q 2)), (1, .int p0), (2, .int p1)]) hx hb dX2_eightFrom_7 rfl hl (by decide) rfl (fun ls hl => ?_)
  refine lv_aload_n hx hb dX2_eightFrom_8 rfl (lv_at hl 1 rfl) ?_
  refine lv_iload_n hx hb dX2_eightFrom_9 rfl (lv_at hl 2 rfl) ?_
  refine lv_iload_n hx hb dX2_eightFrom_10 rfl (lv_at hl 3 rfl) ?_
  refine lv_iconst (v := 3) hx hb dX2_eightFrom_11 (by decide) ?_
  refine lv_ishr hx hb dX2_eightFrom_12 ?_
  obtain ⟨r1, ho1, hf⟩ := of_b0 hf
  refine gcRl (gV FX [.int p0, .int (p1 >>> ((3 : Int32) &&& 31))] (c_tx_wordOf l G cL cZ Q A z _ p0 (p1 >>> ((3 : Int32) &&& 31)) _ ho1) (cwV 2 hts (gi_V wd_144 wd_145 wd_146 wd_117 wd_147) rfl rfl rfl hdV_X2_wordOf ⟨Nat.le_of_ble_eq_true rfl, Nat.le_of_ble_eq_true rfl⟩) hK hP hD 2 rfl rfl rfl hl.1 (Nat.le_of_ble_eq_true rfl) dX2_eightFrom_13 ⟨by show _ ≤ 0; omega, by show _ ≤ 0; omega⟩) hS hD hA (fun H locs hP hS => ?_)
  refine lv_iload_n hx hb dX2_eightFrom_16 rfl (lv_at hl 0 rfl) ?_
  refine lv_lshl hx hb dX2_eightFrom_17 rfl ?_
  refine lv_lstore (lv' := [(4, .long (r1 <<< ((8 * (p1 &&& 7)).toInt64 &&& 63))), (3, .int (8 * (p1 &&& 7))), (0, .ref (Q 2)), (1, .int p0), (2, .int p1)]) hx hb dX2_eightFrom_18 hl (by decide) rfl (fun ls hl => ?_)
  refine lv_iload_n hx hb dX2_eightFrom_20 rfl (lv_at hl 1 rfl) ?_
  refine lv_if_ne (tgt := 29) hx hb dX2_eightFrom_21 (by decide) (fun c2 => ?_) (fun c2 => ?_)
  · have hf := (if_neg c2).symm.trans hf
    refine lv_lload hx hb dX2_eightFrom_29 (lv_at hl 0 rfl) ?_
    refine lv_aload_n hx hb dX2_eightFrom_31 rfl (lv_at hl 2 rfl) ?_
    refine lv_iload_n hx hb dX2_eightFrom_32 rfl (lv_at hl 3 rfl) ?_
    refine lv_iload_n hx hb dX2_eightFrom_33 rfl (lv_at hl 4 rfl) ?_
    refine lv_iconst (v := 3) hx hb dX2_eightFrom_34 (by decide) ?_
    refine lv_ishr hx hb dX2_eightFrom_35 ?_
    refine lv_iconst (v := 1) hx hb dX2_eightFrom_36 (by decide) ?_
    refine lv_iadd hx hb dX2_eightFrom_37 ?_
    obtain ⟨r3, ho3, hf⟩ := of_b0 hf
    refine gcRl (gV FX [.int p0, .int ((p1 >>> ((3 : Int32) &&& 31)) + 1)] (c_tx_wordOf l G cL cZ Q A z _ p0 ((p1 >>> ((3 : Int32) &&& 31)) + 1) _ ho3) (cwV 2 hts (gi_V wd_144 wd_145 wd_146 wd_117 wd_147) rfl rfl rfl hdV_X2_wordOf ⟨Nat.le_of_ble_eq_true rfl, Nat.le_of_ble_eq_true rfl⟩) hK hP hD 2 rfl rfl rfl hl.1 (Nat.le_of_ble_eq_true rfl) dX2_eightFrom_38 ⟨by show _ ≤ 0; omega, by show _ ≤ 0; omega⟩) hS hD hA (fun H locs hP hS => ?_)
    refine lv_bipush (v := 64) hx hb dX2_eightFrom_41 (by decide) ?_
    refine lv_iload_n hx hb dX2_eightFrom_43 rfl (lv_at hl 1 rfl) ?_
    refine lv_isub hx hb dX2_eightFrom_44 ?_
    refine lv_lushr hx hb dX2_eightFrom_45 rfl ?_
    refine lv_lor hx hb dX2_eightFrom_46 ?_
    obtain rfl := Option.some.inj hf
    exact grRl hx hb hr hlocks hP hK hD hS dX2_eightFrom_47 (by omega) (by omega)
  · have hf := (if_pos c2).symm.trans hf
    refine lv_lload hx hb dX2_eightFrom_24 (lv_at hl 0 rfl) ?_
    refine lv_goto (tgt := 47) hx hb dX2_eightFrom_26 (by decide) ?_
    obtain rfl := Option.some.inj hf
    exact grRl hx hb hr hlocks hP hK hD hS dX2_eightFrom_47 (by omega) (by omega)
def At_tx_joined_l36 (l : Launch) (G : va_G) (cL cZ : ClassId) (Q : Nat → Nat) (w : va_W) (p : Program) (e : Env) (s : State) (m : MethodId) (args : Array Value) (below : List Frame) (meth : Method) (c : Code) (O0 : Hs × (String ⊕ Int32)) (mcT msT : Nat) (F : Int32 → Int32 → Int32 → Int32 → Int32 → Int32 → Hs → Option (Nat × Hs × (String ⊕ Int32))) : Prop := ∀ (A : Nat → Nat) (z : Hs) (x1 : Int32) (x2 : Int32) (x3 : Int32) (x4 : Int32) (x5 : Int32) (x6 : Int32) (d0 : Nat) (H : Heap) (locs : List Loc) (ls : Array Slot) (cells slots : Nat), va_P G vwCl (cw cL cZ Q A z) H → va_D (va_A w s.heap.size) (cw cL cZ Q A z) → va_S (va_A w s.heap.size) s.heap H locs → lv_has ls 7 [(0, .ref (Q 2)), (1, .int x1), (2, .int x2), (3, .int x3), (4, .int x4), (5, .int x5), (6, .int x6)] → F x1 x2 x3 x4 x5 x6 z = some (d0, O0) → cells + 0 ≤ mcT → slots + (0 + d0) ≤ msT → W p l e { frames := 10, cells := mcT, slots := msT, locals := 243 } s m args below meth c H locs cells slots (vx_MQ below (qXi G vwCl (ct cL cZ) w s.heap.size (cw cL cZ Q) O0) (xX G vwCl (ct cL cZ) w s.heap.size (cw cL cZ Q) O0) args s mcT msT (va_A w s.heap.size)) (F0 m 36 ls [])
set_option maxHeartbeats 4000000 in
set_option maxRecDepth 100000 in
theorem L_tx_joined_l36 (l : Launch) (G : va_G) (cL cZ : ClassId) (Q : Nat → Nat) (w : va_W) (p : Program) (e : Env) (s : State) (m : MethodId) (args : Array Value) (below : List Frame) (meth : Method) (c : Code) (O0 : Hs × (String ⊕ Int32)) (mcT msT : Nat) (C : MC p s m args meth c cX2_joined 7 (some .int) RX2 vX2_joined) (hl0 : l.stackTraces = false) (hE : ∀ x ∈ c.exceptionTable.toList, False) (hT : gTh txC (va_A w s.heap.size) s s.heap) (hK : va_K G vwCl (ct cL cZ) s) : ∀ n : Nat, At_tx_joined_l36 l G cL cZ Q w p e s m args below meth c O0 mcT msT (tx_joined_l36 n) := by
  obtain ⟨hx, hb, hr, hml, hown, hts, hlocks⟩ := id C
  have FX : CallFix p m c cX2_joined 7 s args vX2_joined RX2 := ⟨hx, hb, hml, hown, hts⟩
  have hA : ∀ q9 : Nat, s.heap.size ≤ q9 → va_A w s.heap.size q9 := fun q9 h => Or.inr h
  intro n
  induction n with
  | zero =>
    intro A z x1 x2 x3 x4 x5 x6 d0 H locs ls cells slots hP hD hS hl hf hcc hss
    exact nomatch (show none = some _ from hf)
  | succ n ih =>
    intro A z x1 x2 x3 x4 x5 x6 d0 H locs ls cells slots hP hD hS hl hf hcc hss
    rw [tx_joined_l36] at hf
    refine lv_iload hx hb dX2_joined_36 (lv_at hl 6 rfl) ?_
    refine lv_iload hx hb dX2_joined_38 (lv_at hl 4 rfl) ?_
    obtain ⟨r4, ho4, hf⟩ := of_b0 hf
    refine gcRi (gS FX [.int x4] (c_tx_wordsFor l G cL cZ Q A z _ x4 _ ho4) (cwS 1 hts (gi_S wd_130 wd_131 wd_117 wd_132) rfl rfl rfl hdS_X2_wordsFor ⟨Nat.le_of_ble_eq_true rfl, Nat.le_of_ble_eq_true rfl⟩) hK hP hD rfl hl.1 (Nat.le_of_ble_eq_true rfl) dX2_joined_40 ⟨by show _ ≤ mcT; omega, by show _ ≤ msT; omega⟩) hS hD hA (fun H locs hP hS => ?_)
    refine lv_icmp_ge (tgt := 91) hx hb dX2_joined_43 (by decide) (fun c5 => ?_) (fun c5 => ?_)
    · have hf := (if_pos c5).symm.trans hf
      refine lv_iload hx hb dX2_joined_91 (lv_at hl 5 rfl) ?_
      obtain ⟨hc0, hj0⟩ := of_some2 hf
      subst hj0
      exact grXi hx hb hr hlocks hP hK hD hS dX2_joined_93 (by omega) (by omega)
    · have hf := (if_neg c5).symm.trans hf
      refine lv_aload_n hx hb dX2_joined_46 rfl (lv_at hl 0 rfl) ?_
      refine va_get (D := G) (ci := 2) (v := .ref (Q 1)) (C := RX2) (T := TX2) (N := 1) hx hb hts (fun w h => .tail _ (wl_X2 w h)) hown hK hP 2 rfl rfl 0 (by decide) (hts _ (.tail _ wd_114)) (fun _ h9 => h9) rfl dX2_joined_47 ?_
      refine lv_aload_n hx hb dX2_joined_50 rfl (lv_at hl 0 rfl) ?_
      refine va_get (D := G) (ci := 2) (v := .ref (Q 1)) (C := RX2) (T := TX2) (N := 1) hx hb hts (fun w h => .tail _ (wl_X2 w h)) hown hK hP 2 rfl rfl 0 (by decide) (hts _ (.tail _ wd_114)) (fun _ h9 => h9) rfl dX2_joined_51 ?_
      refine lv_iload hx hb dX2_joined_54 (lv_at hl 5 rfl) ?_
      obtain ⟨r6, ho6, hf⟩ := of_b0 hf
      refine gcRi (gV FX [.int x5] (c_hp_first l G cL cZ Q A z _ x5 _ ho6) (cwV 1 hts (gi_V wd_123 wd_65 wd_66 wd_7 wd_67) rfl rfl rfl hdV_X0_first ⟨Nat.le_of_ble_eq_true rfl, Nat.le_of_ble_eq_true rfl⟩) hK hP hD 1 rfl rfl rfl hl.1 (Nat.le_of_ble_eq_true rfl) dX2_joined_56 ⟨by show _ ≤ mcT; omega, by show _ ≤ msT; omega⟩) hS hD hA (fun H locs hP hS => ?_)
      refine lv_iload hx hb dX2_joined_59 (lv_at hl 6 rfl) ?_
      refine lv_iadd hx hb dX2_joined_61 ?_
      refine lv_aload_n hx hb dX2_joined_62 rfl (lv_at hl 0 rfl) ?_
      refine lv_iload_n hx hb dX2_joined_63 rfl (lv_at hl 1 rfl) ?_
      refine lv_iload hx hb dX2_joined_64 (lv_at hl 6 rfl) ?_
      obtain ⟨r7, ho7, hf⟩ := of_b0 hf
      refine gcRl (gV FX [.int x1, .int x6] (c_tx_wordOf l G cL cZ Q A z _ x1 x6 _ ho7) (cwV 2 hts (gi_V wd_144 wd_145 wd_146 wd_117 wd_147) rfl rfl rfl hdV_X2_wordOf ⟨Nat.le_of_ble_eq_true rfl, Nat.le_of_ble_eq_true rfl⟩) hK hP hD 2 rfl rfl rfl hl.1 (Nat.le_of_ble_eq_true rfl) dX2_joined_66 ⟨by show _ ≤ mcT; omega, by show _ ≤ msT; omega⟩) hS hD hA (fun H locs hP hS => ?_)
      refine lv_aload_n hx hb dX2_joined_69 rfl (lv_at hl 0 rfl) ?_
      refine lv_iload_n hx hb dX2_joined_70 rfl (lv_at hl 2 rfl) ?_
      refine lv_bipush (v := 8) hx hb dX2_joined_71 (by decide) ?_
      refine lv_iload hx hb dX2_joined_73 (lv_at hl 6 rfl) ?_
      refine lv_imul hx hb dX2_joined_75 ?_
      refine lv_iload_n hx hb dX2_joined_76 rfl (lv_at hl 3 rfl) ?_
      refine lv_isub hx hb dX2_joined_77 ?_
      obtain ⟨r8, ho8, hf⟩ := of_b0 hf
      refine gcRl (gV FX [.int x2, .int ((8 * x6) - x3)] (c_tx_eightFrom l G cL cZ Q A z _ x2 ((8 * x6) - x3) _ ho8) (cwV 2 hts (gi_V wd_152 wd_153 wd_154 wd_117 wd_155) rfl rfl rfl hdV_X2_eightFrom ⟨Nat.le_of_ble_eq_true rfl, Nat.le_of_ble_eq_true rfl⟩) hK hP hD 2 rfl rfl rfl hl.1 (Nat.le_of_ble_eq_true rfl) dX2_joined_78 ⟨by show _ ≤ mcT; omega, by show _ ≤ msT; omega⟩) hS hD hA (fun H locs hP hS => ?_)
      refine lv_lor hx hb dX2_joined_81 ?_
      obtain ⟨z9, o9, ho9, hf⟩ := of_bw hf
      refine gcWv (gV FX [.int (r6 + x6), .long (r7 ||| r8)] (c_hp_setNumber l G cL cZ Q A z _ (r6 + x6) (r7 ||| r8) _ ho9) (cwV 2 hts (gi_V wd_126 wd_127 wd_128 wd_7 wd_129) rfl rfl rfl hdV_X0_setNumber ⟨Nat.le_of_ble_eq_true rfl, Nat.le_of_ble_eq_true rfl⟩) hK hP hD 1 rfl rfl rfl hl.1 (Nat.le_of_ble_eq_true rfl) dX2_joined_82 ⟨by show _ ≤ mcT; omega, by show _ ≤ msT; omega⟩) hS hD hA (fun A H locs hP hD hS => ?_)
      refine lv_iinc (v := (x6 + 1)) (lv' := [(6, .int (x6 + 1)), (0, .ref (Q 2)), (1, .int x1), (2, .int x2), (3, .int x3), (4, .int x4), (5, .int x5)]) hx hb dX2_joined_85 hl (k := 6) rfl rfl (by decide) rfl (fun ls hl => ?_)
      refine lv_goto (tgt := 36) hx hb dX2_joined_88 (by decide) ?_
      exact ih _ _ _ _ _ _ _ _ _ _ _ _ _ _ hP hD hS (lv_sub hl [1, 2, 3, 4, 5, 6, 0] rfl) hf (by omega) (by omega)
set_option maxHeartbeats 4000000 in
set_option maxRecDepth 100000 in
theorem c_tx_joined (l : Launch) (hl0 : l.stackTraces = false) (G : va_G) (cL cZ : ClassId) (Q : Nat → Nat) (A : Nat → Nat) (z : Hs) (sz : Nat) (p0 : Int32) (p1 : Int32) (c0 : Nat) (O0 : Hs × (String ⊕ Int32)) (hf : tx_joined z p0 p1 = some (c0, O0)) : vx_Met l yX2_joined vX2_joined { frames := 10, cells := 6, slots := 6 + c0, locals := 243 } (gPx txC G vwCl (ct cL cZ) [.ref (Q 2), .int p0, .int p1] (cw cL cZ Q A z) sz) (qXi G vwCl (ct cL cZ) (cw cL cZ Q A z) sz (cw cL cZ Q) O0) (xX G vwCl (ct cL cZ) (cw cL cZ Q A z) sz (cw cL cZ Q) O0) 6 (6 + c0) (va_A (cw cL cZ Q A z) sz) := by
  refine gMetx (by decide) rfl (Nat.le_of_ble_eq_true rfl) ?_
  intro p e s m below meth c ls C hE hK hP hD hT hsz hl
  subst hsz
  obtain ⟨hx, hb, hr, hml, hown, hts, hlocks⟩ := id C
  have FX : CallFix p m c cX2_joined 7 s _ vX2_joined RX2 := ⟨hx, hb, hml, hown, hts⟩
  have hA : ∀ q9 : Nat, s.heap.size ≤ q9 → va_A (cw cL cZ Q A z) s.heap.size q9 := fun q9 h => Or.inr h
  have hS : va_S (va_A (cw cL cZ Q A z) s.heap.size) s.heap s.heap [] := va_S.rf
  have hl : lv_has ls 7 [(0, .ref (Q 2)), (1, .int p0), (2, .int p1)] := hl
  unfold tx_joined at hf
  refine lv_aload_n hx hb dX2_joined_0 rfl (lv_at hl 0 rfl) ?_
  refine va_get (D := G) (ci := 2) (v := .ref (Q 1)) (C := RX2) (T := TX2) (N := 1) hx hb hts (fun w h => .tail _ (wl_X2 w h)) hown hK hP 2 rfl rfl 0 (by decide) (hts _ (.tail _ wd_114)) (fun _ h9 => h9) rfl dX2_joined_1 ?_
  refine lv_iload_n hx hb dX2_joined_4 rfl (lv_at hl 1 rfl) ?_
  obtain ⟨r1, ho1, hf⟩ := of_b0 hf
  refine gcRi (gV FX [.int p0] (c_hp_length l G cL cZ Q A z _ p0 _ ho1) (cwV 1 hts (gi_V wd_133 wd_61 wd_62 wd_7 wd_63) rfl rfl rfl hdV_X0_length ⟨Nat.le_of_ble_eq_true rfl, Nat.le_of_ble_eq_true rfl⟩) hK hP hD 1 rfl rfl rfl hl.1 (Nat.le_of_ble_eq_true rfl) dX2_joined_5 ⟨by show _ ≤ 6; omega, by show _ ≤ 6 + c0; omega⟩) hS hD hA (fun H locs hP hS => ?_)
  refine lv_istore_n (lv' := [(3, .int r1), (0, .ref (Q 2)), (1, .int p0), (2, .int p1)]) hx hb dX2_joined_8 rfl hl (by decide) rfl (fun ls hl => ?_)
  refine lv_iload_n hx hb dX2_joined_9 rfl (lv_at hl 0 rfl) ?_
  refine lv_aload_n hx hb dX2_joined_10 rfl (lv_at hl 1 rfl) ?_
  refine va_get (D := G) (ci := 2) (v := .ref (Q 1)) (C := RX2) (T := TX2) (N := 1) hx hb hts (fun w h => .tail _ (wl_X2 w h)) hown hK hP 2 rfl rfl 0 (by decide) (hts _ (.tail _ wd_114)) (fun _ h9 => h9) rfl dX2_joined_11 ?_
  refine lv_iload_n hx hb dX2_joined_14 rfl (lv_at hl 3 rfl) ?_
  obtain ⟨r2, ho2, hf⟩ := of_b0 hf
  refine gcRi (gV FX [.int p1] (c_hp_length l G cL cZ Q A z _ p1 _ ho2) (cwV 1 hts (gi_V wd_133 wd_61 wd_62 wd_7 wd_63) rfl rfl rfl hdV_X0_length ⟨Nat.le_of_ble_eq_true rfl, Nat.le_of_ble_eq_true rfl⟩) hK hP hD 1 rfl rfl rfl hl.1 (Nat.le_of_ble_eq_true rfl) dX2_joined_15 ⟨by show _ ≤ 6; omega, by show _ ≤ 6 + c0; omega⟩) hS hD hA (fun H locs hP hS => ?_)
  refine lv_iadd hx hb dX2_joined_18 ?_
  refine lv_istore (lv' := [(4, .int (r1 + r2)), (3, .int r1), (0, .ref (Q 2)), (1, .int p0), (2, .int p1)]) hx hb dX2_joined_19 hl (by decide) rfl (fun ls hl => ?_)
  refine lv_aload_n hx hb dX2_joined_21 rfl (lv_at hl 2 rfl) ?_
  refine va_get (D := G) (ci := 2) (v := .ref (Q 1)) (C := RX2) (T := TX2) (N := 1) hx hb hts (fun w h => .tail _ (wl_X2 w h)) hown hK hP 2 rfl rfl 0 (by decide) (hts _ (.tail _ wd_114)) (fun _ h9 => h9) rfl dX2_joined_22 ?_
  refine lv_iconst (v := 3) hx hb dX2_joined_25 (by decide) ?_
  refine lv_iload hx hb dX2_joined_26 (lv_at hl 0 rfl) ?_
  rcases of_bcwt hf with ⟨k3, z3, e9, ho3, hj⟩ | ⟨k3, z3, r3, d3, ho3, hf, ek3⟩
  · obtain ⟨hc0, hj⟩ := of_pair hj
    subst hj
    exact goutXX (gVx FX [.int 3, .int (r1 + r2)] (c_hp_claim l hl0 G cL cZ Q A z _ 3 (r1 + r2) k3 _ ho3) (cwV 2 hts (gi_V wd_148 wd_149 wd_150 wd_7 wd_151) rfl rfl rfl hdV_X0_claim ⟨Nat.le_of_ble_eq_true rfl, Nat.le_of_ble_eq_true rfl⟩) hK hP hD hT hS hA 1 rfl rfl rfl hl.1 (Nat.le_of_ble_eq_true rfl) dX2_joined_28 ⟨by show _ ≤ 6; omega, by show _ ≤ 6 + c0; omega⟩) (noXi) hS hD hK hE hlocks (by omega) (by omega)
  refine gcXi (gVx FX [.int 3, .int (r1 + r2)] (c_hp_claim l hl0 G cL cZ Q A z _ 3 (r1 + r2) k3 _ ho3) (cwV 2 hts (gi_V wd_148 wd_149 wd_150 wd_7 wd_151) rfl rfl rfl hdV_X0_claim ⟨Nat.le_of_ble_eq_true rfl, Nat.le_of_ble_eq_true rfl⟩) hK hP hD hT hS hA 1 rfl rfl rfl hl.1 (Nat.le_of_ble_eq_true rfl) dX2_joined_28 ⟨by show _ ≤ 6; omega, by show _ ≤ 6 + c0; omega⟩) hS hD hA (fun A H locs hP hD hS => ?_)
  refine lv_istore (lv' := [(5, .int r3), (4, .int (r1 + r2)), (3, .int r1), (0, .ref (Q 2)), (1, .int p0), (2, .int p1)]) hx hb dX2_joined_31 hl (by decide) rfl (fun ls hl => ?_)
  refine lv_iconst (v := 0) hx hb dX2_joined_33 (by decide) ?_
  refine lv_istore (lv' := [(6, .int 0), (5, .int r3), (4, .int (r1 + r2)), (3, .int r1), (0, .ref (Q 2)), (1, .int p0), (2, .int p1)]) hx hb dX2_joined_34 hl (by decide) rfl (fun ls hl => ?_)
  exact L_tx_joined_l36 _ _ _ _ _ _ _ _ _ _ _ _ _ _ _ _ _ C hl0 hE hT hK FU _ _ _ _ _ _ _ _ _ _ _ _ _ _ hP hD hS (lv_sub hl [4, 5, 6, 3, 2, 1, 0] rfl) hf (by omega) (by omega)
def At_tx_partOf_l20 (l : Launch) (G : va_G) (cL cZ : ClassId) (Q : Nat → Nat) (w : va_W) (p : Program) (e : Env) (s : State) (m : MethodId) (args : Array Value) (below : List Frame) (meth : Method) (c : Code) (O0 : Hs × (String ⊕ Int32)) (mcT msT : Nat) (F : Int32 → Int32 → Int32 → Int32 → Int32 → Hs → Option (Nat × Hs × (String ⊕ Int32))) : Prop := ∀ (A : Nat → Nat) (z : Hs) (x1 : Int32) (x2 : Int32) (x4 : Int32) (x5 : Int32) (x6 : Int32) (d0 : Nat) (H : Heap) (locs : List Loc) (ls : Array Slot) (cells slots : Nat), va_P G vwCl (cw cL cZ Q A z) H → va_D (va_A w s.heap.size) (cw cL cZ Q A z) → va_S (va_A w s.heap.size) s.heap H locs → lv_has ls 8 [(0, .ref (Q 2)), (1, .int x1), (2, .int x2), (4, .int x4), (5, .int x5), (6, .int x6)] → F x1 x2 x4 x5 x6 z = some (d0, O0) → cells + 0 ≤ mcT → slots + (0 + d0) ≤ msT → W p l e { frames := 10, cells := mcT, slots := msT, locals := 243 } s m args below meth c H locs cells slots (vx_MQ below (qXi G vwCl (ct cL cZ) w s.heap.size (cw cL cZ Q) O0) (xX G vwCl (ct cL cZ) w s.heap.size (cw cL cZ Q) O0) args s mcT msT (va_A w s.heap.size)) (F0 m 20 ls [])
set_option maxHeartbeats 4000000 in
set_option maxRecDepth 100000 in
theorem L_tx_partOf_l20 (l : Launch) (G : va_G) (cL cZ : ClassId) (Q : Nat → Nat) (w : va_W) (p : Program) (e : Env) (s : State) (m : MethodId) (args : Array Value) (below : List Frame) (meth : Method) (c : Code) (O0 : Hs × (String ⊕ Int32)) (mcT msT : Nat) (C : MC p s m args meth c cX2_partOf 8 (some .int) RX2 vX2_partOf) (hl0 : l.stackTraces = false) (hE : ∀ x ∈ c.exceptionTable.toList, False) (hT : gTh txC (va_A w s.heap.size) s s.heap) (hK : va_K G vwCl (ct cL cZ) s) : ∀ n : Nat, At_tx_partOf_l20 l G cL cZ Q w p e s m args below meth c O0 mcT msT (tx_partOf_l20 n) := by
  obtain ⟨hx, hb, hr, hml, hown, hts, hlocks⟩ := id C
  have FX : CallFix p m c cX2_partOf 8 s args vX2_partOf RX2 := ⟨hx, hb, hml, hown, hts⟩
  have hA : ∀ q9 : Nat, s.heap.size ≤ q9 → va_A w s.heap.size q9 := fun q9 h => Or.inr h
  intro n
  induction n with
  | zero =>
    intro A z x1 x2 x4 x5 x6 d0 H locs ls cells slots hP hD hS hl hf hcc hss
    exact nomatch (show none = some _ from hf)
  | succ n ih =>
    intro A z x1 x2 x4 x5 x6 d0 H locs ls cells slots hP hD hS hl hf hcc hss
    rw [tx_partOf_l20] at hf
    refine lv_iload hx hb dX2_partOf_20 (lv_at hl 5 rfl) ?_
    refine lv_iload hx hb dX2_partOf_22 (lv_at hl 3 rfl) ?_
    obtain ⟨r2, ho2, hf⟩ := of_b0 hf
    refine gcRi (gS FX [.int x4] (c_tx_wordsFor l G cL cZ Q A z _ x4 _ ho2) (cwS 1 hts (gi_S wd_130 wd_131 wd_117 wd_132) rfl rfl rfl hdS_X2_wordsFor ⟨Nat.le_of_ble_eq_true rfl, Nat.le_of_ble_eq_true rfl⟩) hK hP hD rfl hl.1 (Nat.le_of_ble_eq_true rfl) dX2_partOf_24 ⟨by show _ ≤ mcT; omega, by show _ ≤ msT; omega⟩) hS hD hA (fun H locs hP hS => ?_)
    refine lv_icmp_ge (tgt := 93) hx hb dX2_partOf_27 (by decide) (fun c3 => ?_) (fun c3 => ?_)
    · have hf := (if_pos c3).symm.trans hf
      refine lv_iload hx hb dX2_partOf_93 (lv_at hl 4 rfl) ?_
      obtain ⟨hc0, hj0⟩ := of_some2 hf
      subst hj0
      exact grXi hx hb hr hlocks hP hK hD hS dX2_partOf_95 (by omega) (by omega)
    · have hf := (if_neg c3).symm.trans hf
      refine lv_iconst (v := 0) hx hb dX2_partOf_30 (by decide) ?_
      refine lv_bipush (v := 8) hx hb dX2_partOf_31 (by decide) ?_
      refine lv_iload hx hb dX2_partOf_33 (lv_at hl 5 rfl) ?_
      refine lv_iconst (v := 1) hx hb dX2_partOf_35 (by decide) ?_
      refine lv_iadd hx hb dX2_partOf_36 ?_
      refine lv_imul hx hb dX2_partOf_37 ?_
      refine lv_iload hx hb dX2_partOf_38 (lv_at hl 3 rfl) ?_
      refine lv_isub hx hb dX2_partOf_40 ?_
      obtain ⟨r4, ho4, hf⟩ := of_b0 hf
      refine va_mmax hx hb (hml.trans hl.1.symm) hown (hts _ (.tail _ wd_156)) (hts _ (.tail _ wd_157)) (hts _ (.tail _ wd_86)) (hts _ (.tail _ wd_158)) (Nat.le_of_ble_eq_true rfl) (Nat.le_of_ble_eq_true rfl) (by show _ ≤ mcT; omega) (by show _ ≤ msT; omega) dX2_partOf_41 ?_
      refine lv_topi (fun t4 et4 => ?_)
      obtain rfl : r4 = t4 := (et4.trans (Option.some.inj ho4)).symm
      refine lv_istore (lv' := [(7, .int r4), (0, .ref (Q 2)), (1, .int x1), (2, .int x2), (4, .int x4), (5, .int x5), (6, .int x6)]) hx hb dX2_partOf_44 hl (by decide) rfl (fun ls hl => ?_)
      refine lv_aload_n hx hb dX2_partOf_46 rfl (lv_at hl 1 rfl) ?_
      refine va_get (D := G) (ci := 2) (v := .ref (Q 1)) (C := RX2) (T := TX2) (N := 1) hx hb hts (fun w h => .tail _ (wl_X2 w h)) hown hK hP 2 rfl rfl 0 (by decide) (hts _ (.tail _ wd_114)) (fun _ h9 => h9) rfl dX2_partOf_47 ?_
      refine lv_aload_n hx hb dX2_partOf_50 rfl (lv_at hl 1 rfl) ?_
      refine va_get (D := G) (ci := 2) (v := .ref (Q 1)) (C := RX2) (T := TX2) (N := 1) hx hb hts (fun w h => .tail _ (wl_X2 w h)) hown hK hP 2 rfl rfl 0 (by decide) (hts _ (.tail _ wd_114)) (fun _ h9 => h9) rfl dX2_partOf_51 ?_
      refine lv_iload hx hb dX2_partOf_54 (lv_at hl 5 rfl) ?_
      obtain ⟨r5, ho5, hf⟩ := of_b0 hf
      refine gcRi (gV FX [.int x5] (c_hp_first l G cL cZ Q A z _ x5 _ ho5) (cwV 1 hts (gi_V wd_123 wd_65 wd_66 wd_7 wd_67) rfl rfl rfl hdV_X0_first ⟨Nat.le_of_ble_eq_true rfl, Nat.le_of_ble_eq_true rfl⟩) hK hP hD 1 rfl rfl rfl hl.1 (Nat.le_of_ble_eq_true rfl) dX2_partOf_56 ⟨by show _ ≤ mcT; omega, by show _ ≤ msT; omega⟩) hS hD hA (fun H locs hP hS => ?_)
      refine lv_iload hx hb dX2_partOf_59 (lv_at hl 6 rfl) ?_
      refine lv_iadd hx hb dX2_partOf_61 ?_
      refine lv_aload_n hx hb dX2_partOf_62 rfl (lv_at hl 1 rfl) ?_
      refine lv_iload_n hx hb dX2_partOf_63 rfl (lv_at hl 2 rfl) ?_
      refine lv_iload_n hx hb dX2_partOf_64 rfl (lv_at hl 3 rfl) ?_
      refine lv_bipush (v := 8) hx hb dX2_partOf_65 (by decide) ?_
      refine lv_iload hx hb dX2_partOf_67 (lv_at hl 6 rfl) ?_
      refine lv_imul hx hb dX2_partOf_69 ?_
      refine lv_iadd hx hb dX2_partOf_70 ?_
      obtain ⟨r6, ho6, hf⟩ := of_b0 hf
      refine gcRl (gV FX [.int x1, .int (x2 + (8 * x6))] (c_tx_eightFrom l G cL cZ Q A z _ x1 (x2 + (8 * x6)) _ ho6) (cwV 2 hts (gi_V wd_152 wd_153 wd_154 wd_117 wd_155) rfl rfl rfl hdV_X2_eightFrom ⟨Nat.le_of_ble_eq_true rfl, Nat.le_of_ble_eq_true rfl⟩) hK hP hD 2 rfl rfl rfl hl.1 (Nat.le_of_ble_eq_true rfl) dX2_partOf_71 ⟨by show _ ≤ mcT; omega, by show _ ≤ msT; omega⟩) hS hD hA (fun H locs hP hS => ?_)
      refine lv_ldc2 (v := (-1)) hx hb hown (hts _ (.tail _ wd_125)) dX2_partOf_74 ?_
      refine lv_bipush (v := 8) hx hb dX2_partOf_77 (by decide) ?_
      refine lv_iload hx hb dX2_partOf_79 (lv_at hl 0 rfl) ?_
      refine lv_imul hx hb dX2_partOf_81 ?_
      refine lv_lshl hx hb dX2_partOf_82 rfl ?_
      refine lv_land hx hb dX2_partOf_83 ?_
      obtain ⟨z7, o9, ho7, hf⟩ := of_bw hf
      refine gcWv (gV FX [.int (r5 + x6), .long (r6 &&& ((-1 : Int64) <<< ((8 * r4).toInt64 &&& 63)))] (c_hp_setNumber l G cL cZ Q A z _ (r5 + x6) (r6 &&& ((-1 : Int64) <<< ((8 * r4).toInt64 &&& 63))) _ ho7) (cwV 2 hts (gi_V wd_126 wd_127 wd_128 wd_7 wd_129) rfl rfl rfl hdV_X0_setNumber ⟨Nat.le_of_ble_eq_true rfl, Nat.le_of_ble_eq_true rfl⟩) hK hP hD 1 rfl rfl rfl hl.1 (Nat.le_of_ble_eq_true rfl) dX2_partOf_84 ⟨by show _ ≤ mcT; omega, by show _ ≤ msT; omega⟩) hS hD hA (fun A H locs hP hD hS => ?_)
      refine lv_iinc (v := (x6 + 1)) (lv' := [(6, .int (x6 + 1)), (7, .int r4), (0, .ref (Q 2)), (1, .int x1), (2, .int x2), (4, .int x4), (5, .int x5)]) hx hb dX2_partOf_87 hl (k := 6) rfl rfl (by decide) rfl (fun ls hl => ?_)
      refine lv_goto (tgt := 20) hx hb dX2_partOf_90 (by decide) ?_
      exact ih _ _ _ _ _ _ _ _ _ _ _ _ _ hP hD hS (lv_sub hl [2, 3, 4, 5, 6, 0] rfl) hf (by omega) (by omega)
set_option maxHeartbeats 4000000 in
set_option maxRecDepth 100000 in
theorem c_tx_partOf (l : Launch) (hl0 : l.stackTraces = false) (G : va_G) (cL cZ : ClassId) (Q : Nat → Nat) (A : Nat → Nat) (z : Hs) (sz : Nat) (p0 : Int32) (p1 : Int32) (p2 : Int32) (c0 : Nat) (O0 : Hs × (String ⊕ Int32)) (hf : tx_partOf z p0 p1 p2 = some (c0, O0)) : vx_Met l yX2_partOf vX2_partOf { frames := 10, cells := 6, slots := 6 + c0, locals := 243 } (gPx txC G vwCl (ct cL cZ) [.ref (Q 2), .int p0, .int p1, .int p2] (cw cL cZ Q A z) sz) (qXi G vwCl (ct cL cZ) (cw cL cZ Q A z) sz (cw cL cZ Q) O0) (xX G vwCl (ct cL cZ) (cw cL cZ Q A z) sz (cw cL cZ Q) O0) 6 (6 + c0) (va_A (cw cL cZ Q A z) sz) := by
  refine gMetx (by decide) rfl (Nat.le_of_ble_eq_true rfl) ?_
  intro p e s m below meth c ls C hE hK hP hD hT hsz hl
  subst hsz
  obtain ⟨hx, hb, hr, hml, hown, hts, hlocks⟩ := id C
  have FX : CallFix p m c cX2_partOf 8 s _ vX2_partOf RX2 := ⟨hx, hb, hml, hown, hts⟩
  have hA : ∀ q9 : Nat, s.heap.size ≤ q9 → va_A (cw cL cZ Q A z) s.heap.size q9 := fun q9 h => Or.inr h
  have hS : va_S (va_A (cw cL cZ Q A z) s.heap.size) s.heap s.heap [] := va_S.rf
  have hl : lv_has ls 8 [(0, .ref (Q 2)), (1, .int p0), (2, .int p1), (3, .int p2)] := hl
  unfold tx_partOf at hf
  refine lv_iload_n hx hb dX2_partOf_0 rfl (lv_at hl 3 rfl) ?_
  refine lv_iload_n hx hb dX2_partOf_1 rfl (lv_at hl 2 rfl) ?_
  refine lv_isub hx hb dX2_partOf_2 ?_
  refine lv_istore (lv' := [(4, .int (p2 - p1)), (0, .ref (Q 2)), (1, .int p0), (2, .int p1), (3, .int p2)]) hx hb dX2_partOf_3 hl (by decide) rfl (fun ls hl => ?_)
  refine lv_aload_n hx hb dX2_partOf_5 rfl (lv_at hl 1 rfl) ?_
  refine va_get (D := G) (ci := 2) (v := .ref (Q 1)) (C := RX2) (T := TX2) (N := 1) hx hb hts (fun w h => .tail _ (wl_X2 w h)) hown hK hP 2 rfl rfl 0 (by decide) (hts _ (.tail _ wd_114)) (fun _ h9 => h9) rfl dX2_partOf_6 ?_
  refine lv_iconst (v := 3) hx hb dX2_partOf_9 (by decide) ?_
  refine lv_iload hx hb dX2_partOf_10 (lv_at hl 0 rfl) ?_
  rcases of_bcwt hf with ⟨k1, z1, e9, ho1, hj⟩ | ⟨k1, z1, r1, d1, ho1, hf, ek1⟩
  · obtain ⟨hc0, hj⟩ := of_pair hj
    subst hj
    exact goutXX (gVx FX [.int 3, .int (p2 - p1)] (c_hp_claim l hl0 G cL cZ Q A z _ 3 (p2 - p1) k1 _ ho1) (cwV 2 hts (gi_V wd_148 wd_149 wd_150 wd_7 wd_151) rfl rfl rfl hdV_X0_claim ⟨Nat.le_of_ble_eq_true rfl, Nat.le_of_ble_eq_true rfl⟩) hK hP hD hT hS hA 1 rfl rfl rfl hl.1 (Nat.le_of_ble_eq_true rfl) dX2_partOf_12 ⟨by show _ ≤ 6; omega, by show _ ≤ 6 + c0; omega⟩) (noXi) hS hD hK hE hlocks (by omega) (by omega)
  refine gcXi (gVx FX [.int 3, .int (p2 - p1)] (c_hp_claim l hl0 G cL cZ Q A z _ 3 (p2 - p1) k1 _ ho1) (cwV 2 hts (gi_V wd_148 wd_149 wd_150 wd_7 wd_151) rfl rfl rfl hdV_X0_claim ⟨Nat.le_of_ble_eq_true rfl, Nat.le_of_ble_eq_true rfl⟩) hK hP hD hT hS hA 1 rfl rfl rfl hl.1 (Nat.le_of_ble_eq_true rfl) dX2_partOf_12 ⟨by show _ ≤ 6; omega, by show _ ≤ 6 + c0; omega⟩) hS hD hA (fun A H locs hP hD hS => ?_)
  refine lv_istore (lv' := [(5, .int r1), (4, .int (p2 - p1)), (0, .ref (Q 2)), (1, .int p0), (2, .int p1), (3, .int p2)]) hx hb dX2_partOf_15 hl (by decide) rfl (fun ls hl => ?_)
  refine lv_iconst (v := 0) hx hb dX2_partOf_17 (by decide) ?_
  refine lv_istore (lv' := [(6, .int 0), (5, .int r1), (4, .int (p2 - p1)), (0, .ref (Q 2)), (1, .int p0), (2, .int p1), (3, .int p2)]) hx hb dX2_partOf_18 hl (by decide) rfl (fun ls hl => ?_)
  exact L_tx_partOf_l20 _ _ _ _ _ _ _ _ _ _ _ _ _ _ _ _ _ C hl0 hE hT hK FU _ _ _ _ _ _ _ _ _ _ _ _ _ hP hD hS (lv_sub hl [3, 4, 5, 2, 1, 0] rfl) hf (by omega) (by omega)
set_option maxHeartbeats 4000000 in
set_option maxRecDepth 100000 in
theorem c_mp_setField (l : Launch) (G : va_G) (cL cZ : ClassId) (Q : Nat → Nat) (A : Nat → Nat) (z : Hs) (sz : Nat) (p0 : Int32) (p1 : Int32) (p2 : Int32) (O0 : Hs × Unit) (hf : mp_setField z p0 p1 p2 = some O0) : Met l yX1_setField vX1_setField { frames := 1, cells := 0, slots := 0, locals := 23 } (gPc G vwCl (ct cL cZ) [.ref (Q 3), .int p0, .int p1, .int p2] (cw cL cZ Q A z) sz) (qWv G vwCl (ct cL cZ) (cw cL cZ Q A z) sz (cw cL cZ Q) O0) 0 0 (va_A (cw cL cZ Q A z) sz) := by
  refine gMet (by decide) rfl (Nat.le_of_ble_eq_true rfl) ?_
  intro p e s m below meth c ls C hK hP hD hsz hl
  subst hsz
  obtain ⟨hx, hb, hr, hml, hown, hts, hlocks⟩ := id C
  have FX : CallFix p m c cX1_setField 4 s _ vX1_setField RX1 := ⟨hx, hb, hml, hown, hts⟩
  have hA : ∀ q9 : Nat, s.heap.size ≤ q9 → va_A (cw cL cZ Q A z) s.heap.size q9 := fun q9 h => Or.inr h
  have hS : va_S (va_A (cw cL cZ Q A z) s.heap.size) s.heap s.heap [] := va_S.rf
  have hl : lv_has ls 4 [(0, .ref (Q 3)), (1, .int p0), (2, .int p1), (3, .int p2)] := hl
  unfold mp_setField at hf
  refine lv_aload_n hx hb dX1_setField_0 rfl (lv_at hl 0 rfl) ?_
  refine va_get (D := G) (ci := 1) (v := .ref (Q 1)) (C := RX1) (T := TX1) (N := 2) hx hb hts (fun w h => .tail _ (wl_X1 w h)) hown hK hP 3 rfl rfl 0 (by decide) (hts _ (.tail _ wd_159)) (fun _ h9 => h9) rfl dX1_setField_1 ?_
  refine lv_aload_n hx hb dX1_setField_4 rfl (lv_at hl 0 rfl) ?_
  refine va_get (D := G) (ci := 1) (v := .ref (Q 1)) (C := RX1) (T := TX1) (N := 2) hx hb hts (fun w h => .tail _ (wl_X1 w h)) hown hK hP 3 rfl rfl 0 (by decide) (hts _ (.tail _ wd_159)) (fun _ h9 => h9) rfl dX1_setField_5 ?_
  refine lv_iload_n hx hb dX1_setField_8 rfl (lv_at hl 1 rfl) ?_
  obtain ⟨r1, ho1, hf⟩ := of_b0 hf
  refine gcRi (gV FX [.int p0] (c_hp_first l G cL cZ Q A z _ p0 _ ho1) (cwV 1 hts (gi_V wd_161 wd_65 wd_66 wd_7 wd_67) rfl rfl rfl hdV_X0_first ⟨Nat.le_of_ble_eq_true rfl, Nat.le_of_ble_eq_true rfl⟩) hK hP hD 1 rfl rfl rfl hl.1 (Nat.le_of_ble_eq_true rfl) dX1_setField_9 ⟨by show _ ≤ 0; omega, by show _ ≤ 0; omega⟩) hS hD hA (fun H locs hP hS => ?_)
  refine lv_iload_n hx hb dX1_setField_12 rfl (lv_at hl 2 rfl) ?_
  refine lv_iadd hx hb dX1_setField_13 ?_
  refine lv_iload_n hx hb dX1_setField_14 rfl (lv_at hl 3 rfl) ?_
  refine lv_i2l hx hb dX1_setField_15 rfl ?_
  obtain ⟨z2, o9, ho2, hf⟩ := of_bw hf
  refine gcWv (gV FX [.int (r1 + p1), .long (p2.toInt64)] (c_hp_setNumber l G cL cZ Q A z _ (r1 + p1) (p2.toInt64) _ ho2) (cwV 2 hts (gi_V wd_160 wd_127 wd_128 wd_7 wd_129) rfl rfl rfl hdV_X0_setNumber ⟨Nat.le_of_ble_eq_true rfl, Nat.le_of_ble_eq_true rfl⟩) hK hP hD 1 rfl rfl rfl hl.1 (Nat.le_of_ble_eq_true rfl) dX1_setField_16 ⟨by show _ ≤ 0; omega, by show _ ≤ 0; omega⟩) hS hD hA (fun A H locs hP hD hS => ?_)
  obtain rfl := Option.some.inj hf
  exact grWv hx hb hr hlocks hP hK hD hS dX1_setField_19 (by omega) (by omega)
set_option maxHeartbeats 4000000 in
set_option maxRecDepth 100000 in
theorem c_mp_field (l : Launch) (G : va_G) (cL cZ : ClassId) (Q : Nat → Nat) (A : Nat → Nat) (z : Hs) (sz : Nat) (p0 : Int32) (p1 : Int32) (O0 : Int32) (hf : mp_field z p0 p1 = some O0) : Met l yX1_field vX1_field { frames := 1, cells := 0, slots := 0, locals := 21 } (gPc G vwCl (ct cL cZ) [.ref (Q 3), .int p0, .int p1] (cw cL cZ Q A z) sz) (qRi G vwCl (ct cL cZ) (cw cL cZ Q A z) sz O0) 0 0 (va_A (cw cL cZ Q A z) sz) := by
  refine gMet (by decide) rfl (Nat.le_of_ble_eq_true rfl) ?_
  intro p e s m below meth c ls C hK hP hD hsz hl
  subst hsz
  obtain ⟨hx, hb, hr, hml, hown, hts, hlocks⟩ := id C
  have FX : CallFix p m c cX1_field 3 s _ vX1_field RX1 := ⟨hx, hb, hml, hown, hts⟩
  have hA : ∀ q9 : Nat, s.heap.size ≤ q9 → va_A (cw cL cZ Q A z) s.heap.size q9 := fun q9 h => Or.inr h
  have hS : va_S (va_A (cw cL cZ Q A z) s.heap.size) s.heap s.heap [] := va_S.rf
  have hl : lv_has ls 3 [(0, .ref (Q 3)), (1, .int p0), (2, .int p1)] := hl
  unfold mp_field at hf
  refine lv_aload_n hx hb dX1_field_0 rfl (lv_at hl 0 rfl) ?_
  refine va_get (D := G) (ci := 1) (v := .ref (Q 1)) (C := RX1) (T := TX1) (N := 2) hx hb hts (fun w h => .tail _ (wl_X1 w h)) hown hK hP 3 rfl rfl 0 (by decide) (hts _ (.tail _ wd_159)) (fun _ h9 => h9) rfl dX1_field_1 ?_
  refine lv_aload_n hx hb dX1_field_4 rfl (lv_at hl 0 rfl) ?_
  refine va_get (D := G) (ci := 1) (v := .ref (Q 1)) (C := RX1) (T := TX1) (N := 2) hx hb hts (fun w h => .tail _ (wl_X1 w h)) hown hK hP 3 rfl rfl 0 (by decide) (hts _ (.tail _ wd_159)) (fun _ h9 => h9) rfl dX1_field_5 ?_
  refine lv_iload_n hx hb dX1_field_8 rfl (lv_at hl 1 rfl) ?_
  obtain ⟨r1, ho1, hf⟩ := of_b0 hf
  refine gcRi (gV FX [.int p0] (c_hp_first l G cL cZ Q A z _ p0 _ ho1) (cwV 1 hts (gi_V wd_161 wd_65 wd_66 wd_7 wd_67) rfl rfl rfl hdV_X0_first ⟨Nat.le_of_ble_eq_true rfl, Nat.le_of_ble_eq_true rfl⟩) hK hP hD 1 rfl rfl rfl hl.1 (Nat.le_of_ble_eq_true rfl) dX1_field_9 ⟨by show _ ≤ 0; omega, by show _ ≤ 0; omega⟩) hS hD hA (fun H locs hP hS => ?_)
  refine lv_iload_n hx hb dX1_field_12 rfl (lv_at hl 2 rfl) ?_
  refine lv_iadd hx hb dX1_field_13 ?_
  obtain ⟨r2, ho2, hf⟩ := of_b0 hf
  refine gcRl (gV FX [.int (r1 + p1)] (c_hp_bitsAt l G cL cZ Q A z _ (r1 + p1) _ ho2) (cwV 1 hts (gi_V wd_162 wd_120 wd_121 wd_7 wd_122) rfl rfl rfl hdV_X0_bitsAt ⟨Nat.le_of_ble_eq_true rfl, Nat.le_of_ble_eq_true rfl⟩) hK hP hD 1 rfl rfl rfl hl.1 (Nat.le_of_ble_eq_true rfl) dX1_field_14 ⟨by show _ ≤ 0; omega, by show _ ≤ 0; omega⟩) hS hD hA (fun H locs hP hS => ?_)
  refine lv_l2i hx hb dX1_field_17 rfl ?_
  obtain rfl := Option.some.inj hf
  exact grRi hx hb hr hlocks hP hK hD hS dX1_field_18 (by omega) (by omega)
set_option maxHeartbeats 4000000 in
set_option maxRecDepth 100000 in
theorem c_mp_useTable (l : Launch) (G : va_G) (cL cZ : ClassId) (Q : Nat → Nat) (A : Nat → Nat) (z : Hs) (sz : Nat) (p0 : Int32) (p1 : Int32) (p2 : Int32) (O0 : Hs × Unit) (hf : mp_useTable z p0 p1 p2 = some O0) : Met l yX1_useTable vX1_useTable { frames := 2, cells := 0, slots := 0, locals := 46 } (gPc G vwCl (ct cL cZ) [.ref (Q 3), .int p0, .int p1, .int p2] (cw cL cZ Q A z) sz) (qWv G vwCl (ct cL cZ) (cw cL cZ Q A z) sz (cw cL cZ Q) O0) 0 0 (va_A (cw cL cZ Q A z) sz) := by
  refine gMet (by decide) rfl (Nat.le_of_ble_eq_true rfl) ?_
  intro p e s m below meth c ls C hK hP hD hsz hl
  subst hsz
  obtain ⟨hx, hb, hr, hml, hown, hts, hlocks⟩ := id C
  have FX : CallFix p m c cX1_useTable 5 s _ vX1_useTable RX1 := ⟨hx, hb, hml, hown, hts⟩
  have hA : ∀ q9 : Nat, s.heap.size ≤ q9 → va_A (cw cL cZ Q A z) s.heap.size q9 := fun q9 h => Or.inr h
  have hS : va_S (va_A (cw cL cZ Q A z) s.heap.size) s.heap s.heap [] := va_S.rf
  have hl : lv_has ls 5 [(0, .ref (Q 3)), (1, .int p0), (2, .int p1), (3, .int p2)] := hl
  unfold mp_useTable at hf
  refine lv_aload_n hx hb dX1_useTable_0 rfl (lv_at hl 0 rfl) ?_
  refine va_get (D := G) (ci := 1) (v := .ref (Q 1)) (C := RX1) (T := TX1) (N := 2) hx hb hts (fun w h => .tail _ (wl_X1 w h)) hown hK hP 3 rfl rfl 0 (by decide) (hts _ (.tail _ wd_159)) (fun _ h9 => h9) rfl dX1_useTable_1 ?_
  refine lv_aload_n hx hb dX1_useTable_4 rfl (lv_at hl 0 rfl) ?_
  refine va_get (D := G) (ci := 1) (v := .ref (Q 1)) (C := RX1) (T := TX1) (N := 2) hx hb hts (fun w h => .tail _ (wl_X1 w h)) hown hK hP 3 rfl rfl 0 (by decide) (hts _ (.tail _ wd_159)) (fun _ h9 => h9) rfl dX1_useTable_5 ?_
  refine lv_iload_n hx hb dX1_useTable_8 rfl (lv_at hl 1 rfl) ?_
  obtain ⟨r1, ho1, hf⟩ := of_b0 hf
  refine gcRi (gV FX [.int p0] (c_hp_first l G cL cZ Q A z _ p0 _ ho1) (cwV 1 hts (gi_V wd_161 wd_65 wd_66 wd_7 wd_67) rfl rfl rfl hdV_X0_first ⟨Nat.le_of_ble_eq_true rfl, Nat.le_of_ble_eq_true rfl⟩) hK hP hD 1 rfl rfl rfl hl.1 (Nat.le_of_ble_eq_true rfl) dX1_useTable_9 ⟨by show _ ≤ 0; omega, by show _ ≤ 0; omega⟩) hS hD hA (fun H locs hP hS => ?_)
  refine lv_iconst (v := 0) hx hb dX1_useTable_12 (by decide) ?_
  refine lv_iadd hx hb dX1_useTable_13 ?_
  refine lv_iload_n hx hb dX1_useTable_14 rfl (lv_at hl 2 rfl) ?_
  refine lv_iconst (v := 0) hx hb dX1_useTable_15 (by decide) ?_
  obtain ⟨z2, o9, ho2, hf⟩ := of_bw hf
  refine gcWv (gV FX [.int (r1 + 0), .int p1, .int 0] (c_hp_setReference l G cL cZ Q A z _ (r1 + 0) p1 0 _ ho2) (cwV 3 hts (gi_V wd_172 wd_173 wd_174 wd_7 wd_175) rfl rfl rfl hdV_X0_setReference ⟨Nat.le_of_ble_eq_true rfl, Nat.le_of_ble_eq_true rfl⟩) hK hP hD 1 rfl rfl rfl hl.1 (Nat.le_of_ble_eq_true rfl) dX1_useTable_16 ⟨by show _ ≤ 0; omega, by show _ ≤ 0; omega⟩) hS hD hA (fun A H locs hP hD hS => ?_)
  refine lv_aload_n hx hb dX1_useTable_19 rfl (lv_at hl 0 rfl) ?_
  refine lv_iload_n hx hb dX1_useTable_20 rfl (lv_at hl 1 rfl) ?_
  refine lv_iconst (v := 1) hx hb dX1_useTable_21 (by decide) ?_
  obtain ⟨r3, ho3, hf⟩ := of_b0 hf
  refine gcRi (gV FX [.int p0, .int 1] (c_mp_field l G cL cZ Q A z2 _ p0 1 _ ho3) (cwV 2 hts (gi_V wd_168 wd_169 wd_170 wd_166 wd_171) rfl rfl rfl hdV_X1_field ⟨Nat.le_of_ble_eq_true rfl, Nat.le_of_ble_eq_true rfl⟩) hK hP hD 3 rfl rfl rfl hl.1 (Nat.le_of_ble_eq_true rfl) dX1_useTable_22 ⟨by show _ ≤ 0; omega, by show _ ≤ 0; omega⟩) hS hD hA (fun H locs hP hS => ?_)
  refine lv_sipush (v := 1023) hx hb dX1_useTable_25 (by decide) ?_
  refine lv_iand hx hb dX1_useTable_28 ?_
  refine lv_istore (lv' := [(4, .int (r3 &&& 1023)), (0, .ref (Q 3)), (1, .int p0), (2, .int p1), (3, .int p2)]) hx hb dX1_useTable_29 hl (by decide) rfl (fun ls hl => ?_)
  refine lv_aload_n hx hb dX1_useTable_31 rfl (lv_at hl 1 rfl) ?_
  refine lv_iload_n hx hb dX1_useTable_32 rfl (lv_at hl 2 rfl) ?_
  refine lv_iconst (v := 1) hx hb dX1_useTable_33 (by decide) ?_
  refine lv_iload hx hb dX1_useTable_34 (lv_at hl 0 rfl) ?_
  refine lv_iload_n hx hb dX1_useTable_36 rfl (lv_at hl 4 rfl) ?_
  refine lv_bipush (v := 10) hx hb dX1_useTable_37 (by decide) ?_
  refine lv_ishl hx hb dX1_useTable_39 ?_
  refine lv_ior hx hb dX1_useTable_40 ?_
  obtain ⟨z4, o9, ho4, hf⟩ := of_bw hf
  refine gcWv (gV FX [.int p0, .int 1, .int ((r3 &&& 1023) ||| (p2 <<< ((10 : Int32) &&& 31)))] (c_mp_setField l G cL cZ Q A z2 _ p0 1 ((r3 &&& 1023) ||| (p2 <<< ((10 : Int32) &&& 31))) _ ho4) (cwV 3 hts (gi_V wd_163 wd_164 wd_165 wd_166 wd_167) rfl rfl rfl hdV_X1_setField ⟨Nat.le_of_ble_eq_true rfl, Nat.le_of_ble_eq_true rfl⟩) hK hP hD 3 rfl rfl rfl hl.1 (Nat.le_of_ble_eq_true rfl) dX1_useTable_41 ⟨by show _ ≤ 0; omega, by show _ ≤ 0; omega⟩) hS hD hA (fun A H locs hP hD hS => ?_)
  obtain rfl := Option.some.inj hf
  exact grWv hx hb hr hlocks hP hK hD hS dX1_useTable_44 (by omega) (by omega)
set_option maxHeartbeats 4000000 in
set_option maxRecDepth 100000 in
theorem c_mp_newMap (l : Launch) (hl0 : l.stackTraces = false) (G : va_G) (cL cZ : ClassId) (Q : Nat → Nat) (A : Nat → Nat) (z : Hs) (sz : Nat) (p0 : Int32) (p1 : Int32) (p2 : Int32) (c0 : Nat) (O0 : Hs × (String ⊕ Int32)) (hf : mp_newMap z p0 p1 p2 = some (c0, O0)) : vx_Met l yX1_newMap vX1_newMap { frames := 9, cells := 11, slots := 6 + c0, locals := 221 } (gPx txC G vwCl (ct cL cZ) [.ref (Q 3), .int p0, .int p1, .int p2] (cw cL cZ Q A z) sz) (qXi G vwCl (ct cL cZ) (cw cL cZ Q A z) sz (cw cL cZ Q) O0) (xX G vwCl (ct cL cZ) (cw cL cZ Q A z) sz (cw cL cZ Q) O0) 11 (6 + c0) (va_A (cw cL cZ Q A z) sz) := by
  refine gMetx (by decide) rfl (Nat.le_of_ble_eq_true rfl) ?_
  intro p e s m below meth c ls C hE hK hP hD hT hsz hl
  subst hsz
  obtain ⟨hx, hb, hr, hml, hown, hts, hlocks⟩ := id C
  have FX : CallFix p m c cX1_newMap 6 s _ vX1_newMap RX1 := ⟨hx, hb, hml, hown, hts⟩
  have hA : ∀ q9 : Nat, s.heap.size ≤ q9 → va_A (cw cL cZ Q A z) s.heap.size q9 := fun q9 h => Or.inr h
  have hS : va_S (va_A (cw cL cZ Q A z) s.heap.size) s.heap s.heap [] := va_S.rf
  have hl : lv_has ls 6 [(0, .ref (Q 3)), (1, .int p0), (2, .int p1), (3, .int p2)] := hl
  unfold mp_newMap at hf
  refine lv_bipush (v := 8) hx hb dX1_newMap_0 (by decide) ?_
  refine lv_iconst (v := 3) hx hb dX1_newMap_2 (by decide) ?_
  refine lv_iload_n hx hb dX1_newMap_3 rfl (lv_at hl 1 rfl) ?_
  refine lv_iadd hx hb dX1_newMap_4 ?_
  refine lv_iload_n hx hb dX1_newMap_5 rfl (lv_at hl 2 rfl) ?_
  refine lv_iadd hx hb dX1_newMap_6 ?_
  refine lv_imul hx hb dX1_newMap_7 ?_
  refine lv_istore (lv' := [(4, .int (8 * ((3 + p0) + p1))), (0, .ref (Q 3)), (1, .int p0), (2, .int p1), (3, .int p2)]) hx hb dX1_newMap_8 hl (by decide) rfl (fun ls hl => ?_)
  refine lv_aload_n hx hb dX1_newMap_10 rfl (lv_at hl 1 rfl) ?_
  refine va_get (D := G) (ci := 1) (v := .ref (Q 1)) (C := RX1) (T := TX1) (N := 2) hx hb hts (fun w h => .tail _ (wl_X1 w h)) hown hK hP 3 rfl rfl 0 (by decide) (hts _ (.tail _ wd_159)) (fun _ h9 => h9) rfl dX1_newMap_11 ?_
  refine lv_bipush (v := 7) hx hb dX1_newMap_14 (by decide) ?_
  refine lv_iload hx hb dX1_newMap_16 (lv_at hl 0 rfl) ?_
  refine lv_iadd hx hb dX1_newMap_18 ?_
  rcases of_bwt hf with ⟨z1, e9, ho1, hj⟩ | ⟨z1, o9, ho1, hf⟩
  · obtain ⟨hc0, hj⟩ := of_pair hj
    subst hj
    exact goutXX (gVx FX [.int (7 + (8 * ((3 + p0) + p1)))] (c_hp_needRoom l hl0 G cL cZ Q A z _ (7 + (8 * ((3 + p0) + p1))) _ ho1) (cwV 1 hts (gi_V wd_181 wd_109 wd_110 wd_7 wd_111) rfl rfl rfl hdV_X0_needRoom ⟨Nat.le_of_ble_eq_true rfl, Nat.le_of_ble_eq_true rfl⟩) hK hP hD hT hS hA 1 rfl rfl rfl hl.1 (Nat.le_of_ble_eq_true rfl) dX1_newMap_19 ⟨by show _ ≤ 11; omega, by show _ ≤ 6 + c0; omega⟩) (noXv) hS hD hK hE hlocks (by omega) (by omega)
  refine gcXv (gVx FX [.int (7 + (8 * ((3 + p0) + p1)))] (c_hp_needRoom l hl0 G cL cZ Q A z _ (7 + (8 * ((3 + p0) + p1))) _ ho1) (cwV 1 hts (gi_V wd_181 wd_109 wd_110 wd_7 wd_111) rfl rfl rfl hdV_X0_needRoom ⟨Nat.le_of_ble_eq_true rfl, Nat.le_of_ble_eq_true rfl⟩) hK hP hD hT hS hA 1 rfl rfl rfl hl.1 (Nat.le_of_ble_eq_true rfl) dX1_newMap_19 ⟨by show _ ≤ 11; omega, by show _ ≤ 6 + c0; omega⟩) hS hD hA (fun A H locs hP hD hS => ?_)
  refine lv_aload_n hx hb dX1_newMap_22 rfl (lv_at hl 1 rfl) ?_
  refine va_get (D := G) (ci := 1) (v := .ref (Q 1)) (C := RX1) (T := TX1) (N := 2) hx hb hts (fun w h => .tail _ (wl_X1 w h)) hown hK hP 3 rfl rfl 0 (by decide) (hts _ (.tail _ wd_159)) (fun _ h9 => h9) rfl dX1_newMap_23 ?_
  refine lv_iconst (v := 4) hx hb dX1_newMap_26 (by decide) ?_
  refine lv_iconst (v := 5) hx hb dX1_newMap_27 (by decide) ?_
  obtain ⟨k2, z2, r2, d2, ho2, hf, ek2⟩ := of_bcw hf
  refine gcWi (gV FX [.int 4, .int 5] (c_hp_place l G cL cZ Q A z1 _ 4 5 k2 _ ho2) (cwV 2 hts (gi_V wd_180 wd_105 wd_106 wd_7 wd_107) rfl rfl rfl hdV_X0_place ⟨Nat.le_of_ble_eq_true rfl, Nat.le_of_ble_eq_true rfl⟩) hK hP hD 1 rfl rfl rfl hl.1 (Nat.le_of_ble_eq_true rfl) dX1_newMap_28 ⟨by show _ ≤ 11; omega, by show _ ≤ 6 + c0; omega⟩) hS hD hA (fun A H locs hP hD hS => ?_)
  refine lv_istore (lv' := [(5, .int r2), (4, .int (8 * ((3 + p0) + p1))), (0, .ref (Q 3)), (1, .int p0), (2, .int p1), (3, .int p2)]) hx hb dX1_newMap_31 hl (by decide) rfl (fun ls hl => ?_)
  refine lv_aload_n hx hb dX1_newMap_33 rfl (lv_at hl 2 rfl) ?_
  refine lv_iload hx hb dX1_newMap_34 (lv_at hl 0 rfl) ?_
  refine lv_iconst (v := 1) hx hb dX1_newMap_36 (by decide) ?_
  refine lv_iload_n hx hb dX1_newMap_37 rfl (lv_at hl 3 rfl) ?_
  refine lv_iload_n hx hb dX1_newMap_38 rfl (lv_at hl 4 rfl) ?_
  refine lv_iconst (v := 3) hx hb dX1_newMap_39 (by decide) ?_
  refine lv_ishl hx hb dX1_newMap_40 ?_
  refine lv_ior hx hb dX1_newMap_41 ?_
  refine lv_iload_n hx hb dX1_newMap_42 rfl (lv_at hl 5 rfl) ?_
  refine lv_bipush (v := 6) hx hb dX1_newMap_43 (by decide) ?_
  refine lv_ishl hx hb dX1_newMap_45 ?_
  refine lv_ior hx hb dX1_newMap_46 ?_
  obtain ⟨z3, o9, ho3, hf⟩ := of_bw hf
  refine gcWv (gV FX [.int r2, .int 1, .int ((p0 ||| (p1 <<< ((3 : Int32) &&& 31))) ||| (p2 <<< ((6 : Int32) &&& 31)))] (c_mp_setField l G cL cZ Q A z2 _ r2 1 ((p0 ||| (p1 <<< ((3 : Int32) &&& 31))) ||| (p2 <<< ((6 : Int32) &&& 31))) _ ho3) (cwV 3 hts (gi_V wd_163 wd_164 wd_165 wd_166 wd_167) rfl rfl rfl hdV_X1_setField ⟨Nat.le_of_ble_eq_true rfl, Nat.le_of_ble_eq_true rfl⟩) hK hP hD 3 rfl rfl rfl hl.1 (Nat.le_of_ble_eq_true rfl) dX1_newMap_47 ⟨by show _ ≤ 11; omega, by show _ ≤ 6 + c0; omega⟩) hS hD hA (fun A H locs hP hD hS => ?_)
  refine lv_aload_n hx hb dX1_newMap_50 rfl (lv_at hl 2 rfl) ?_
  refine lv_iload hx hb dX1_newMap_51 (lv_at hl 0 rfl) ?_
  refine lv_aload_n hx hb dX1_newMap_53 rfl (lv_at hl 2 rfl) ?_
  refine va_get (D := G) (ci := 1) (v := .ref (Q 1)) (C := RX1) (T := TX1) (N := 2) hx hb hts (fun w h => .tail _ (wl_X1 w h)) hown hK hP 3 rfl rfl 0 (by decide) (hts _ (.tail _ wd_159)) (fun _ h9 => h9) rfl dX1_newMap_54 ?_
  refine lv_iconst (v := 5) hx hb dX1_newMap_57 (by decide) ?_
  refine lv_iload hx hb dX1_newMap_58 (lv_at hl 1 rfl) ?_
  obtain ⟨k4, z4, r4, d4, ho4, hf, ek4⟩ := of_bcw hf
  refine gcWi (gV FX [.int 5, .int (8 * ((3 + p0) + p1))] (c_hp_place l G cL cZ Q A z3 _ 5 (8 * ((3 + p0) + p1)) k4 _ ho4) (cwV 2 hts (gi_V wd_180 wd_105 wd_106 wd_7 wd_107) rfl rfl rfl hdV_X0_place ⟨Nat.le_of_ble_eq_true rfl, Nat.le_of_ble_eq_true rfl⟩) hK hP hD 1 rfl rfl rfl hl.1 (Nat.le_of_ble_eq_true rfl) dX1_newMap_60 ⟨by show _ ≤ 11; omega, by show _ ≤ 6 + c0; omega⟩) hS hD hA (fun A H locs hP hD hS => ?_)
  refine lv_bipush (v := 8) hx hb dX1_newMap_63 (by decide) ?_
  obtain ⟨z5, o9, ho5, hf⟩ := of_bw hf
  refine gcWv (gV FX [.int r2, .int r4, .int 8] (c_mp_useTable l G cL cZ Q A z4 _ r2 r4 8 _ ho5) (cwV 3 hts (gi_V wd_176 wd_177 wd_178 wd_166 wd_179) rfl rfl rfl hdV_X1_useTable ⟨Nat.le_of_ble_eq_true rfl, Nat.le_of_ble_eq_true rfl⟩) hK hP hD 3 rfl rfl rfl hl.1 (Nat.le_of_ble_eq_true rfl) dX1_newMap_65 ⟨by show _ ≤ 11; omega, by show _ ≤ 6 + c0; omega⟩) hS hD hA (fun A H locs hP hD hS => ?_)
  refine lv_iload hx hb dX1_newMap_68 (lv_at hl 0 rfl) ?_
  obtain ⟨hc0, hj0⟩ := of_some2 hf
  subst hj0
  exact grXi hx hb hr hlocks hP hK hD hS dX1_newMap_70 (by omega) (by omega)
set_option maxHeartbeats 4000000 in
set_option maxRecDepth 100000 in
theorem c_mp_entries (l : Launch) (G : va_G) (cL cZ : ClassId) (Q : Nat → Nat) (A : Nat → Nat) (z : Hs) (sz : Nat) (p0 : Int32) (O0 : Int32) (hf : mp_entries z p0 = some O0) : Met l yX1_entries vX1_entries { frames := 2, cells := 0, slots := 0, locals := 43 } (gPc G vwCl (ct cL cZ) [.ref (Q 3), .int p0] (cw cL cZ Q A z) sz) (qRi G vwCl (ct cL cZ) (cw cL cZ Q A z) sz O0) 0 0 (va_A (cw cL cZ Q A z) sz) := by
  refine gMet (by decide) rfl (Nat.le_of_ble_eq_true rfl) ?_
  intro p e s m below meth c ls C hK hP hD hsz hl
  subst hsz
  obtain ⟨hx, hb, hr, hml, hown, hts, hlocks⟩ := id C
  have FX : CallFix p m c cX1_entries 2 s _ vX1_entries RX1 := ⟨hx, hb, hml, hown, hts⟩
  have hA : ∀ q9 : Nat, s.heap.size ≤ q9 → va_A (cw cL cZ Q A z) s.heap.size q9 := fun q9 h => Or.inr h
  have hS : va_S (va_A (cw cL cZ Q A z) s.heap.size) s.heap s.heap [] := va_S.rf
  have hl : lv_has ls 2 [(0, .ref (Q 3)), (1, .int p0)] := hl
  unfold mp_entries at hf
  refine lv_aload_n hx hb dX1_entries_0 rfl (lv_at hl 0 rfl) ?_
  refine lv_iload_n hx hb dX1_entries_1 rfl (lv_at hl 1 rfl) ?_
  refine lv_iconst (v := 2) hx hb dX1_entries_2 (by decide) ?_
  obtain ⟨r1, ho1, hf⟩ := of_b0 hf
  refine gcRi (gV FX [.int p0, .int 2] (c_mp_field l G cL cZ Q A z _ p0 2 _ ho1) (cwV 2 hts (gi_V wd_168 wd_169 wd_170 wd_166 wd_171) rfl rfl rfl hdV_X1_field ⟨Nat.le_of_ble_eq_true rfl, Nat.le_of_ble_eq_true rfl⟩) hK hP hD 3 rfl rfl rfl hl.1 (Nat.le_of_ble_eq_true rfl) dX1_entries_3 ⟨by show _ ≤ 0; omega, by show _ ≤ 0; omega⟩) hS hD hA (fun H locs hP hS => ?_)
  obtain rfl := Option.some.inj hf
  exact grRi hx hb hr hlocks hP hK hD hS dX1_entries_6 (by omega) (by omega)
set_option maxHeartbeats 4000000 in
set_option maxRecDepth 100000 in
theorem c_mp_capacity (l : Launch) (G : va_G) (cL cZ : ClassId) (Q : Nat → Nat) (A : Nat → Nat) (z : Hs) (sz : Nat) (p0 : Int32) (O0 : Int32) (hf : mp_capacity z p0 = some O0) : Met l yX1_capacity vX1_capacity { frames := 2, cells := 0, slots := 0, locals := 43 } (gPc G vwCl (ct cL cZ) [.ref (Q 3), .int p0] (cw cL cZ Q A z) sz) (qRi G vwCl (ct cL cZ) (cw cL cZ Q A z) sz O0) 0 0 (va_A (cw cL cZ Q A z) sz) := by
  refine gMet (by decide) rfl (Nat.le_of_ble_eq_true rfl) ?_
  intro p e s m below meth c ls C hK hP hD hsz hl
  subst hsz
  obtain ⟨hx, hb, hr, hml, hown, hts, hlocks⟩ := id C
  have FX : CallFix p m c cX1_capacity 2 s _ vX1_capacity RX1 := ⟨hx, hb, hml, hown, hts⟩
  have hA : ∀ q9 : Nat, s.heap.size ≤ q9 → va_A (cw cL cZ Q A z) s.heap.size q9 := fun q9 h => Or.inr h
  have hS : va_S (va_A (cw cL cZ Q A z) s.heap.size) s.heap s.heap [] := va_S.rf
  have hl : lv_has ls 2 [(0, .ref (Q 3)), (1, .int p0)] := hl
  unfold mp_capacity at hf
  refine lv_aload_n hx hb dX1_capacity_0 rfl (lv_at hl 0 rfl) ?_
  refine lv_iload_n hx hb dX1_capacity_1 rfl (lv_at hl 1 rfl) ?_
  refine lv_iconst (v := 1) hx hb dX1_capacity_2 (by decide) ?_
  obtain ⟨r1, ho1, hf⟩ := of_b0 hf
  refine gcRi (gV FX [.int p0, .int 1] (c_mp_field l G cL cZ Q A z _ p0 1 _ ho1) (cwV 2 hts (gi_V wd_168 wd_169 wd_170 wd_166 wd_171) rfl rfl rfl hdV_X1_field ⟨Nat.le_of_ble_eq_true rfl, Nat.le_of_ble_eq_true rfl⟩) hK hP hD 3 rfl rfl rfl hl.1 (Nat.le_of_ble_eq_true rfl) dX1_capacity_3 ⟨by show _ ≤ 0; omega, by show _ ≤ 0; omega⟩) hS hD hA (fun H locs hP hS => ?_)
  refine lv_bipush (v := 10) hx hb dX1_capacity_6 (by decide) ?_
  refine lv_iushr hx hb dX1_capacity_8 rfl ?_
  obtain rfl := Option.some.inj hf
  exact grRi hx hb hr hlocks hP hK hD hS dX1_capacity_9 (by omega) (by omega)
set_option maxHeartbeats 4000000 in
set_option maxRecDepth 100000 in
theorem c_mp_entryWords (l : Launch) (G : va_G) (cL cZ : ClassId) (Q : Nat → Nat) (A : Nat → Nat) (z : Hs) (sz : Nat) (p0 : Int32) (O0 : Int32) (hf : mp_entryWords z p0 = some O0) : Met l yX1_entryWords vX1_entryWords { frames := 2, cells := 0, slots := 0, locals := 43 } (gPc G vwCl (ct cL cZ) [.ref (Q 3), .int p0] (cw cL cZ Q A z) sz) (qRi G vwCl (ct cL cZ) (cw cL cZ Q A z) sz O0) 0 0 (va_A (cw cL cZ Q A z) sz) := by
  refine gMet (by decide) rfl (Nat.le_of_ble_eq_true rfl) ?_
  intro p e s m below meth c ls C hK hP hD hsz hl
  subst hsz
  obtain ⟨hx, hb, hr, hml, hown, hts, hlocks⟩ := id C
  have FX : CallFix p m c cX1_entryWords 3 s _ vX1_entryWords RX1 := ⟨hx, hb, hml, hown, hts⟩
  have hA : ∀ q9 : Nat, s.heap.size ≤ q9 → va_A (cw cL cZ Q A z) s.heap.size q9 := fun q9 h => Or.inr h
  have hS : va_S (va_A (cw cL cZ Q A z) s.heap.size) s.heap s.heap [] := va_S.rf
  have hl : lv_has ls 3 [(0, .ref (Q 3)), (1, .int p0)] := hl
  unfold mp_entryWords at hf
  refine lv_aload_n hx hb dX1_entryWords_0 rfl (lv_at hl 0 rfl) ?_
  refine lv_iload_n hx hb dX1_entryWords_1 rfl (lv_at hl 1 rfl) ?_
  refine lv_iconst (v := 1) hx hb dX1_entryWords_2 (by decide) ?_
  obtain ⟨r1, ho1, hf⟩ := of_b0 hf
  refine gcRi (gV FX [.int p0, .int 1] (c_mp_field l G cL cZ Q A z _ p0 1 _ ho1) (cwV 2 hts (gi_V wd_168 wd_169 wd_170 wd_166 wd_171) rfl rfl rfl hdV_X1_field ⟨Nat.le_of_ble_eq_true rfl, Nat.le_of_ble_eq_true rfl⟩) hK hP hD 3 rfl rfl rfl hl.1 (Nat.le_of_ble_eq_true rfl) dX1_entryWords_3 ⟨by show _ ≤ 0; omega, by show _ ≤ 0; omega⟩) hS hD hA (fun H locs hP hS => ?_)
  refine lv_istore_n (lv' := [(2, .int r1), (0, .ref (Q 3)), (1, .int p0)]) hx hb dX1_entryWords_6 rfl hl (by decide) rfl (fun ls hl => ?_)
  refine lv_iload_n hx hb dX1_entryWords_7 rfl (lv_at hl 0 rfl) ?_
  refine lv_bipush (v := 7) hx hb dX1_entryWords_8 (by decide) ?_
  refine lv_iand hx hb dX1_entryWords_10 ?_
  refine lv_iload_n hx hb dX1_entryWords_11 rfl (lv_at hl 0 rfl) ?_
  refine lv_iconst (v := 3) hx hb dX1_entryWords_12 (by decide) ?_
  refine lv_iushr hx hb dX1_entryWords_13 rfl ?_
  refine lv_bipush (v := 7) hx hb dX1_entryWords_14 (by decide) ?_
  refine lv_iand hx hb dX1_entryWords_16 ?_
  refine lv_iadd hx hb dX1_entryWords_17 ?_
  obtain rfl := Option.some.inj hf
  exact grRi hx hb hr hlocks hP hK hD hS dX1_entryWords_18 (by omega) (by omega)
set_option maxHeartbeats 4000000 in
set_option maxRecDepth 100000 in
theorem c_mp_keyWords (l : Launch) (G : va_G) (cL cZ : ClassId) (Q : Nat → Nat) (A : Nat → Nat) (z : Hs) (sz : Nat) (p0 : Int32) (O0 : Int32) (hf : mp_keyWords z p0 = some O0) : Met l yX1_keyWords vX1_keyWords { frames := 2, cells := 0, slots := 0, locals := 43 } (gPc G vwCl (ct cL cZ) [.ref (Q 3), .int p0] (cw cL cZ Q A z) sz) (qRi G vwCl (ct cL cZ) (cw cL cZ Q A z) sz O0) 0 0 (va_A (cw cL cZ Q A z) sz) := by
  refine gMet (by decide) rfl (Nat.le_of_ble_eq_true rfl) ?_
  intro p e s m below meth c ls C hK hP hD hsz hl
  subst hsz
  obtain ⟨hx, hb, hr, hml, hown, hts, hlocks⟩ := id C
  have FX : CallFix p m c cX1_keyWords 2 s _ vX1_keyWords RX1 := ⟨hx, hb, hml, hown, hts⟩
  have hA : ∀ q9 : Nat, s.heap.size ≤ q9 → va_A (cw cL cZ Q A z) s.heap.size q9 := fun q9 h => Or.inr h
  have hS : va_S (va_A (cw cL cZ Q A z) s.heap.size) s.heap s.heap [] := va_S.rf
  have hl : lv_has ls 2 [(0, .ref (Q 3)), (1, .int p0)] := hl
  unfold mp_keyWords at hf
  refine lv_aload_n hx hb dX1_keyWords_0 rfl (lv_at hl 0 rfl) ?_
  refine lv_iload_n hx hb dX1_keyWords_1 rfl (lv_at hl 1 rfl) ?_
  refine lv_iconst (v := 1) hx hb dX1_keyWords_2 (by decide) ?_
  obtain ⟨r1, ho1, hf⟩ := of_b0 hf
  refine gcRi (gV FX [.int p0, .int 1] (c_mp_field l G cL cZ Q A z _ p0 1 _ ho1) (cwV 2 hts (gi_V wd_168 wd_169 wd_170 wd_166 wd_171) rfl rfl rfl hdV_X1_field ⟨Nat.le_of_ble_eq_true rfl, Nat.le_of_ble_eq_true rfl⟩) hK hP hD 3 rfl rfl rfl hl.1 (Nat.le_of_ble_eq_true rfl) dX1_keyWords_3 ⟨by show _ ≤ 0; omega, by show _ ≤ 0; omega⟩) hS hD hA (fun H locs hP hS => ?_)
  refine lv_bipush (v := 7) hx hb dX1_keyWords_6 (by decide) ?_
  refine lv_iand hx hb dX1_keyWords_8 ?_
  obtain rfl := Option.some.inj hf
  exact grRi hx hb hr hlocks hP hK hD hS dX1_keyWords_9 (by omega) (by omega)
set_option maxHeartbeats 4000000 in
set_option maxRecDepth 100000 in
theorem c_mp_isTextual (l : Launch) (G : va_G) (cL cZ : ClassId) (Q : Nat → Nat) (A : Nat → Nat) (z : Hs) (sz : Nat) (p0 : Int32) (p1 : Int32) (O0 : Int32) (hf : mp_isTextual z p0 p1 = some O0) : Met l yX1_isTextual vX1_isTextual { frames := 2, cells := 0, slots := 0, locals := 43 } (gPc G vwCl (ct cL cZ) [.ref (Q 3), .int p0, .int p1] (cw cL cZ Q A z) sz) (qRi G vwCl (ct cL cZ) (cw cL cZ Q A z) sz O0) 0 0 (va_A (cw cL cZ Q A z) sz) := by
  refine gMet (by decide) rfl (Nat.le_of_ble_eq_true rfl) ?_
  intro p e s m below meth c ls C hK hP hD hsz hl
  subst hsz
  obtain ⟨hx, hb, hr, hml, hown, hts, hlocks⟩ := id C
  have FX : CallFix p m c cX1_isTextual 3 s _ vX1_isTextual RX1 := ⟨hx, hb, hml, hown, hts⟩
  have hA : ∀ q9 : Nat, s.heap.size ≤ q9 → va_A (cw cL cZ Q A z) s.heap.size q9 := fun q9 h => Or.inr h
  have hS : va_S (va_A (cw cL cZ Q A z) s.heap.size) s.heap s.heap [] := va_S.rf
  have hl : lv_has ls 3 [(0, .ref (Q 3)), (1, .int p0), (2, .int p1)] := hl
  unfold mp_isTextual at hf
  refine lv_aload_n hx hb dX1_isTextual_0 rfl (lv_at hl 0 rfl) ?_
  refine lv_iload_n hx hb dX1_isTextual_1 rfl (lv_at hl 1 rfl) ?_
  refine lv_iconst (v := 1) hx hb dX1_isTextual_2 (by decide) ?_
  obtain ⟨r1, ho1, hf⟩ := of_b0 hf
  refine gcRi (gV FX [.int p0, .int 1] (c_mp_field l G cL cZ Q A z _ p0 1 _ ho1) (cwV 2 hts (gi_V wd_168 wd_169 wd_170 wd_166 wd_171) rfl rfl rfl hdV_X1_field ⟨Nat.le_of_ble_eq_true rfl, Nat.le_of_ble_eq_true rfl⟩) hK hP hD 3 rfl rfl rfl hl.1 (Nat.le_of_ble_eq_true rfl) dX1_isTextual_3 ⟨by show _ ≤ 0; omega, by show _ ≤ 0; omega⟩) hS hD hA (fun H locs hP hS => ?_)
  refine lv_bipush (v := 6) hx hb dX1_isTextual_6 (by decide) ?_
  refine lv_iload_n hx hb dX1_isTextual_8 rfl (lv_at hl 2 rfl) ?_
  refine lv_iadd hx hb dX1_isTextual_9 ?_
  refine lv_iushr hx hb dX1_isTextual_10 rfl ?_
  refine lv_iconst (v := 1) hx hb dX1_isTextual_11 (by decide) ?_
  refine lv_iand hx hb dX1_isTextual_12 ?_
  refine lv_if_eq (tgt := 20) hx hb dX1_isTextual_13 (by decide) (fun c2 => ?_) (fun c2 => ?_)
  · have hf := (if_pos c2).symm.trans hf
    refine lv_iconst (v := 0) hx hb dX1_isTextual_20 (by decide) ?_
    obtain rfl := Option.some.inj hf
    exact grRz (by decide) hx hb hr hlocks hP hK hD hS dX1_isTextual_21 (by omega) (by omega)
  · have hf := (if_neg c2).symm.trans hf
    refine lv_iconst (v := 1) hx hb dX1_isTextual_16 (by decide) ?_
    refine lv_goto (tgt := 21) hx hb dX1_isTextual_17 (by decide) ?_
    obtain rfl := Option.some.inj hf
    exact grRz (by decide) hx hb hr hlocks hP hK hD hS dX1_isTextual_21 (by omega) (by omega)
def At_mp_hasTextualKey_l2 (l : Launch) (G : va_G) (cL cZ : ClassId) (Q : Nat → Nat) (A : Nat → Nat) (z : Hs) (p : Program) (e : Env) (s : State) (m : MethodId) (args : Array Value) (below : List Frame) (meth : Method) (c : Code) (O0 : Int32) (mcT msT : Nat) (F : Int32 → Int32 → Int32 → Hs → Option (Int32)) : Prop := ∀ (x1 : Int32) (x2 : Int32) (x3 : Int32) (H : Heap) (locs : List Loc) (ls : Array Slot) (cells slots : Nat), va_P G vwCl (cw cL cZ Q A z) H → va_D (va_A (cw cL cZ Q A z) s.heap.size) (cw cL cZ Q A z) → va_S (va_A (cw cL cZ Q A z) s.heap.size) s.heap H locs → lv_has ls 5 [(0, .ref (Q 3)), (1, .int x1), (2, .int x2), (3, .int x3)] → F x1 x2 x3 z = some O0 → cells + 0 ≤ mcT → slots + 0 ≤ msT → W p l e { frames := 3, cells := mcT, slots := msT, locals := 65 } s m args below meth c H locs cells slots (MQ below (qRi G vwCl (ct cL cZ) (cw cL cZ Q A z) s.heap.size O0) args s mcT msT (va_A (cw cL cZ Q A z) s.heap.size)) (F0 m 2 ls [])
set_option maxHeartbeats 4000000 in
set_option maxRecDepth 100000 in
theorem L_mp_hasTextualKey_l2 (l : Launch) (G : va_G) (cL cZ : ClassId) (Q : Nat → Nat) (A : Nat → Nat) (z : Hs) (p : Program) (e : Env) (s : State) (m : MethodId) (args : Array Value) (below : List Frame) (meth : Method) (c : Code) (O0 : Int32) (mcT msT : Nat) (C : MC p s m args meth c cX1_hasTextualKey 5 (some .boolean) RX1 vX1_hasTextualKey) (hK : va_K G vwCl (ct cL cZ) s) : ∀ n : Nat, At_mp_hasTextualKey_l2 l G cL cZ Q A z p e s m args below meth c O0 mcT msT (mp_hasTextualKey_l2 n) := by
  obtain ⟨hx, hb, hr, hml, hown, hts, hlocks⟩ := id C
  have FX : CallFix p m c cX1_hasTextualKey 5 s args vX1_hasTextualKey RX1 := ⟨hx, hb, hml, hown, hts⟩
  have hA : ∀ q9 : Nat, s.heap.size ≤ q9 → va_A (cw cL cZ Q A z) s.heap.size q9 := fun q9 h => Or.inr h
  intro n
  induction n with
  | zero =>
    intro x1 x2 x3 H locs ls cells slots hP hD hS hl hf hcc hss
    exact nomatch (show none = some _ from hf)
  | succ n ih =>
    intro x1 x2 x3 H locs ls cells slots hP hD hS hl hf hcc hss
    rw [mp_hasTextualKey_l2] at hf
    refine lv_iload_n hx hb dX1_hasTextualKey_2 rfl (lv_at hl 3 rfl) ?_
    refine lv_aload_n hx hb dX1_hasTextualKey_3 rfl (lv_at hl 0 rfl) ?_
    refine lv_iload_n hx hb dX1_hasTextualKey_4 rfl (lv_at hl 1 rfl) ?_
    obtain ⟨r1, ho1, hf⟩ := of_b0 hf
    refine gcRi (gV FX [.int x1] (c_mp_keyWords l G cL cZ Q A z _ x1 _ ho1) (cwV 1 hts (gi_V wd_190 wd_191 wd_192 wd_166 wd_193) rfl rfl rfl hdV_X1_keyWords ⟨Nat.le_of_ble_eq_true rfl, Nat.le_of_ble_eq_true rfl⟩) hK hP hD 3 rfl rfl rfl hl.1 (Nat.le_of_ble_eq_true rfl) dX1_hasTextualKey_5 ⟨by show _ ≤ mcT; omega, by show _ ≤ msT; omega⟩) hS hD hA (fun H locs hP hS => ?_)
    refine lv_icmp_ge (tgt := 52) hx hb dX1_hasTextualKey_8 (by decide) (fun c2 => ?_) (fun c2 => ?_)
    · have hf := (if_pos c2).symm.trans hf
      refine lv_iconst (v := 1) hx hb dX1_hasTextualKey_52 (by decide) ?_
      obtain rfl := Option.some.inj hf
      exact grRz (by decide) hx hb hr hlocks hP hK hD hS dX1_hasTextualKey_53 (by omega) (by omega)
    · have hf := (if_neg c2).symm.trans hf
      refine lv_aload_n hx hb dX1_hasTextualKey_11 rfl (lv_at hl 0 rfl) ?_
      refine va_get (D := G) (ci := 1) (v := .ref (Q 1)) (C := RX1) (T := TX1) (N := 2) hx hb hts (fun w h => .tail _ (wl_X1 w h)) hown hK hP 3 rfl rfl 0 (by decide) (hts _ (.tail _ wd_159)) (fun _ h9 => h9) rfl dX1_hasTextualKey_12 ?_
      refine lv_iload_n hx hb dX1_hasTextualKey_15 rfl (lv_at hl 2 rfl) ?_
      refine lv_iload_n hx hb dX1_hasTextualKey_16 rfl (lv_at hl 3 rfl) ?_
      refine lv_iadd hx hb dX1_hasTextualKey_17 ?_
      obtain ⟨r3, ho3, hf⟩ := of_b0 hf
      refine gcRi (gV FX [.int (x2 + x3)] (c_hp_kindAt l G cL cZ Q A z _ (x2 + x3) _ ho3) (cwV 1 hts (gi_V wd_186 wd_187 wd_188 wd_7 wd_189) rfl rfl rfl hdV_X0_kindAt ⟨Nat.le_of_ble_eq_true rfl, Nat.le_of_ble_eq_true rfl⟩) hK hP hD 1 rfl rfl rfl hl.1 (Nat.le_of_ble_eq_true rfl) dX1_hasTextualKey_18 ⟨by show _ ≤ mcT; omega, by show _ ≤ msT; omega⟩) hS hD hA (fun H locs hP hS => ?_)
      refine lv_istore (lv' := [(4, .int r3), (0, .ref (Q 3)), (1, .int x1), (2, .int x2), (3, .int x3)]) hx hb dX1_hasTextualKey_21 hl (by decide) rfl (fun ls hl => ?_)
      refine lv_aload_n hx hb dX1_hasTextualKey_23 rfl (lv_at hl 1 rfl) ?_
      refine lv_iload_n hx hb dX1_hasTextualKey_24 rfl (lv_at hl 2 rfl) ?_
      refine lv_iload_n hx hb dX1_hasTextualKey_25 rfl (lv_at hl 4 rfl) ?_
      obtain ⟨r4, ho4, hf⟩ := of_b0 hf
      refine gcRi (gV FX [.int x1, .int x3] (c_mp_isTextual l G cL cZ Q A z _ x1 x3 _ ho4) (cwV 2 hts (gi_V wd_182 wd_183 wd_184 wd_166 wd_185) rfl rfl rfl hdV_X1_isTextual ⟨Nat.le_of_ble_eq_true rfl, Nat.le_of_ble_eq_true rfl⟩) hK hP hD 3 rfl rfl rfl hl.1 (Nat.le_of_ble_eq_true rfl) dX1_hasTextualKey_26 ⟨by show _ ≤ mcT; omega, by show _ ≤ msT; omega⟩) hS hD hA (fun H locs hP hS => ?_)
      refine lv_if_eq (tgt := 46) hx hb dX1_hasTextualKey_29 (by decide) (fun c5 => ?_) (fun c5 => ?_)
      · have hf := (if_pos c5).symm.trans hf
        refine lv_iinc (v := (x3 + 1)) (lv' := [(3, .int (x3 + 1)), (4, .int r3), (0, .ref (Q 3)), (1, .int x1), (2, .int x2)]) hx hb dX1_hasTextualKey_46 hl (k := 4) rfl rfl (by decide) rfl (fun ls hl => ?_)
        refine lv_goto (tgt := 2) hx hb dX1_hasTextualKey_49 (by decide) ?_
        exact ih _ _ _ _ _ _ _ _ hP hD hS (lv_sub hl [2, 3, 4, 0] rfl) hf (by omega) (by omega)
      · have hf := (if_neg c5).symm.trans hf
        refine lv_iload hx hb dX1_hasTextualKey_32 (lv_at hl 0 rfl) ?_
        refine lv_iconst (v := 3) hx hb dX1_hasTextualKey_34 (by decide) ?_
        refine lv_icmp_eq (tgt := 46) hx hb dX1_hasTextualKey_35 (by decide) (fun c6 => ?_) (fun c6 => ?_)
        · have hf := (if_pos c6).symm.trans hf
          refine lv_iinc (v := (x3 + 1)) (lv' := [(3, .int (x3 + 1)), (4, .int r3), (0, .ref (Q 3)), (1, .int x1), (2, .int x2)]) hx hb dX1_hasTextualKey_46 hl (k := 4) rfl rfl (by decide) rfl (fun ls hl => ?_)
          refine lv_goto (tgt := 2) hx hb dX1_hasTextualKey_49 (by decide) ?_
          exact ih _ _ _ _ _ _ _ _ hP hD hS (lv_sub hl [2, 3, 4, 0] rfl) hf (by omega) (by omega)
        · have hf := (if_neg c6).symm.trans hf
          refine lv_iload hx hb dX1_hasTextualKey_38 (lv_at hl 0 rfl) ?_
          refine lv_iconst (v := 1) hx hb dX1_hasTextualKey_40 (by decide) ?_
          refine lv_icmp_eq (tgt := 46) hx hb dX1_hasTextualKey_41 (by decide) (fun c7 => ?_) (fun c7 => ?_)
          · have hf := (if_pos c7).symm.trans hf
            refine lv_iinc (v := (x3 + 1)) (lv' := [(3, .int (x3 + 1)), (4, .int r3), (0, .ref (Q 3)), (1, .int x1), (2, .int x2)]) hx hb dX1_hasTextualKey_46 hl (k := 4) rfl rfl (by decide) rfl (fun ls hl => ?_)
            refine lv_goto (tgt := 2) hx hb dX1_hasTextualKey_49 (by decide) ?_
            exact ih _ _ _ _ _ _ _ _ hP hD hS (lv_sub hl [2, 3, 4, 0] rfl) hf (by omega) (by omega)
          · have hf := (if_neg c7).symm.trans hf
            refine lv_iconst (v := 0) hx hb dX1_hasTextualKey_44 (by decide) ?_
            obtain rfl := Option.some.inj hf
            exact grRz (by decide) hx hb hr hlocks hP hK hD hS dX1_hasTextualKey_45 (by omega) (by omega)
set_option maxHeartbeats 4000000 in
set_option maxRecDepth 100000 in
theorem c_mp_hasTextualKey (l : Launch) (G : va_G) (cL cZ : ClassId) (Q : Nat → Nat) (A : Nat → Nat) (z : Hs) (sz : Nat) (p0 : Int32) (p1 : Int32) (O0 : Int32) (hf : mp_hasTextualKey z p0 p1 = some O0) : Met l yX1_hasTextualKey vX1_hasTextualKey { frames := 3, cells := 0, slots := 0, locals := 65 } (gPc G vwCl (ct cL cZ) [.ref (Q 3), .int p0, .int p1] (cw cL cZ Q A z) sz) (qRi G vwCl (ct cL cZ) (cw cL cZ Q A z) sz O0) 0 0 (va_A (cw cL cZ Q A z) sz) := by
  refine gMet (by decide) rfl (Nat.le_of_ble_eq_true rfl) ?_
  intro p e s m below meth c ls C hK hP hD hsz hl
  subst hsz
  obtain ⟨hx, hb, hr, hml, hown, hts, hlocks⟩ := id C
  have FX : CallFix p m c cX1_hasTextualKey 5 s _ vX1_hasTextualKey RX1 := ⟨hx, hb, hml, hown, hts⟩
  have hA : ∀ q9 : Nat, s.heap.size ≤ q9 → va_A (cw cL cZ Q A z) s.heap.size q9 := fun q9 h => Or.inr h
  have hS : va_S (va_A (cw cL cZ Q A z) s.heap.size) s.heap s.heap [] := va_S.rf
  have hl : lv_has ls 5 [(0, .ref (Q 3)), (1, .int p0), (2, .int p1)] := hl
  unfold mp_hasTextualKey at hf
  refine lv_iconst (v := 0) hx hb dX1_hasTextualKey_0 (by decide) ?_
  refine lv_istore_n (lv' := [(3, .int 0), (0, .ref (Q 3)), (1, .int p0), (2, .int p1)]) hx hb dX1_hasTextualKey_1 rfl hl (by decide) rfl (fun ls hl => ?_)
  exact L_mp_hasTextualKey_l2 _ _ _ _ _ _ _ _ _ _ _ _ _ _ _ _ _ _ C hK FU _ _ _ _ _ _ _ _ hP hD hS (lv_sub hl [1, 2, 3, 0] rfl) hf (by omega) (by omega)
set_option maxHeartbeats 4000000 in
set_option maxRecDepth 100000 in
theorem c_mp_slotWords (l : Launch) (G : va_G) (cL cZ : ClassId) (Q : Nat → Nat) (A : Nat → Nat) (z : Hs) (sz : Nat) (p0 : Int32) (O0 : Int32) (hf : mp_slotWords z p0 = some O0) : Met l yX1_slotWords vX1_slotWords { frames := 3, cells := 0, slots := 0, locals := 65 } (gPc G vwCl (ct cL cZ) [.ref (Q 3), .int p0] (cw cL cZ Q A z) sz) (qRi G vwCl (ct cL cZ) (cw cL cZ Q A z) sz O0) 0 0 (va_A (cw cL cZ Q A z) sz) := by
  refine gMet (by decide) rfl (Nat.le_of_ble_eq_true rfl) ?_
  intro p e s m below meth c ls C hK hP hD hsz hl
  subst hsz
  obtain ⟨hx, hb, hr, hml, hown, hts, hlocks⟩ := id C
  have FX : CallFix p m c cX1_slotWords 2 s _ vX1_slotWords RX1 := ⟨hx, hb, hml, hown, hts⟩
  have hA : ∀ q9 : Nat, s.heap.size ≤ q9 → va_A (cw cL cZ Q A z) s.heap.size q9 := fun q9 h => Or.inr h
  have hS : va_S (va_A (cw cL cZ Q A z) s.heap.size) s.heap s.heap [] := va_S.rf
  have hl : lv_has ls 2 [(0, .ref (Q 3)), (1, .int p0)] := hl
  unfold mp_slotWords at hf
  refine lv_iconst (v := 3) hx hb dX1_slotWords_0 (by decide) ?_
  refine lv_aload_n hx hb dX1_slotWords_1 rfl (lv_at hl 0 rfl) ?_
  refine lv_iload_n hx hb dX1_slotWords_2 rfl (lv_at hl 1 rfl) ?_
  obtain ⟨r1, ho1, hf⟩ := of_b0 hf
  refine gcRi (gV FX [.int p0] (c_mp_entryWords l G cL cZ Q A z _ p0 _ ho1) (cwV 1 hts (gi_V wd_194 wd_195 wd_196 wd_166 wd_197) rfl rfl rfl hdV_X1_entryWords ⟨Nat.le_of_ble_eq_true rfl, Nat.le_of_ble_eq_true rfl⟩) hK hP hD 3 rfl rfl rfl hl.1 (Nat.le_of_ble_eq_true rfl) dX1_slotWords_3 ⟨by show _ ≤ 0; omega, by show _ ≤ 0; omega⟩) hS hD hA (fun H locs hP hS => ?_)
  refine lv_iadd hx hb dX1_slotWords_6 ?_
  obtain rfl := Option.some.inj hf
  exact grRi hx hb hr hlocks hP hK hD hS dX1_slotWords_7 (by omega) (by omega)
set_option maxHeartbeats 4000000 in
set_option maxRecDepth 100000 in
theorem c_mp_slotsStart (l : Launch) (G : va_G) (cL cZ : ClassId) (Q : Nat → Nat) (A : Nat → Nat) (z : Hs) (sz : Nat) (p0 : Int32) (O0 : Int32) (hf : mp_slotsStart z p0 = some O0) : Met l yX1_slotsStart vX1_slotsStart { frames := 1, cells := 0, slots := 0, locals := 21 } (gPc G vwCl (ct cL cZ) [.ref (Q 3), .int p0] (cw cL cZ Q A z) sz) (qRi G vwCl (ct cL cZ) (cw cL cZ Q A z) sz O0) 0 0 (va_A (cw cL cZ Q A z) sz) := by
  refine gMet (by decide) rfl (Nat.le_of_ble_eq_true rfl) ?_
  intro p e s m below meth c ls C hK hP hD hsz hl
  subst hsz
  obtain ⟨hx, hb, hr, hml, hown, hts, hlocks⟩ := id C
  have FX : CallFix p m c cX1_slotsStart 2 s _ vX1_slotsStart RX1 := ⟨hx, hb, hml, hown, hts⟩
  have hA : ∀ q9 : Nat, s.heap.size ≤ q9 → va_A (cw cL cZ Q A z) s.heap.size q9 := fun q9 h => Or.inr h
  have hS : va_S (va_A (cw cL cZ Q A z) s.heap.size) s.heap s.heap [] := va_S.rf
  have hl : lv_has ls 2 [(0, .ref (Q 3)), (1, .int p0)] := hl
  unfold mp_slotsStart at hf
  refine lv_aload_n hx hb dX1_slotsStart_0 rfl (lv_at hl 0 rfl) ?_
  refine va_get (D := G) (ci := 1) (v := .ref (Q 1)) (C := RX1) (T := TX1) (N := 2) hx hb hts (fun w h => .tail _ (wl_X1 w h)) hown hK hP 3 rfl rfl 0 (by decide) (hts _ (.tail _ wd_159)) (fun _ h9 => h9) rfl dX1_slotsStart_1 ?_
  refine lv_aload_n hx hb dX1_slotsStart_4 rfl (lv_at hl 0 rfl) ?_
  refine va_get (D := G) (ci := 1) (v := .ref (Q 1)) (C := RX1) (T := TX1) (N := 2) hx hb hts (fun w h => .tail _ (wl_X1 w h)) hown hK hP 3 rfl rfl 0 (by decide) (hts _ (.tail _ wd_159)) (fun _ h9 => h9) rfl dX1_slotsStart_5 ?_
  refine lv_aload_n hx hb dX1_slotsStart_8 rfl (lv_at hl 0 rfl) ?_
  refine va_get (D := G) (ci := 1) (v := .ref (Q 1)) (C := RX1) (T := TX1) (N := 2) hx hb hts (fun w h => .tail _ (wl_X1 w h)) hown hK hP 3 rfl rfl 0 (by decide) (hts _ (.tail _ wd_159)) (fun _ h9 => h9) rfl dX1_slotsStart_9 ?_
  refine lv_iload_n hx hb dX1_slotsStart_12 rfl (lv_at hl 1 rfl) ?_
  obtain ⟨r1, ho1, hf⟩ := of_b0 hf
  refine gcRi (gV FX [.int p0] (c_hp_first l G cL cZ Q A z _ p0 _ ho1) (cwV 1 hts (gi_V wd_161 wd_65 wd_66 wd_7 wd_67) rfl rfl rfl hdV_X0_first ⟨Nat.le_of_ble_eq_true rfl, Nat.le_of_ble_eq_true rfl⟩) hK hP hD 1 rfl rfl rfl hl.1 (Nat.le_of_ble_eq_true rfl) dX1_slotsStart_13 ⟨by show _ ≤ 0; omega, by show _ ≤ 0; omega⟩) hS hD hA (fun H locs hP hS => ?_)
  refine lv_iconst (v := 0) hx hb dX1_slotsStart_16 (by decide) ?_
  refine lv_iadd hx hb dX1_slotsStart_17 ?_
  obtain ⟨r2, ho2, hf⟩ := of_b0 hf
  refine gcRi (gV FX [.int (r1 + 0)] (c_hp_handleAt l G cL cZ Q A z _ (r1 + 0) _ ho2) (cwV 1 hts (gi_V wd_198 wd_14 wd_15 wd_7 wd_16) rfl rfl rfl hdV_X0_handleAt ⟨Nat.le_of_ble_eq_true rfl, Nat.le_of_ble_eq_true rfl⟩) hK hP hD 1 rfl rfl rfl hl.1 (Nat.le_of_ble_eq_true rfl) dX1_slotsStart_18 ⟨by show _ ≤ 0; omega, by show _ ≤ 0; omega⟩) hS hD hA (fun H locs hP hS => ?_)
  obtain ⟨r3, ho3, hf⟩ := of_b0 hf
  refine gcRi (gV FX [.int r2] (c_hp_first l G cL cZ Q A z _ r2 _ ho3) (cwV 1 hts (gi_V wd_161 wd_65 wd_66 wd_7 wd_67) rfl rfl rfl hdV_X0_first ⟨Nat.le_of_ble_eq_true rfl, Nat.le_of_ble_eq_true rfl⟩) hK hP hD 1 rfl rfl rfl hl.1 (Nat.le_of_ble_eq_true rfl) dX1_slotsStart_21 ⟨by show _ ≤ 0; omega, by show _ ≤ 0; omega⟩) hS hD hA (fun H locs hP hS => ?_)
  obtain rfl := Option.some.inj hf
  exact grRi hx hb hr hlocks hP hK hD hS dX1_slotsStart_24 (by omega) (by omega)
set_option maxHeartbeats 4000000 in
set_option maxRecDepth 100000 in
theorem c_mp_slotsEnd (l : Launch) (G : va_G) (cL cZ : ClassId) (Q : Nat → Nat) (A : Nat → Nat) (z : Hs) (sz : Nat) (p0 : Int32) (p1 : Int32) (O0 : Int32) (hf : mp_slotsEnd z p0 p1 = some O0) : Met l yX1_slotsEnd vX1_slotsEnd { frames := 2, cells := 0, slots := 0, locals := 43 } (gPc G vwCl (ct cL cZ) [.ref (Q 3), .int p0, .int p1] (cw cL cZ Q A z) sz) (qRi G vwCl (ct cL cZ) (cw cL cZ Q A z) sz O0) 0 0 (va_A (cw cL cZ Q A z) sz) := by
  refine gMet (by decide) rfl (Nat.le_of_ble_eq_true rfl) ?_
  intro p e s m below meth c ls C hK hP hD hsz hl
  subst hsz
  obtain ⟨hx, hb, hr, hml, hown, hts, hlocks⟩ := id C
  have FX : CallFix p m c cX1_slotsEnd 3 s _ vX1_slotsEnd RX1 := ⟨hx, hb, hml, hown, hts⟩
  have hA : ∀ q9 : Nat, s.heap.size ≤ q9 → va_A (cw cL cZ Q A z) s.heap.size q9 := fun q9 h => Or.inr h
  have hS : va_S (va_A (cw cL cZ Q A z) s.heap.size) s.heap s.heap [] := va_S.rf
  have hl : lv_has ls 3 [(0, .ref (Q 3)), (1, .int p0), (2, .int p1)] := hl
  unfold mp_slotsEnd at hf
  refine lv_aload_n hx hb dX1_slotsEnd_0 rfl (lv_at hl 0 rfl) ?_
  refine lv_iload_n hx hb dX1_slotsEnd_1 rfl (lv_at hl 1 rfl) ?_
  obtain ⟨r1, ho1, hf⟩ := of_b0 hf
  refine gcRi (gV FX [.int p0] (c_mp_slotsStart l G cL cZ Q A z _ p0 _ ho1) (cwV 1 hts (gi_V wd_199 wd_200 wd_201 wd_166 wd_202) rfl rfl rfl hdV_X1_slotsStart ⟨Nat.le_of_ble_eq_true rfl, Nat.le_of_ble_eq_true rfl⟩) hK hP hD 3 rfl rfl rfl hl.1 (Nat.le_of_ble_eq_true rfl) dX1_slotsEnd_2 ⟨by show _ ≤ 0; omega, by show _ ≤ 0; omega⟩) hS hD hA (fun H locs hP hS => ?_)
  refine lv_aload_n hx hb dX1_slotsEnd_5 rfl (lv_at hl 0 rfl) ?_
  refine lv_iload_n hx hb dX1_slotsEnd_6 rfl (lv_at hl 1 rfl) ?_
  refine lv_iconst (v := 4) hx hb dX1_slotsEnd_7 (by decide) ?_
  obtain ⟨r2, ho2, hf⟩ := of_b0 hf
  refine gcRi (gV FX [.int p0, .int 4] (c_mp_field l G cL cZ Q A z _ p0 4 _ ho2) (cwV 2 hts (gi_V wd_168 wd_169 wd_170 wd_166 wd_171) rfl rfl rfl hdV_X1_field ⟨Nat.le_of_ble_eq_true rfl, Nat.le_of_ble_eq_true rfl⟩) hK hP hD 3 rfl rfl rfl hl.1 (Nat.le_of_ble_eq_true rfl) dX1_slotsEnd_8 ⟨by show _ ≤ 0; omega, by show _ ≤ 0; omega⟩) hS hD hA (fun H locs hP hS => ?_)
  refine lv_iload_n hx hb dX1_slotsEnd_11 rfl (lv_at hl 2 rfl) ?_
  refine lv_imul hx hb dX1_slotsEnd_12 ?_
  refine lv_iadd hx hb dX1_slotsEnd_13 ?_
  obtain rfl := Option.some.inj hf
  exact grRi hx hb hr hlocks hP hK hD hS dX1_slotsEnd_14 (by omega) (by omega)
set_option maxHeartbeats 4000000 in
set_option maxRecDepth 100000 in
theorem c_mp_orderIn (l : Launch) (G : va_G) (cL cZ : ClassId) (Q : Nat → Nat) (A : Nat → Nat) (z : Hs) (sz : Nat) (p0 : Int32) (O0 : Int32) (hf : mp_orderIn z p0 = some O0) : Met l yX1_orderIn vX1_orderIn { frames := 1, cells := 0, slots := 0, locals := 21 } (gPc G vwCl (ct cL cZ) [.ref (Q 3), .int p0] (cw cL cZ Q A z) sz) (qRi G vwCl (ct cL cZ) (cw cL cZ Q A z) sz O0) 0 0 (va_A (cw cL cZ Q A z) sz) := by
  refine gMet (by decide) rfl (Nat.le_of_ble_eq_true rfl) ?_
  intro p e s m below meth c ls C hK hP hD hsz hl
  subst hsz
  obtain ⟨hx, hb, hr, hml, hown, hts, hlocks⟩ := id C
  have FX : CallFix p m c cX1_orderIn 2 s _ vX1_orderIn RX1 := ⟨hx, hb, hml, hown, hts⟩
  have hA : ∀ q9 : Nat, s.heap.size ≤ q9 → va_A (cw cL cZ Q A z) s.heap.size q9 := fun q9 h => Or.inr h
  have hS : va_S (va_A (cw cL cZ Q A z) s.heap.size) s.heap s.heap [] := va_S.rf
  have hl : lv_has ls 2 [(0, .ref (Q 3)), (1, .int p0)] := hl
  unfold mp_orderIn at hf
  refine lv_aload_n hx hb dX1_orderIn_0 rfl (lv_at hl 0 rfl) ?_
  refine va_get (D := G) (ci := 1) (v := .ref (Q 1)) (C := RX1) (T := TX1) (N := 2) hx hb hts (fun w h => .tail _ (wl_X1 w h)) hown hK hP 3 rfl rfl 0 (by decide) (hts _ (.tail _ wd_159)) (fun _ h9 => h9) rfl dX1_orderIn_1 ?_
  refine lv_iload_n hx hb dX1_orderIn_4 rfl (lv_at hl 1 rfl) ?_
  obtain ⟨r1, ho1, hf⟩ := of_b0 hf
  refine gcRl (gV FX [.int p0] (c_hp_bitsAt l G cL cZ Q A z _ p0 _ ho1) (cwV 1 hts (gi_V wd_162 wd_120 wd_121 wd_7 wd_122) rfl rfl rfl hdV_X0_bitsAt ⟨Nat.le_of_ble_eq_true rfl, Nat.le_of_ble_eq_true rfl⟩) hK hP hD 1 rfl rfl rfl hl.1 (Nat.le_of_ble_eq_true rfl) dX1_orderIn_5 ⟨by show _ ≤ 0; omega, by show _ ≤ 0; omega⟩) hS hD hA (fun H locs hP hS => ?_)
  refine lv_l2i hx hb dX1_orderIn_8 rfl ?_
  refine lv_iconst (v := 1) hx hb dX1_orderIn_9 (by decide) ?_
  refine lv_isub hx hb dX1_orderIn_10 ?_
  obtain rfl := Option.some.inj hf
  exact grRi hx hb hr hlocks hP hK hD hS dX1_orderIn_11 (by omega) (by omega)
def At_mp_alikeKeys_j70 (l : Launch) (G : va_G) (cL cZ : ClassId) (Q : Nat → Nat) (A : Nat → Nat) (z : Hs) (p : Program) (e : Env) (s : State) (m : MethodId) (args : Array Value) (below : List Frame) (meth : Method) (c : Code) (O0 : Int32) (mcT msT : Nat) (F : Int32 → Int32 → Int32 → Int32 → Int32 → Hs → Option (Int32)) : Prop := ∀ (x1 : Int32) (x2 : Int32) (x3 : Int32) (x4 : Int32) (t0 : Int32) (H : Heap) (locs : List Loc) (ls : Array Slot) (cells slots : Nat), va_P G vwCl (cw cL cZ Q A z) H → va_D (va_A (cw cL cZ Q A z) s.heap.size) (cw cL cZ Q A z) → va_S (va_A (cw cL cZ Q A z) s.heap.size) s.heap H locs → lv_has ls 6 [(0, .ref (Q 3)), (1, .int x1), (2, .int x2), (3, .int x3), (4, .int x4)] → F x1 x2 x3 x4 t0 z = some O0 → cells + 0 ≤ mcT → slots + 0 ≤ msT → W p l e { frames := 3, cells := mcT, slots := msT, locals := 67 } s m args below meth c H locs cells slots (MQ below (qRi G vwCl (ct cL cZ) (cw cL cZ Q A z) s.heap.size O0) args s mcT msT (va_A (cw cL cZ Q A z) s.heap.size)) (F0 m 70 ls [.int t0])
def At_mp_alikeKeys_l3 (l : Launch) (G : va_G) (cL cZ : ClassId) (Q : Nat → Nat) (A : Nat → Nat) (z : Hs) (p : Program) (e : Env) (s : State) (m : MethodId) (args : Array Value) (below : List Frame) (meth : Method) (c : Code) (O0 : Int32) (mcT msT : Nat) (F : Int32 → Int32 → Int32 → Int32 → Hs → Option (Int32)) : Prop := ∀ (x1 : Int32) (x2 : Int32) (x3 : Int32) (x4 : Int32) (H : Heap) (locs : List Loc) (ls : Array Slot) (cells slots : Nat), va_P G vwCl (cw cL cZ Q A z) H → va_D (va_A (cw cL cZ Q A z) s.heap.size) (cw cL cZ Q A z) → va_S (va_A (cw cL cZ Q A z) s.heap.size) s.heap H locs → lv_has ls 6 [(0, .ref (Q 3)), (1, .int x1), (2, .int x2), (3, .int x3), (4, .int x4)] → F x1 x2 x3 x4 z = some O0 → cells + 0 ≤ mcT → slots + 0 ≤ msT → W p l e { frames := 3, cells := mcT, slots := msT, locals := 67 } s m args below meth c H locs cells slots (MQ below (qRi G vwCl (ct cL cZ) (cw cL cZ Q A z) s.heap.size O0) args s mcT msT (va_A (cw cL cZ Q A z) s.heap.size)) (F0 m 3 ls [])
set_option maxHeartbeats 4000000 in
set_option maxRecDepth 100000 in
theorem L_mp_alikeKeys_j70 (l : Launch) (G : va_G) (cL cZ : ClassId) (Q : Nat → Nat) (A : Nat → Nat) (z : Hs) (p : Program) (e : Env) (s : State) (m : MethodId) (args : Array Value) (below : List Frame) (meth : Method) (c : Code) (O0 : Int32) (mcT msT : Nat) (C : MC p s m args meth c cX1_alikeKeys 6 (some .boolean) RX1 vX1_alikeKeys) (hK : va_K G vwCl (ct cL cZ) s) (K3 : Int32 → Int32 → Int32 → Int32 → Hs → Option (Int32)) (hK3 : At_mp_alikeKeys_l3 l G cL cZ Q A z p e s m args below meth c O0 mcT msT K3) : At_mp_alikeKeys_j70 l G cL cZ Q A z p e s m args below meth c O0 mcT msT (mp_alikeKeys_j70 K3 ) := by
  obtain ⟨hx, hb, hr, hml, hown, hts, hlocks⟩ := id C
  have FX : CallFix p m c cX1_alikeKeys 6 s args vX1_alikeKeys RX1 := ⟨hx, hb, hml, hown, hts⟩
  have hA : ∀ q9 : Nat, s.heap.size ≤ q9 → va_A (cw cL cZ Q A z) s.heap.size q9 := fun q9 h => Or.inr h
  intro x1 x2 x3 x4 t0 H locs ls cells slots hP hD hS hl hf hcc hss
  unfold mp_alikeKeys_j70 at hf
  refine lv_istore (lv' := [(5, .int t0), (0, .ref (Q 3)), (1, .int x1), (2, .int x2), (3, .int x3), (4, .int x4)]) hx hb dX1_alikeKeys_70 hl (by decide) rfl (fun ls hl => ?_)
  refine lv_iload hx hb dX1_alikeKeys_72 (lv_at hl 0 rfl) ?_
  refine lv_if_ne (tgt := 79) hx hb dX1_alikeKeys_74 (by decide) (fun c9 => ?_) (fun c9 => ?_)
  · have hf := (if_neg c9).symm.trans hf
    refine lv_iinc (v := (x4 + 1)) (lv' := [(4, .int (x4 + 1)), (5, .int t0), (0, .ref (Q 3)), (1, .int x1), (2, .int x2), (3, .int x3)]) hx hb dX1_alikeKeys_79 hl (k := 5) rfl rfl (by decide) rfl (fun ls hl => ?_)
    refine lv_goto (tgt := 3) hx hb dX1_alikeKeys_82 (by decide) ?_
    exact hK3 _ _ _ _ _ _ _ _ _ hP hD hS (lv_sub hl [2, 3, 4, 5, 0] rfl) hf (by omega) (by omega)
  · have hf := (if_pos c9).symm.trans hf
    refine lv_iconst (v := 0) hx hb dX1_alikeKeys_77 (by decide) ?_
    obtain rfl := Option.some.inj hf
    exact grRz (by decide) hx hb hr hlocks hP hK hD hS dX1_alikeKeys_78 (by omega) (by omega)
set_option maxHeartbeats 4000000 in
set_option maxRecDepth 100000 in
theorem L_mp_alikeKeys_l3 (l : Launch) (G : va_G) (cL cZ : ClassId) (Q : Nat → Nat) (A : Nat → Nat) (z : Hs) (p : Program) (e : Env) (s : State) (m : MethodId) (args : Array Value) (below : List Frame) (meth : Method) (c : Code) (O0 : Int32) (mcT msT : Nat) (C : MC p s m args meth c cX1_alikeKeys 6 (some .boolean) RX1 vX1_alikeKeys) (hK : va_K G vwCl (ct cL cZ) s) : ∀ n : Nat, At_mp_alikeKeys_l3 l G cL cZ Q A z p e s m args below meth c O0 mcT msT (mp_alikeKeys_l3 n) := by
  obtain ⟨hx, hb, hr, hml, hown, hts, hlocks⟩ := id C
  have FX : CallFix p m c cX1_alikeKeys 6 s args vX1_alikeKeys RX1 := ⟨hx, hb, hml, hown, hts⟩
  have hA : ∀ q9 : Nat, s.heap.size ≤ q9 → va_A (cw cL cZ Q A z) s.heap.size q9 := fun q9 h => Or.inr h
  intro n
  induction n with
  | zero =>
    intro x1 x2 x3 x4 H locs ls cells slots hP hD hS hl hf hcc hss
    exact nomatch (show none = some _ from hf)
  | succ n ih =>
    intro x1 x2 x3 x4 H locs ls cells slots hP hD hS hl hf hcc hss
    rw [mp_alikeKeys_l3] at hf
    refine lv_iload hx hb dX1_alikeKeys_3 (lv_at hl 4 rfl) ?_
    refine lv_aload_n hx hb dX1_alikeKeys_5 rfl (lv_at hl 0 rfl) ?_
    refine lv_iload_n hx hb dX1_alikeKeys_6 rfl (lv_at hl 1 rfl) ?_
    obtain ⟨r1, ho1, hf⟩ := of_b0 hf
    refine gcRi (gV FX [.int x1] (c_mp_keyWords l G cL cZ Q A z _ x1 _ ho1) (cwV 1 hts (gi_V wd_190 wd_191 wd_192 wd_166 wd_193) rfl rfl rfl hdV_X1_keyWords ⟨Nat.le_of_ble_eq_true rfl, Nat.le_of_ble_eq_true rfl⟩) hK hP hD 3 rfl rfl rfl hl.1 (Nat.le_of_ble_eq_true rfl) dX1_alikeKeys_7 ⟨by show _ ≤ mcT; omega, by show _ ≤ msT; omega⟩) hS hD hA (fun H locs hP hS => ?_)
    refine lv_icmp_ge (tgt := 85) hx hb dX1_alikeKeys_10 (by decide) (fun c2 => ?_) (fun c2 => ?_)
    · have hf := (if_pos c2).symm.trans hf
      refine lv_iconst (v := 1) hx hb dX1_alikeKeys_85 (by decide) ?_
      obtain rfl := Option.some.inj hf
      exact grRz (by decide) hx hb hr hlocks hP hK hD hS dX1_alikeKeys_86 (by omega) (by omega)
    · have hf := (if_neg c2).symm.trans hf
      refine lv_aload_n hx hb dX1_alikeKeys_13 rfl (lv_at hl 0 rfl) ?_
      refine lv_iload_n hx hb dX1_alikeKeys_14 rfl (lv_at hl 1 rfl) ?_
      refine lv_iload hx hb dX1_alikeKeys_15 (lv_at hl 4 rfl) ?_
      obtain ⟨r3, ho3, hf⟩ := of_b0 hf
      refine gcRi (gV FX [.int x1, .int x4] (c_mp_isTextual l G cL cZ Q A z _ x1 x4 _ ho3) (cwV 2 hts (gi_V wd_182 wd_183 wd_184 wd_166 wd_185) rfl rfl rfl hdV_X1_isTextual ⟨Nat.le_of_ble_eq_true rfl, Nat.le_of_ble_eq_true rfl⟩) hK hP hD 3 rfl rfl rfl hl.1 (Nat.le_of_ble_eq_true rfl) dX1_alikeKeys_17 ⟨by show _ ≤ mcT; omega, by show _ ≤ msT; omega⟩) hS hD hA (fun H locs hP hS => ?_)
      refine lv_if_eq (tgt := 55) hx hb dX1_alikeKeys_20 (by decide) (fun c4 => ?_) (fun c4 => ?_)
      · have hf := (if_pos c4).symm.trans hf
        refine lv_aload_n hx hb dX1_alikeKeys_55 rfl (lv_at hl 0 rfl) ?_
        refine va_get (D := G) (ci := 1) (v := .ref (Q 1)) (C := RX1) (T := TX1) (N := 2) hx hb hts (fun w h => .tail _ (wl_X1 w h)) hown hK hP 3 rfl rfl 0 (by decide) (hts _ (.tail _ wd_159)) (fun _ h9 => h9) rfl dX1_alikeKeys_56 ?_
        refine lv_iload_n hx hb dX1_alikeKeys_59 rfl (lv_at hl 2 rfl) ?_
        refine lv_iload hx hb dX1_alikeKeys_60 (lv_at hl 4 rfl) ?_
        refine lv_iadd hx hb dX1_alikeKeys_62 ?_
        refine lv_iload_n hx hb dX1_alikeKeys_63 rfl (lv_at hl 3 rfl) ?_
        refine lv_iload hx hb dX1_alikeKeys_64 (lv_at hl 4 rfl) ?_
        refine lv_iadd hx hb dX1_alikeKeys_66 ?_
        obtain ⟨r5, ho5, hf⟩ := of_b0 hf
        refine gcRi (gV FX [.int (x2 + x4), .int (x3 + x4)] (c_hp_sameWords l G cL cZ Q A z _ (x2 + x4) (x3 + x4) _ ho5) (cwV 2 hts (gi_V wd_203 wd_204 wd_205 wd_7 wd_206) rfl rfl rfl hdV_X0_sameWords ⟨Nat.le_of_ble_eq_true rfl, Nat.le_of_ble_eq_true rfl⟩) hK hP hD 1 rfl rfl rfl hl.1 (Nat.le_of_ble_eq_true rfl) dX1_alikeKeys_67 ⟨by show _ ≤ mcT; omega, by show _ ≤ msT; omega⟩) hS hD hA (fun H locs hP hS => ?_)
        exact L_mp_alikeKeys_j70 _ _ _ _ _ _ _ _ _ _ _ _ _ _ _ _ _ _ C hK _ ih _ _ _ _ _ _ _ _ _ _ hP hD hS (lv_sub hl [0, 1, 2, 3, 4] rfl) hf (by omega) (by omega)
      · have hf := (if_neg c4).symm.trans hf
        refine lv_aload_n hx hb dX1_alikeKeys_23 rfl (lv_at hl 0 rfl) ?_
        refine va_get (D := G) (ci := 1) (v := .ref (Q 2)) (C := RX1) (T := TX1) (N := 2) hx hb hts (fun w h => .tail _ (wl_X1 w h)) hown hK hP 3 rfl rfl 1 (by decide) (hts _ (.tail _ wd_207)) (fun _ h9 => h9) rfl dX1_alikeKeys_24 ?_
        refine lv_aload_n hx hb dX1_alikeKeys_27 rfl (lv_at hl 0 rfl) ?_
        refine va_get (D := G) (ci := 1) (v := .ref (Q 1)) (C := RX1) (T := TX1) (N := 2) hx hb hts (fun w h => .tail _ (wl_X1 w h)) hown hK hP 3 rfl rfl 0 (by decide) (hts _ (.tail _ wd_159)) (fun _ h9 => h9) rfl dX1_alikeKeys_28 ?_
        refine lv_iload_n hx hb dX1_alikeKeys_31 rfl (lv_at hl 2 rfl) ?_
        refine lv_iload hx hb dX1_alikeKeys_32 (lv_at hl 4 rfl) ?_
        refine lv_iadd hx hb dX1_alikeKeys_34 ?_
        obtain ⟨r6, ho6, hf⟩ := of_b0 hf
        refine gcRi (gV FX [.int (x2 + x4)] (c_hp_handleAt l G cL cZ Q A z _ (x2 + x4) _ ho6) (cwV 1 hts (gi_V wd_198 wd_14 wd_15 wd_7 wd_16) rfl rfl rfl hdV_X0_handleAt ⟨Nat.le_of_ble_eq_true rfl, Nat.le_of_ble_eq_true rfl⟩) hK hP hD 1 rfl rfl rfl hl.1 (Nat.le_of_ble_eq_true rfl) dX1_alikeKeys_35 ⟨by show _ ≤ mcT; omega, by show _ ≤ msT; omega⟩) hS hD hA (fun H locs hP hS => ?_)
        refine lv_aload_n hx hb dX1_alikeKeys_38 rfl (lv_at hl 0 rfl) ?_
        refine va_get (D := G) (ci := 1) (v := .ref (Q 1)) (C := RX1) (T := TX1) (N := 2) hx hb hts (fun w h => .tail _ (wl_X1 w h)) hown hK hP 3 rfl rfl 0 (by decide) (hts _ (.tail _ wd_159)) (fun _ h9 => h9) rfl dX1_alikeKeys_39 ?_
        refine lv_iload_n hx hb dX1_alikeKeys_42 rfl (lv_at hl 3 rfl) ?_
        refine lv_iload hx hb dX1_alikeKeys_43 (lv_at hl 4 rfl) ?_
        refine lv_iadd hx hb dX1_alikeKeys_45 ?_
        obtain ⟨r7, ho7, hf⟩ := of_b0 hf
        refine gcRi (gV FX [.int (x3 + x4)] (c_hp_handleAt l G cL cZ Q A z _ (x3 + x4) _ ho7) (cwV 1 hts (gi_V wd_198 wd_14 wd_15 wd_7 wd_16) rfl rfl rfl hdV_X0_handleAt ⟨Nat.le_of_ble_eq_true rfl, Nat.le_of_ble_eq_true rfl⟩) hK hP hD 1 rfl rfl rfl hl.1 (Nat.le_of_ble_eq_true rfl) dX1_alikeKeys_46 ⟨by show _ ≤ mcT; omega, by show _ ≤ msT; omega⟩) hS hD hA (fun H locs hP hS => ?_)
        obtain ⟨r8, ho8, hf⟩ := of_b0 hf
        refine gcRi (gV FX [.int r6, .int r7] (c_tx_alike l G cL cZ Q A z _ r6 r7 _ ho8) (cwV 2 hts (gi_V wd_208 wd_209 wd_210 wd_117 wd_211) rfl rfl rfl hdV_X2_alike ⟨Nat.le_of_ble_eq_true rfl, Nat.le_of_ble_eq_true rfl⟩) hK hP hD 2 rfl rfl rfl hl.1 (Nat.le_of_ble_eq_true rfl) dX1_alikeKeys_49 ⟨by show _ ≤ mcT; omega, by show _ ≤ msT; omega⟩) hS hD hA (fun H locs hP hS => ?_)
        refine lv_goto (tgt := 70) hx hb dX1_alikeKeys_52 (by decide) ?_
        exact L_mp_alikeKeys_j70 _ _ _ _ _ _ _ _ _ _ _ _ _ _ _ _ _ _ C hK _ ih _ _ _ _ _ _ _ _ _ _ hP hD hS (lv_sub hl [0, 1, 2, 3, 4] rfl) hf (by omega) (by omega)
set_option maxHeartbeats 4000000 in
set_option maxRecDepth 100000 in
theorem c_mp_alikeKeys (l : Launch) (G : va_G) (cL cZ : ClassId) (Q : Nat → Nat) (A : Nat → Nat) (z : Hs) (sz : Nat) (p0 : Int32) (p1 : Int32) (p2 : Int32) (O0 : Int32) (hf : mp_alikeKeys z p0 p1 p2 = some O0) : Met l yX1_alikeKeys vX1_alikeKeys { frames := 3, cells := 0, slots := 0, locals := 67 } (gPc G vwCl (ct cL cZ) [.ref (Q 3), .int p0, .int p1, .int p2] (cw cL cZ Q A z) sz) (qRi G vwCl (ct cL cZ) (cw cL cZ Q A z) sz O0) 0 0 (va_A (cw cL cZ Q A z) sz) := by
  refine gMet (by decide) rfl (Nat.le_of_ble_eq_true rfl) ?_
  intro p e s m below meth c ls C hK hP hD hsz hl
  subst hsz
  obtain ⟨hx, hb, hr, hml, hown, hts, hlocks⟩ := id C
  have FX : CallFix p m c cX1_alikeKeys 6 s _ vX1_alikeKeys RX1 := ⟨hx, hb, hml, hown, hts⟩
  have hA : ∀ q9 : Nat, s.heap.size ≤ q9 → va_A (cw cL cZ Q A z) s.heap.size q9 := fun q9 h => Or.inr h
  have hS : va_S (va_A (cw cL cZ Q A z) s.heap.size) s.heap s.heap [] := va_S.rf
  have hl : lv_has ls 6 [(0, .ref (Q 3)), (1, .int p0), (2, .int p1), (3, .int p2)] := hl
  unfold mp_alikeKeys at hf
  refine lv_iconst (v := 0) hx hb dX1_alikeKeys_0 (by decide) ?_
  refine lv_istore (lv' := [(4, .int 0), (0, .ref (Q 3)), (1, .int p0), (2, .int p1), (3, .int p2)]) hx hb dX1_alikeKeys_1 hl (by decide) rfl (fun ls hl => ?_)
  exact L_mp_alikeKeys_l3 _ _ _ _ _ _ _ _ _ _ _ _ _ _ _ _ _ _ C hK FU _ _ _ _ _ _ _ _ _ hP hD hS (lv_sub hl [1, 2, 3, 4, 0] rfl) hf (by omega) (by omega)
