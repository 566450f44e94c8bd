def At_hp_extendWords_l64 (l : Launch) (G : va_G) (cL cZ : ClassId) (Q : Nat → Nat) (w : va_W) (p : Program) (e : Env) (s : State) (m : MethodId) (args : Array Value) (below : List Frame) (meth : Method) (c : Code) (O0 : Hs × Unit) (mcT msT : Nat) (F : Int32 → Nat → (Nat → Int32) → Hs → Option (Nat × Hs × Unit)) : Prop := ∀ (A : Nat → Nat) (z : Hs) (x5 : Int32) (y0 : Nat) (n0 : Nat) (f0 : Nat → Int32) (d0 : Nat) (H : Heap) (locs : List Loc) (ls : Array Slot) (cells slots : Nat), va_P G vwCl ((cw cL cZ Q A z) ++ [(y0, .inl (cZ, n0, .inl f0))]) H → va_D (va_A w s.heap.size) ((cw cL cZ Q A z) ++ [(y0, .inl (cZ, n0, .inl f0))]) → va_S (va_A w s.heap.size) s.heap H locs → lv_has ls 6 [(0, .ref (Q 1)), (4, .ref y0), (5, .int x5)] → F x5 n0 f0 z = some (d0, O0) → cells + 0 ≤ mcT → slots + (0 + d0) ≤ msT → W p l e { frames := 3, cells := mcT, slots := msT, locals := 82 } s m args below meth c H locs cells slots (MQ below (qWv G vwCl (ct cL cZ) w s.heap.size (cw cL cZ Q) O0) args s mcT msT (va_A w s.heap.size)) (F0 m 64 ls [])
def At_hp_extendWords_j38 (l : Launch) (G : va_G) (cL cZ : ClassId) (Q : Nat → Nat) (w : va_W) (p : Program) (e : Env) (s : State) (m : MethodId) (args : Array Value) (below : List Frame) (meth : Method) (c : Code) (O0 : Hs × Unit) (mcT msT : Nat) (F : Int32 → Int32 → Hs → Option (Nat × Hs × Unit)) : Prop := ∀ (A : Nat → Nat) (z : Hs) (x2 : Int32) (x3 : Int32) (d0 : Nat) (H : Heap) (locs : List Loc) (ls : Array Slot) (cells slots : Nat), va_P G vwCl (cw cL cZ Q A z) H → va_D (va_A w s.heap.size) (cw cL cZ Q A z) → va_S (va_A w s.heap.size) s.heap H locs → lv_has ls 6 [(0, .ref (Q 1)), (2, .int x2), (3, .int x3)] → F x2 x3 z = some (d0, O0) → cells + 2 ≤ mcT → slots + (0 + d0) ≤ msT → W p l e { frames := 3, cells := mcT, slots := msT, locals := 82 } s m args below meth c H locs cells slots (MQ below (qWv G vwCl (ct cL cZ) w s.heap.size (cw cL cZ Q) O0) args s mcT msT (va_A w s.heap.size)) (F0 m 38 ls [])
def At_hp_extendWords_l21 (l : Launch) (G : va_G) (cL cZ : ClassId) (Q : Nat → Nat) (w : va_W) (p : Program) (e : Env) (s : State) (m : MethodId) (args : Array Value) (below : List Frame) (meth : Method) (c : Code) (O0 : Hs × Unit) (mcT msT : Nat) (F : Int32 → Int32 → Int32 → Hs → Option (Nat × Hs × Unit)) : Prop := ∀ (A : Nat → Nat) (z : Hs) (x1 : Int32) (x2 : Int32) (x3 : Int32) (d0 : Nat) (H : Heap) (locs : List Loc) (ls : Array Slot) (cells slots : Nat), va_P G vwCl (cw cL cZ Q A z) H → va_D (va_A w s.heap.size) (cw cL cZ Q A z) → va_S (va_A w s.heap.size) s.heap H locs → lv_has ls 6 [(0, .ref (Q 1)), (1, .int x1), (2, .int x2), (3, .int x3)] → F x1 x2 x3 z = some (d0, O0) → cells + 2 ≤ mcT → slots + (0 + d0) ≤ msT → W p l e { frames := 3, cells := mcT, slots := msT, locals := 82 } s m args below meth c H locs cells slots (MQ below (qWv G vwCl (ct cL cZ) w s.heap.size (cw cL cZ Q) O0) args s mcT msT (va_A w s.heap.size)) (F0 m 21 ls [])
set_option maxHeartbeats 4000000 in
set_option maxRecDepth 100000 in
theorem L_hp_extendWords_l64 (l : Launch) (G : va_G) (cL cZ : ClassId) (Q : Nat → Nat) (w : va_W) (p : Program) (e : Env) (s : State) (m : MethodId) (args : Array Value) (below : List Frame) (meth : Method) (c : Code) (O0 : Hs × Unit) (mcT msT : Nat) (C : MC p s m args meth c cX0_extendWords 6 (none) RX0 vX0_extendWords) (hK : va_K G vwCl (ct cL cZ) s) : ∀ n : Nat, At_hp_extendWords_l64 l G cL cZ Q w p e s m args below meth c O0 mcT msT (hp_extendWords_l64 n) := by
  obtain ⟨hx, hb, hr, hml, hown, hts, hlocks⟩ := id C
  have FX : CallFix p m c cX0_extendWords 6 s args vX0_extendWords RX0 := ⟨hx, hb, hml, hown, hts⟩
  have hA : ∀ q9 : Nat, s.heap.size ≤ q9 → va_A w s.heap.size q9 := fun q9 h => Or.inr h
  intro n
  induction n with
  | zero =>
    intro A z x5 y0 n0 f0 d0 H locs ls cells slots hP hD hS hl hf hcc hss
    exact nomatch (show none = some _ from hf)
  | succ n ih =>
    intro A z x5 y0 n0 f0 d0 H locs ls cells slots hP hD hS hl hf hcc hss
    rw [hp_extendWords_l64] at hf
    refine lv_iload hx hb dX0_extendWords_64 (lv_at hl 2 rfl) ?_
    refine lv_aload_n hx hb dX0_extendWords_66 rfl (lv_at hl 0 rfl) ?_
    refine va_get (D := G) (ci := 0) (v := .ref (A 5)) (C := RX0) (T := TX0) (N := 14) hx hb hts (fun w h => .tail _ (wl_X0 w h)) hown hK hP 1 rfl rfl 2 (by decide) (hts _ (.tail _ wd_1)) (fun _ h9 => h9) rfl dX0_extendWords_67 ?_
    refine va_alen hx hb hK hP 5 1 rfl rfl (v := (Int32.ofNat (Hs.nrf z))) rfl dX0_extendWords_70 ?_
    refine lv_icmp_ge (tgt := 92) hx hb dX0_extendWords_71 (by decide) (fun c13 => ?_) (fun c13 => ?_)
    · have hf := (if_pos c13).symm.trans hf
      refine lv_aload_n hx hb dX0_extendWords_92 rfl (lv_at hl 0 rfl) ?_
      refine lv_aload hx hb dX0_extendWords_93 (lv_at hl 1 rfl) ?_
      refine va_put (D := G) (ci := 0) (v := .ref y0) (ty := .array .boolean) (C := RX0) (T := TX0) (N := 14) hx hb hts (fun w h => .tail _ (wl_X0 w h)) tyX0 tyX0_ok nmX0 hown hK hP hD hS 1 rfl rfl 2 (by decide) (hts _ (.tail _ wd_1)) (fun _ h9 => h9) rfl (by decide +kernel) rfl rfl (Nat.le_of_ble_eq_true rfl) dX0_extendWords_95 (fun H locs hP hD hS => ?_)
      have hP := hP.sub (ws' := (cw cL cZ Q (va_up A 5 y0) (Hs.wrf (Hs.snrf z n0) f0))) [0, 1, 2, 3, 4, 9, 6, 7, 8] rfl
      have hD := hD.sub (ws' := (cw cL cZ Q (va_up A 5 y0) (Hs.wrf (Hs.snrf z n0) f0))) [0, 1, 2, 3, 4, 9, 6, 7, 8] (by decide) rfl
      generalize va_up A 5 y0 = A at hP hD
      obtain ⟨hc0, hj0⟩ := of_some2 hf
      subst hj0
      exact grWv hx hb hr hlocks hP hK hD hS dX0_extendWords_98 (by omega) (by omega)
    · have hf := (if_neg c13).symm.trans hf
      refine lv_aload hx hb dX0_extendWords_74 (lv_at hl 1 rfl) ?_
      refine lv_iload hx hb dX0_extendWords_76 (lv_at hl 2 rfl) ?_
      refine lv_aload_n hx hb dX0_extendWords_78 rfl (lv_at hl 0 rfl) ?_
      refine va_get (D := G) (ci := 0) (v := .ref (A 5)) (C := RX0) (T := TX0) (N := 14) hx hb hts (fun w h => .tail _ (wl_X0 w h)) hown hK hP 1 rfl rfl 2 (by decide) (hts _ (.tail _ wd_1)) (fun _ h9 => h9) rfl dX0_extendWords_79 ?_
      refine lv_iload hx hb dX0_extendWords_82 (lv_at hl 2 rfl) ?_
      obtain ⟨hg14, hf⟩ := of_gd hf
      refine va_zald (f := (Hs.arf z)) (n := (Hs.nrf z)) hx hb hK hP 5 1 rfl rfl (inb_in hg14) dX0_extendWords_84 ?_
      obtain ⟨hg15, hf⟩ := of_gd hf
      refine va_zast (f := f0) (n := n0) hx hb hK hP hD hS 9 1 rfl rfl (inb_in hg15) dX0_extendWords_85 (fun H locs hP hD hS => ?_)
      have hP : va_P G vwCl ((cw cL cZ Q A z) ++ [(y0, .inl (cZ, n0, .inl (upd f0 (x5.toNatClampNeg) (vp_nar .boolean ((Hs.arf z) x5.toNatClampNeg)))))]) H := hP
      have hD : va_D _ ((cw cL cZ Q A z) ++ [(y0, .inl (cZ, n0, .inl (upd f0 (x5.toNatClampNeg) (vp_nar .boolean ((Hs.arf z) x5.toNatClampNeg)))))]) := hD
      refine lv_iinc (v := (x5 + 1)) (lv' := [(5, .int (x5 + 1)), (0, .ref (Q 1)), (4, .ref y0)]) hx hb dX0_extendWords_86 hl (k := 2) rfl rfl (by decide) rfl (fun ls hl => ?_)
      refine lv_goto (tgt := 64) hx hb dX0_extendWords_89 (by decide) ?_
      exact ih _ _ _ _ _ _ _ _ _ _ _ _ hP hD hS (lv_sub hl [1, 2, 0] rfl) hf (by omega) (by omega)
set_option maxHeartbeats 4000000 in
set_option maxRecDepth 100000 in
theorem L_hp_extendWords_j38 (l : Launch) (G : va_G) (cL cZ : ClassId) (Q : Nat → Nat) (w : va_W) (p : Program) (e : Env) (s : State) (m : MethodId) (args : Array Value) (below : List Frame) (meth : Method) (c : Code) (O0 : Hs × Unit) (mcT msT : Nat) (C : MC p s m args meth c cX0_extendWords 6 (none) RX0 vX0_extendWords) (hK : va_K G vwCl (ct cL cZ) s) : At_hp_extendWords_j38 l G cL cZ Q w p e s m args below meth c O0 mcT msT hp_extendWords_j38 := by
  obtain ⟨hx, hb, hr, hml, hown, hts, hlocks⟩ := id C
  have FX : CallFix p m c cX0_extendWords 6 s args vX0_extendWords RX0 := ⟨hx, hb, hml, hown, hts⟩
  have hA : ∀ q9 : Nat, s.heap.size ≤ q9 → va_A w s.heap.size q9 := fun q9 h => Or.inr h
  intro A z x2 x3 d0 H locs ls cells slots hP hD hS hl hf hcc hss
  unfold hp_extendWords_j38 at hf
  refine lv_iload_n hx hb dX0_extendWords_38 rfl (lv_at hl 2 rfl) ?_
  refine lv_iload_n hx hb dX0_extendWords_39 rfl (lv_at hl 1 rfl) ?_
  obtain ⟨r4, ho4, hf⟩ := of_b0 hf
  refine va_mmin hx hb (hml.trans hl.1.symm) hown (hts _ (.tail _ wd_84)) (hts _ (.tail _ wd_85)) (hts _ (.tail _ wd_86)) (hts _ (.tail _ wd_87)) (Nat.le_of_ble_eq_true rfl) (Nat.le_of_ble_eq_true rfl) (by show _ ≤ mcT; omega) (by show _ ≤ msT; omega) dX0_extendWords_40 ?_
  refine lv_topi (fun t4 et4 => ?_)
  obtain rfl : r4 = t4 := (et4.trans (Option.some.inj ho4)).symm
  refine lv_istore_n (lv' := [(3, .int r4), (0, .ref (Q 1)), (2, .int x2)]) hx hb dX0_extendWords_43 rfl hl (by decide) rfl (fun ls hl => ?_)
  refine lv_aload_n hx hb dX0_extendWords_44 rfl (lv_at hl 1 rfl) ?_
  refine lv_aload_n hx hb dX0_extendWords_45 rfl (lv_at hl 1 rfl) ?_
  refine va_get (D := G) (ci := 0) (v := .ref (A 4)) (C := RX0) (T := TX0) (N := 14) hx hb hts (fun w h => .tail _ (wl_X0 w h)) hown hK hP 1 rfl rfl 1 (by decide) (hts _ (.tail _ wd_0)) (fun _ h9 => h9) rfl dX0_extendWords_46 ?_
  refine lv_iload_n hx hb dX0_extendWords_49 rfl (lv_at hl 0 rfl) ?_
  obtain ⟨hg6, hf⟩ := of_gd hf
  obtain ⟨d7, hf, ek8⟩ := of_addc hf
  have hPc := hP.sub (ws' := [(A 4, .inl (cL, (Hs.nbt z), .inr (.inl (Hs.abt z))))]) [4] rfl
  have hDc := hD.sub (ws' := [(A 4, .inl (cL, (Hs.nbt z), .inr (.inl (Hs.abt z))))]) [4] (by decide) rfl
  refine gcA (q0 := 4) (gS FX [.ref (A 4), .int r4] (c_ja_copyOf l G cL cZ (A 4) (Hs.nbt z) (Hs.abt z) r4 _ hg6) (va_cwS 2 hts (gi_SU wd_80 wd_81 wd_82 wd_83) rfl rfl rfl hdU_JA_copyOf ⟨Nat.le_of_ble_eq_true rfl, Nat.le_of_ble_eq_true rfl⟩) hK hPc hDc rfl hl.1 (Nat.le_of_ble_eq_true rfl) dX0_extendWords_50 ⟨by show _ ≤ mcT; omega, by show _ ≤ msT; omega⟩) hP rfl hS hD hA (fun x5 H locs hP hD hS => ?_)
  have hP : va_P G vwCl ((cw cL cZ Q A z) ++ [(x5, .inl (cL, (r4.toNatClampNeg), .inr (.inl (cpyz (Hs.abt z) (Hs.nbt z) r4))))]) H := hP
  have hD : va_D _ ((cw cL cZ Q A z) ++ [(x5, .inl (cL, (r4.toNatClampNeg), .inr (.inl (cpyz (Hs.abt z) (Hs.nbt z) r4))))]) := hD
  refine va_put (D := G) (ci := 0) (v := .ref x5) (ty := .array .long) (C := RX0) (T := TX0) (N := 14) hx hb hts (fun w h => .tail _ (wl_X0 w h)) tyX0 tyX0_ok nmX0 hown hK hP hD hS 1 rfl rfl 1 (by decide) (hts _ (.tail _ wd_0)) (fun _ h9 => h9) rfl (by decide +kernel) rfl rfl (Nat.le_of_ble_eq_true rfl) dX0_extendWords_53 (fun H locs hP hD hS => ?_)
  have hP := hP.sub (ws' := (cw cL cZ Q (va_up A 4 x5) (Hs.wbt (Hs.snbt z (r4.toNatClampNeg)) (cpyz (Hs.abt z) (Hs.nbt z) r4)))) [0, 1, 2, 3, 9, 5, 6, 7, 8] rfl
  have hD := hD.sub (ws' := (cw cL cZ Q (va_up A 4 x5) (Hs.wbt (Hs.snbt z (r4.toNatClampNeg)) (cpyz (Hs.abt z) (Hs.nbt z) r4)))) [0, 1, 2, 3, 9, 5, 6, 7, 8] (by decide) rfl
  generalize va_up A 4 x5 = A at hP hD
  refine lv_iload_n hx hb dX0_extendWords_56 rfl (lv_at hl 0 rfl) ?_
  obtain ⟨hg10, hf⟩ := of_gd hf
  obtain ⟨d11, hf, ek12⟩ := of_addc hf
  refine gnewa (atype := .boolean) (t0 := 1) (a0 := ((r4.toNatClampNeg), .inl (fun _ => 0))) hx hb (hts _ (.tail _ wd_78)) rfl (fun C h => by cases h) hK rfl hP hD hS hA (fun cA => rfl) (alb_in hg10).1 (alb_in hg10).2 (by show _ ≤ mcT; omega) (by show _ ≤ msT; omega) dX0_extendWords_57 (fun x9 H hP hD hS => ?_)
  have hP : va_P G vwCl ((cw cL cZ Q A (Hs.wbt (Hs.snbt z (r4.toNatClampNeg)) (cpyz (Hs.abt z) (Hs.nbt z) r4))) ++ [(x9, .inl (cZ, (r4.toNatClampNeg), .inl (fun _ => 0)))]) H := hP
  have hD : va_D _ ((cw cL cZ Q A (Hs.wbt (Hs.snbt z (r4.toNatClampNeg)) (cpyz (Hs.abt z) (Hs.nbt z) r4))) ++ [(x9, .inl (cZ, (r4.toNatClampNeg), .inl (fun _ => 0)))]) := hD
  refine lv_astore (lv' := [(4, .ref x9), (3, .int r4), (0, .ref (Q 1)), (2, .int x2)]) hx hb dX0_extendWords_59 hl (by decide) rfl (fun ls hl => ?_)
  refine lv_iconst (v := 0) hx hb dX0_extendWords_61 (by decide) ?_
  refine lv_istore (lv' := [(5, .int 0), (4, .ref x9), (3, .int r4), (0, .ref (Q 1)), (2, .int x2)]) hx hb dX0_extendWords_62 hl (by decide) rfl (fun ls hl => ?_)
  exact L_hp_extendWords_l64 _ _ _ _ _ _ _ _ _ _ _ _ _ _ _ _ _ C hK FU _ _ _ _ _ _ _ _ _ _ _ _ hP hD hS (lv_sub hl [3, 1, 0] rfl) hf (by omega) (by omega)
set_option maxHeartbeats 4000000 in
set_option maxRecDepth 100000 in
theorem L_hp_extendWords_l21 (l : Launch) (G : va_G) (cL cZ : ClassId) (Q : Nat → Nat) (w : va_W) (p : Program) (e : Env) (s : State) (m : MethodId) (args : Array Value) (below : List Frame) (meth : Method) (c : Code) (O0 : Hs × Unit) (mcT msT : Nat) (C : MC p s m args meth c cX0_extendWords 6 (none) RX0 vX0_extendWords) (hK : va_K G vwCl (ct cL cZ) s) : ∀ n : Nat, At_hp_extendWords_l21 l G cL cZ Q w p e s m args below meth c O0 mcT msT (hp_extendWords_l21 n) := by
  obtain ⟨hx, hb, hr, hml, hown, hts, hlocks⟩ := id C
  have FX : CallFix p m c cX0_extendWords 6 s args vX0_extendWords RX0 := ⟨hx, hb, hml, hown, hts⟩
  have hA : ∀ q9 : Nat, s.heap.size ≤ q9 → va_A w s.heap.size q9 := fun q9 h => Or.inr h
  intro n
  induction n with
  | zero =>
    intro A z x1 x2 x3 d0 H locs ls cells slots hP hD hS hl hf hcc hss
    exact nomatch (show none = some _ from hf)
  | succ n ih =>
    intro A z x1 x2 x3 d0 H locs ls cells slots hP hD hS hl hf hcc hss
    rw [hp_extendWords_l21] at hf
    refine lv_iload_n hx hb dX0_extendWords_21 rfl (lv_at hl 3 rfl) ?_
    refine lv_iload_n hx hb dX0_extendWords_22 rfl (lv_at hl 1 rfl) ?_
    refine lv_icmp_ge (tgt := 38) hx hb dX0_extendWords_23 (by decide) (fun c2 => ?_) (fun c2 => ?_)
    · have hf := (if_pos c2).symm.trans hf
      exact L_hp_extendWords_j38 _ _ _ _ _ _ _ _ _ _ _ _ _ _ _ _ _ C hK _ _ _ _ _ _ _ _ _ _ hP hD hS (lv_sub hl [0, 2, 3] rfl) hf (by omega) (by omega)
    · have hf := (if_neg c2).symm.trans hf
      refine lv_iload_n hx hb dX0_extendWords_26 rfl (lv_at hl 3 rfl) ?_
      refine lv_iload_n hx hb dX0_extendWords_27 rfl (lv_at hl 2 rfl) ?_
      refine lv_icmp_ge (tgt := 38) hx hb dX0_extendWords_28 (by decide) (fun c3 => ?_) (fun c3 => ?_)
      · have hf := (if_pos c3).symm.trans hf
        exact L_hp_extendWords_j38 _ _ _ _ _ _ _ _ _ _ _ _ _ _ _ _ _ C hK _ _ _ _ _ _ _ _ _ _ hP hD hS (lv_sub hl [0, 2, 3] rfl) hf (by omega) (by omega)
      · have hf := (if_neg c3).symm.trans hf
        refine lv_iload_n hx hb dX0_extendWords_31 rfl (lv_at hl 3 rfl) ?_
        refine lv_iconst (v := 2) hx hb dX0_extendWords_32 (by decide) ?_
        refine lv_imul hx hb dX0_extendWords_33 ?_
        refine lv_istore_n (lv' := [(3, .int (x3 * 2)), (0, .ref (Q 1)), (1, .int x1), (2, .int x2)]) hx hb dX0_extendWords_34 rfl hl (by decide) rfl (fun ls hl => ?_)
        refine lv_goto (tgt := 21) hx hb dX0_extendWords_35 (by decide) ?_
        exact ih _ _ _ _ _ _ _ _ _ _ _ hP hD hS (lv_sub hl [1, 2, 3, 0] rfl) hf (by omega) (by omega)
set_option maxHeartbeats 4000000 in
set_option maxRecDepth 100000 in
theorem c_hp_extendWords (l : Launch) (G : va_G) (cL cZ : ClassId) (Q : Nat → Nat) (A : Nat → Nat) (z : Hs) (sz : Nat) (p0 : Int32) (c0 : Nat) (O0 : Hs × Unit) (hf : hp_extendWords z p0 = some (c0, O0)) : Met l yX0_extendWords vX0_extendWords { frames := 3, cells := 2, slots := 0 + c0, locals := 82 } (gPc G vwCl (ct cL cZ) [.ref (Q 1), .int p0] (cw cL cZ Q A z) sz) (qWv G vwCl (ct cL cZ) (cw cL cZ Q A z) sz (cw cL cZ Q) O0) 2 (0 + c0) (va_A (cw cL cZ Q A z) sz) := by
  refine gMet (by decide) rfl (Nat.le_of_ble_eq_true rfl) ?_
  intro p e s m below meth c ls C hK hP hD hsz hl
  subst hsz
  obtain ⟨hx, hb, hr, hml, hown, hts, hlocks⟩ := id C
  have FX : CallFix p m c cX0_extendWords 6 s _ vX0_extendWords RX0 := ⟨hx, hb, hml, hown, hts⟩
  have hA : ∀ q9 : Nat, s.heap.size ≤ q9 → va_A (cw cL cZ Q A z) s.heap.size q9 := fun q9 h => Or.inr h
  have hS : va_S (va_A (cw cL cZ Q A z) s.heap.size) s.heap s.heap [] := va_S.rf
  have hl : lv_has ls 6 [(0, .ref (Q 1)), (1, .int p0)] := hl
  unfold hp_extendWords at hf
  refine lv_iload_n hx hb dX0_extendWords_0 rfl (lv_at hl 1 rfl) ?_
  refine lv_aload_n hx hb dX0_extendWords_1 rfl (lv_at hl 0 rfl) ?_
  refine va_get (D := G) (ci := 0) (v := .ref (A 4)) (C := RX0) (T := TX0) (N := 14) hx hb hts (fun w h => .tail _ (wl_X0 w h)) hown hK hP 1 rfl rfl 1 (by decide) (hts _ (.tail _ wd_0)) (fun _ h9 => h9) rfl dX0_extendWords_2 ?_
  refine va_alen hx hb hK hP 4 0 rfl rfl (v := (Int32.ofNat (Hs.nbt z))) rfl dX0_extendWords_5 ?_
  refine lv_icmp_gt (tgt := 10) hx hb dX0_extendWords_6 (by decide) (fun c1 => ?_) (fun c1 => ?_)
  · have hf := (if_pos c1).symm.trans hf
    refine lv_bipush (v := 17) hx hb dX0_extendWords_10 (by decide) ?_
    refine lv_aload_n hx hb dX0_extendWords_12 rfl (lv_at hl 0 rfl) ?_
    refine va_get (D := G) (ci := 0) (v := .int (Hs.lim z)) (C := RX0) (T := TX0) (N := 14) hx hb hts (fun w h => .tail _ (wl_X0 w h)) hown hK hP 1 rfl rfl 0 (by decide) (hts _ (.tail _ wd_40)) (fun _ h9 => h9) rfl dX0_extendWords_13 ?_
    refine lv_iadd hx hb dX0_extendWords_16 ?_
    refine lv_istore_n (lv' := [(2, .int (17 + (Hs.lim z))), (0, .ref (Q 1)), (1, .int p0)]) hx hb dX0_extendWords_17 rfl hl (by decide) rfl (fun ls hl => ?_)
    refine lv_bipush (v := 64) hx hb dX0_extendWords_18 (by decide) ?_
    refine lv_istore_n (lv' := [(3, .int 64), (2, .int (17 + (Hs.lim z))), (0, .ref (Q 1)), (1, .int p0)]) hx hb dX0_extendWords_20 rfl hl (by decide) rfl (fun ls hl => ?_)
    exact L_hp_extendWords_l21 _ _ _ _ _ _ _ _ _ _ _ _ _ _ _ _ _ C hK FU _ _ _ _ _ _ _ _ _ _ _ hP hD hS (lv_sub hl [2, 3, 1, 0] rfl) hf (by omega) (by omega)
  · have hf := (if_neg c1).symm.trans hf
    obtain ⟨hc0, hj0⟩ := of_some2 hf
    subst hj0
    exact grWv hx hb hr hlocks hP hK hD hS dX0_extendWords_9 (by omega) (by omega)
def At_hp_place_j60 (l : Launch) (G : va_G) (cL cZ : ClassId) (Q : Nat → Nat) (w : va_W) (p : Program) (e : Env) (s : State) (m : MethodId) (args : Array Value) (below : List Frame) (meth : Method) (c : Code) (O0 : Hs × Int32) (mcT msT : Nat) (F : Int32 → Int32 → Int32 → Int32 → Int32 → Int64 → Hs → Option (Nat × Hs × Int32)) : Prop := ∀ (A : Nat → Nat) (z : Hs) (x1 : Int32) (x2 : Int32) (x3 : Int32) (x4 : Int32) (x5 : Int32) (x6 : Int64) (d0 : Nat) (H : Heap) (locs : List Loc) (ls : Array Slot) (cells slots : Nat), va_P G vwCl (cw cL cZ Q A z) H → va_D (va_A w s.heap.size) (cw cL cZ Q A z) → va_S (va_A w s.heap.size) s.heap H locs → lv_has ls 8 [(0, .ref (Q 1)), (1, .int x1), (2, .int x2), (3, .int x3), (4, .int x4), (5, .int x5), (6, .long x6)] → F x1 x2 x3 x4 x5 x6 z = some (d0, O0) → cells + 0 ≤ mcT → slots + (0 + d0) ≤ msT → W p l e { frames := 5, cells := mcT, slots := msT, locals := 124 } s m args below meth c H locs cells slots (MQ below (qWi G vwCl (ct cL cZ) w s.heap.size (cw cL cZ Q) O0) args s mcT msT (va_A w s.heap.size)) (F0 m 60 ls [])
set_option maxHeartbeats 4000000 in
set_option maxRecDepth 100000 in
theorem L_hp_place_j60 (l : Launch) (G : va_G) (cL cZ : ClassId) (Q : Nat → Nat) (w : va_W) (p : Program) (e : Env) (s : State) (m : MethodId) (args : Array Value) (below : List Frame) (meth : Method) (c : Code) (O0 : Hs × Int32) (mcT msT : Nat) (C : MC p s m args meth c cX0_place 8 (some .int) RX0 vX0_place) (hK : va_K G vwCl (ct cL cZ) s) : At_hp_place_j60 l G cL cZ Q w p e s m args below meth c O0 mcT msT hp_place_j60 := by
  obtain ⟨hx, hb, hr, hml, hown, hts, hlocks⟩ := id C
  have FX : CallFix p m c cX0_place 8 s args vX0_place RX0 := ⟨hx, hb, hml, hown, hts⟩
  have hA : ∀ q9 : Nat, s.heap.size ≤ q9 → va_A w s.heap.size q9 := fun q9 h => Or.inr h
  intro A z x1 x2 x3 x4 x5 x6 d0 H locs ls cells slots hP hD hS hl hf hcc hss
  unfold hp_place_j60 at hf
  refine lv_aload_n hx hb dX0_place_60 rfl (lv_at hl 0 rfl) ?_
  refine va_get (D := G) (ci := 0) (v := .ref (A 4)) (C := RX0) (T := TX0) (N := 14) hx hb hts (fun w h => .tail _ (wl_X0 w h)) hown hK hP 1 rfl rfl 1 (by decide) (hts _ (.tail _ wd_0)) (fun _ h9 => h9) rfl dX0_place_61 ?_
  refine lv_iload hx hb dX0_place_64 (lv_at hl 4 rfl) ?_
  refine lv_lload hx hb dX0_place_66 (lv_at hl 6 rfl) ?_
  refine lv_bipush (v := 40) hx hb dX0_place_68 (by decide) ?_
  refine lv_lshl hx hb dX0_place_70 rfl ?_
  refine lv_iload_n hx hb dX0_place_71 rfl (lv_at hl 2 rfl) ?_
  refine lv_i2l hx hb dX0_place_72 rfl ?_
  refine lv_bipush (v := 22) hx hb dX0_place_73 (by decide) ?_
  refine lv_lshl hx hb dX0_place_75 rfl ?_
  refine lv_lor hx hb dX0_place_76 ?_
  refine lv_iload_n hx hb dX0_place_77 rfl (lv_at hl 1 rfl) ?_
  refine lv_i2l hx hb dX0_place_78 rfl ?_
  refine lv_bipush (v := 18) hx hb dX0_place_79 (by decide) ?_
  refine lv_lshl hx hb dX0_place_81 rfl ?_
  refine lv_lor hx hb dX0_place_82 ?_
  refine lv_iload_n hx hb dX0_place_83 rfl (lv_at hl 3 rfl) ?_
  refine lv_i2l hx hb dX0_place_84 rfl ?_
  refine lv_lor hx hb dX0_place_85 ?_
  obtain ⟨hg6, hf⟩ := of_gd hf
  refine va_last (f := (Hs.abt z)) (n := (Hs.nbt z)) hx hb hK hP hD hS 4 0 rfl rfl (inb_in hg6) dX0_place_86 (fun H locs hP hD hS => ?_)
  have hP : va_P G vwCl (cw cL cZ Q A (Hs.wbt z (vp_updL (Hs.abt z) (x4.toNatClampNeg) ((((x6 <<< ((40 : Int32).toInt64 &&& 63)) ||| ((x2.toInt64) <<< ((22 : Int32).toInt64 &&& 63))) ||| ((x1.toInt64) <<< ((18 : Int32).toInt64 &&& 63))) ||| (x3.toInt64))))) H := hP
  have hD : va_D _ (cw cL cZ Q A (Hs.wbt z (vp_updL (Hs.abt z) (x4.toNatClampNeg) ((((x6 <<< ((40 : Int32).toInt64 &&& 63)) ||| ((x2.toInt64) <<< ((22 : Int32).toInt64 &&& 63))) ||| ((x1.toInt64) <<< ((18 : Int32).toInt64 &&& 63))) ||| (x3.toInt64))))) := hD
  refine lv_aload_n hx hb dX0_place_87 rfl (lv_at hl 0 rfl) ?_
  refine va_get (D := G) (ci := 0) (v := .ref (A 6)) (C := RX0) (T := TX0) (N := 14) hx hb hts (fun w h => .tail _ (wl_X0 w h)) hown hK hP 1 rfl rfl 3 (by decide) (hts _ (.tail _ wd_3)) (fun _ h9 => h9) rfl dX0_place_88 ?_
  refine lv_iload_n hx hb dX0_place_91 rfl (lv_at hl 3 rfl) ?_
  refine lv_iload hx hb dX0_place_92 (lv_at hl 4 rfl) ?_
  refine lv_i2l hx hb dX0_place_94 rfl ?_
  obtain ⟨hg7, hf⟩ := of_gd hf
  refine va_last (f := (Hs.ast z)) (n := (Hs.nst z)) hx hb hK hP hD hS 6 0 rfl rfl (inb_in hg7) dX0_place_95 (fun H locs hP hD hS => ?_)
  have hP : va_P G vwCl (cw cL cZ Q A (Hs.wst (Hs.wbt z (vp_updL (Hs.abt z) (x4.toNatClampNeg) ((((x6 <<< ((40 : Int32).toInt64 &&& 63)) ||| ((x2.toInt64) <<< ((22 : Int32).toInt64 &&& 63))) ||| ((x1.toInt64) <<< ((18 : Int32).toInt64 &&& 63))) ||| (x3.toInt64)))) (vp_updL (Hs.ast z) (x3.toNatClampNeg) (x4.toInt64)))) H := hP
  have hD : va_D _ (cw cL cZ Q A (Hs.wst (Hs.wbt z (vp_updL (Hs.abt z) (x4.toNatClampNeg) ((((x6 <<< ((40 : Int32).toInt64 &&& 63)) ||| ((x2.toInt64) <<< ((22 : Int32).toInt64 &&& 63))) ||| ((x1.toInt64) <<< ((18 : Int32).toInt64 &&& 63))) ||| (x3.toInt64)))) (vp_updL (Hs.ast z) (x3.toNatClampNeg) (x4.toInt64)))) := hD
  refine lv_aload_n hx hb dX0_place_96 rfl (lv_at hl 0 rfl) ?_
  refine lv_iload hx hb dX0_place_97 (lv_at hl 4 rfl) ?_
  refine lv_iload hx hb dX0_place_99 (lv_at hl 5 rfl) ?_
  refine lv_iadd hx hb dX0_place_101 ?_
  refine va_put (D := G) (ci := 0) (v := .int (x4 + x5)) (ty := .int) (C := RX0) (T := TX0) (N := 14) hx hb hts (fun w h => .tail _ (wl_X0 w h)) tyX0 tyX0_ok nmX0 hown hK hP hD hS 1 rfl rfl 9 (by decide) (hts _ (.tail _ wd_35)) (fun _ h9 => h9) rfl (by decide +kernel) rfl rfl (Nat.le_of_ble_eq_true rfl) dX0_place_102 (fun H locs hP hD hS => ?_)
  have hP : va_P G vwCl (cw cL cZ Q A (Hs.wst (Hs.wbt (Hs.sen z (x4 + x5)) (vp_updL (Hs.abt z) (x4.toNatClampNeg) ((((x6 <<< ((40 : Int32).toInt64 &&& 63)) ||| ((x2.toInt64) <<< ((22 : Int32).toInt64 &&& 63))) ||| ((x1.toInt64) <<< ((18 : Int32).toInt64 &&& 63))) ||| (x3.toInt64)))) (vp_updL (Hs.ast z) (x3.toNatClampNeg) (x4.toInt64)))) H := hP
  have hD : va_D _ (cw cL cZ Q A (Hs.wst (Hs.wbt (Hs.sen z (x4 + x5)) (vp_updL (Hs.abt z) (x4.toNatClampNeg) ((((x6 <<< ((40 : Int32).toInt64 &&& 63)) ||| ((x2.toInt64) <<< ((22 : Int32).toInt64 &&& 63))) ||| ((x1.toInt64) <<< ((18 : Int32).toInt64 &&& 63))) ||| (x3.toInt64)))) (vp_updL (Hs.ast z) (x3.toNatClampNeg) (x4.toInt64)))) := hD
  refine lv_iload_n hx hb dX0_place_105 rfl (lv_at hl 3 rfl) ?_
  obtain ⟨hc0, hj0⟩ := of_some2 hf
  subst hj0
  exact grWi hx hb hr hlocks hP hK hD hS dX0_place_106 (by omega) (by omega)
set_option maxHeartbeats 4000000 in
set_option maxRecDepth 100000 in
theorem c_hp_place (l : Launch) (G : va_G) (cL cZ : ClassId) (Q : Nat → Nat) (A : Nat → Nat) (z : Hs) (sz : Nat) (p0 : Int32) (p1 : Int32) (c0 : Nat) (O0 : Hs × Int32) (hf : hp_place z p0 p1 = some (c0, O0)) : Met l yX0_place vX0_place { frames := 5, cells := 5, slots := 0 + c0, locals := 124 } (gPc G vwCl (ct cL cZ) [.ref (Q 1), .int p0, .int p1] (cw cL cZ Q A z) sz) (qWi G vwCl (ct cL cZ) (cw cL cZ Q A z) sz (cw cL cZ Q) O0) 5 (0 + c0) (va_A (cw cL cZ Q A z) sz) := by
  refine gMet (by decide) rfl (Nat.le_of_ble_eq_true rfl) ?_
  intro p e s m below meth c ls C hK hP hD hsz hl
  subst hsz
  obtain ⟨hx, hb, hr, hml, hown, hts, hlocks⟩ := id C
  have FX : CallFix p m c cX0_place 8 s _ vX0_place RX0 := ⟨hx, hb, hml, hown, hts⟩
  have hA : ∀ q9 : Nat, s.heap.size ≤ q9 → va_A (cw cL cZ Q A z) s.heap.size q9 := fun q9 h => Or.inr h
  have hS : va_S (va_A (cw cL cZ Q A z) s.heap.size) s.heap s.heap [] := va_S.rf
  have hl : lv_has ls 8 [(0, .ref (Q 1)), (1, .int p0), (2, .int p1)] := hl
  unfold hp_place at hf
  refine lv_aload_n hx hb dX0_place_0 rfl (lv_at hl 0 rfl) ?_
  obtain ⟨k1, z1, r1, d1, ho1, hf, ek1⟩ := of_bcw hf
  refine gcWi (gV FX [] (c_hp_newHandle l G cL cZ Q A z _  k1 _ ho1) (cwV 0 hts (gi_V wd_100 wd_101 wd_102 wd_7 wd_103) rfl rfl rfl hdV_X0_newHandle ⟨Nat.le_of_ble_eq_true rfl, Nat.le_of_ble_eq_true rfl⟩) hK hP hD 1 rfl rfl rfl hl.1 (Nat.le_of_ble_eq_true rfl) dX0_place_1 ⟨by show _ ≤ 5; omega, by show _ ≤ 0 + c0; omega⟩) hS hD hA (fun A H locs hP hD hS => ?_)
  refine lv_istore_n (lv' := [(3, .int r1), (0, .ref (Q 1)), (1, .int p0), (2, .int p1)]) hx hb dX0_place_4 rfl hl (by decide) rfl (fun ls hl => ?_)
  refine lv_aload_n hx hb dX0_place_5 rfl (lv_at hl 1 rfl) ?_
  refine va_get (D := G) (ci := 0) (v := .int (Hs.en z1)) (C := RX0) (T := TX0) (N := 14) hx hb hts (fun w h => .tail _ (wl_X0 w h)) hown hK hP 1 rfl rfl 9 (by decide) (hts _ (.tail _ wd_35)) (fun _ h9 => h9) rfl dX0_place_6 ?_
  refine lv_istore (lv' := [(4, .int (Hs.en z1)), (3, .int r1), (0, .ref (Q 1)), (1, .int p0), (2, .int p1)]) hx hb dX0_place_9 hl (by decide) rfl (fun ls hl => ?_)
  refine lv_iload_n hx hb dX0_place_11 rfl (lv_at hl 3 rfl) ?_
  refine lv_iload_n hx hb dX0_place_12 rfl (lv_at hl 4 rfl) ?_
  obtain ⟨r2, ho2, hf⟩ := of_b0 hf
  refine gcRi (gS FX [.int p0, .int p1] (c_hp_sizeOf l G cL cZ Q A z1 _ p0 p1 _ ho2) (cwS 2 hts (gi_S wd_52 wd_53 wd_7 wd_54) rfl rfl rfl hdS_X0_sizeOf ⟨Nat.le_of_ble_eq_true rfl, Nat.le_of_ble_eq_true rfl⟩) hK hP hD rfl hl.1 (Nat.le_of_ble_eq_true rfl) dX0_place_13 ⟨by show _ ≤ 5; omega, by show _ ≤ 0 + c0; omega⟩) hS hD hA (fun H locs hP hS => ?_)
  refine lv_istore (lv' := [(5, .int r2), (4, .int (Hs.en z1)), (3, .int r1), (0, .ref (Q 1)), (1, .int p0), (2, .int p1)]) hx hb dX0_place_16 hl (by decide) rfl (fun ls hl => ?_)
  refine lv_aload_n hx hb dX0_place_18 rfl (lv_at hl 3 rfl) ?_
  refine lv_iload hx hb dX0_place_19 (lv_at hl 1 rfl) ?_
  refine lv_iload hx hb dX0_place_21 (lv_at hl 0 rfl) ?_
  refine lv_iadd hx hb dX0_place_23 ?_
  obtain ⟨k3, z3, o9, d3, ho3, hf, ek3⟩ := of_bcw hf
  refine gcWv (gV FX [.int ((Hs.en z1) + r2)] (c_hp_extendWords l G cL cZ Q A z1 _ ((Hs.en z1) + r2) k3 _ ho3) (cwV 1 hts (gi_V wd_96 wd_97 wd_98 wd_7 wd_99) rfl rfl rfl hdV_X0_extendWords ⟨Nat.le_of_ble_eq_true rfl, Nat.le_of_ble_eq_true rfl⟩) hK hP hD 1 rfl rfl rfl hl.1 (Nat.le_of_ble_eq_true rfl) dX0_place_24 ⟨by show _ ≤ 5; omega, by show _ ≤ 0 + c0; omega⟩) hS hD hA (fun A H locs hP hD hS => ?_)
  refine lv_aload_n hx hb dX0_place_27 rfl (lv_at hl 3 rfl) ?_
  refine lv_iload hx hb dX0_place_28 (lv_at hl 1 rfl) ?_
  refine lv_iload hx hb dX0_place_30 (lv_at hl 0 rfl) ?_
  obtain ⟨z4, o9, ho4, hf⟩ := of_bw hf
  refine gcWv (gV FX [.int (Hs.en z1), .int r2] (c_hp_clearWords l G cL cZ Q A z3 _ (Hs.en z1) r2 _ ho4) (cwV 2 hts (gi_V wd_92 wd_93 wd_94 wd_7 wd_95) rfl rfl rfl hdV_X0_clearWords ⟨Nat.le_of_ble_eq_true rfl, Nat.le_of_ble_eq_true rfl⟩) hK hP hD 1 rfl rfl rfl hl.1 (Nat.le_of_ble_eq_true rfl) dX0_place_32 ⟨by show _ ≤ 5; omega, by show _ ≤ 0 + c0; omega⟩) hS hD hA (fun A H locs hP hD hS => ?_)
  refine lv_lconst (v := 0) hx hb dX0_place_35 (by decide) ?_
  refine lv_lstore (lv' := [(6, .long 0), (5, .int r2), (4, .int (Hs.en z1)), (3, .int r1), (0, .ref (Q 1)), (1, .int p0), (2, .int p1)]) hx hb dX0_place_36 hl (by decide) rfl (fun ls hl => ?_)
  refine lv_iload_n hx hb dX0_place_38 rfl (lv_at hl 5 rfl) ?_
  refine lv_iconst (v := 5) hx hb dX0_place_39 (by decide) ?_
  refine lv_icmp_eq (tgt := 60) hx hb dX0_place_40 (by decide) (fun c5 => ?_) (fun c5 => ?_)
  · have hf := (if_pos c5).symm.trans hf
    exact L_hp_place_j60 _ _ _ _ _ _ _ _ _ _ _ _ _ _ _ _ _ C hK _ _ _ _ _ _ _ _ _ _ _ _ _ _ hP hD hS (lv_sub hl [4, 5, 6, 3, 2, 1, 0] rfl) hf (by omega) (by omega)
  · have hf := (if_neg c5).symm.trans hf
    refine lv_aload_n hx hb dX0_place_43 rfl (lv_at hl 4 rfl) ?_
    refine lv_dup hx hb dX0_place_44 rfl ?_
    refine va_get (D := G) (ci := 0) (v := .int (Hs.md z4)) (C := RX0) (T := TX0) (N := 14) hx hb hts (fun w h => .tail _ (wl_X0 w h)) hown hK hP 1 rfl rfl 10 (by decide) (hts _ (.tail _ wd_41)) (fun _ h9 => h9) rfl dX0_place_45 ?_
    refine lv_iconst (v := 1) hx hb dX0_place_48 (by decide) ?_
    refine lv_iadd hx hb dX0_place_49 ?_
    refine va_put (D := G) (ci := 0) (v := .int ((Hs.md z4) + 1)) (ty := .int) (C := RX0) (T := TX0) (N := 14) hx hb hts (fun w h => .tail _ (wl_X0 w h)) tyX0 tyX0_ok nmX0 hown hK hP hD hS 1 rfl rfl 10 (by decide) (hts _ (.tail _ wd_41)) (fun _ h9 => h9) rfl (by decide +kernel) rfl rfl (Nat.le_of_ble_eq_true rfl) dX0_place_50 (fun H locs hP hD hS => ?_)
    have hP : va_P G vwCl (cw cL cZ Q A (Hs.smd z4 ((Hs.md z4) + 1))) H := hP
    have hD : va_D _ (cw cL cZ Q A (Hs.smd z4 ((Hs.md z4) + 1))) := hD
    refine lv_aload_n hx hb dX0_place_53 rfl (lv_at hl 4 rfl) ?_
    refine va_get (D := G) (ci := 0) (v := .int ((Hs.md z4) + 1)) (C := RX0) (T := TX0) (N := 14) hx hb hts (fun w h => .tail _ (wl_X0 w h)) hown hK hP 1 rfl rfl 10 (by decide) (hts _ (.tail _ wd_41)) (fun _ h9 => h9) rfl dX0_place_54 ?_
    refine lv_i2l hx hb dX0_place_57 rfl ?_
    refine lv_lstore (lv' := [(6, .long (((Hs.md z4) + 1).toInt64)), (5, .int r2), (4, .int (Hs.en z1)), (3, .int r1), (0, .ref (Q 1)), (1, .int p0), (2, .int p1)]) hx hb dX0_place_58 hl (by decide) rfl (fun ls hl => ?_)
    exact L_hp_place_j60 _ _ _ _ _ _ _ _ _ _ _ _ _ _ _ _ _ C hK _ _ _ _ _ _ _ _ _ _ _ _ _ _ hP hD hS (lv_sub hl [4, 5, 6, 3, 2, 1, 0] rfl) hf (by omega) (by omega)
set_option maxHeartbeats 4000000 in
set_option maxRecDepth 100000 in
theorem c_hp_claim (l : Launch) (hl0 : l.stackTraces = false) (G : va_G) (cL cZ : ClassId) (Q : Nat → Nat) (A : Nat → Nat) (z : Hs) (sz : Nat) (p0 : Int32) (p1 : Int32) (c0 : Nat) (O0 : Hs × (String ⊕ Int32)) (hf : hp_claim z p0 p1 = some (c0, O0)) : vx_Met l yX0_claim vX0_claim { frames := 9, cells := 6, slots := 6 + c0, locals := 221 } (gPx txC G vwCl (ct cL cZ) [.ref (Q 1), .int p0, .int p1] (cw cL cZ Q A z) sz) (qXi G vwCl (ct cL cZ) (cw cL cZ Q A z) sz (cw cL cZ Q) O0) (xX G vwCl (ct cL cZ) (cw cL cZ Q A z) sz (cw cL cZ Q) O0) 6 (6 + c0) (va_A (cw cL cZ Q A z) sz) := by
  refine gMetx (by decide) rfl (Nat.le_of_ble_eq_true rfl) ?_
  intro p e s m below meth c ls C hE hK hP hD hT hsz hl
  subst hsz
  obtain ⟨hx, hb, hr, hml, hown, hts, hlocks⟩ := id C
  have FX : CallFix p m c cX0_claim 3 s _ vX0_claim RX0 := ⟨hx, hb, hml, hown, hts⟩
  have hA : ∀ q9 : Nat, s.heap.size ≤ q9 → va_A (cw cL cZ Q A z) s.heap.size q9 := fun q9 h => Or.inr h
  have hS : va_S (va_A (cw cL cZ Q A z) s.heap.size) s.heap s.heap [] := va_S.rf
  have hl : lv_has ls 3 [(0, .ref (Q 1)), (1, .int p0), (2, .int p1)] := hl
  unfold hp_claim at hf
  refine lv_aload_n hx hb dX0_claim_0 rfl (lv_at hl 0 rfl) ?_
  refine lv_iload_n hx hb dX0_claim_1 rfl (lv_at hl 1 rfl) ?_
  refine lv_iload_n hx hb dX0_claim_2 rfl (lv_at hl 2 rfl) ?_
  obtain ⟨r1, ho1, hf⟩ := of_b0 hf
  refine gcRi (gS FX [.int p0, .int p1] (c_hp_sizeOf l G cL cZ Q A z _ p0 p1 _ ho1) (cwS 2 hts (gi_S wd_52 wd_53 wd_7 wd_54) rfl rfl rfl hdS_X0_sizeOf ⟨Nat.le_of_ble_eq_true rfl, Nat.le_of_ble_eq_true rfl⟩) hK hP hD rfl hl.1 (Nat.le_of_ble_eq_true rfl) dX0_claim_3 ⟨by show _ ≤ 6; omega, by show _ ≤ 6 + c0; omega⟩) hS hD hA (fun H locs hP hS => ?_)
  rcases of_bwt hf with ⟨z2, e9, ho2, hj⟩ | ⟨z2, o9, ho2, hf⟩
  · obtain ⟨hc0, hj⟩ := of_pair hj
    subst hj
    exact goutXX (gVx FX [.int r1] (c_hp_needRoom l hl0 G cL cZ Q A z _ r1 _ ho2) (cwV 1 hts (gi_V wd_108 wd_109 wd_110 wd_7 wd_111) rfl rfl rfl hdV_X0_needRoom ⟨Nat.le_of_ble_eq_true rfl, Nat.le_of_ble_eq_true rfl⟩) hK hP hD hT hS hA 1 rfl rfl rfl hl.1 (Nat.le_of_ble_eq_true rfl) dX0_claim_6 ⟨by show _ ≤ 6; omega, by show _ ≤ 6 + c0; omega⟩) (noXv) hS hD hK hE hlocks (by omega) (by omega)
  refine gcXv (gVx FX [.int r1] (c_hp_needRoom l hl0 G cL cZ Q A z _ r1 _ ho2) (cwV 1 hts (gi_V wd_108 wd_109 wd_110 wd_7 wd_111) rfl rfl rfl hdV_X0_needRoom ⟨Nat.le_of_ble_eq_true rfl, Nat.le_of_ble_eq_true rfl⟩) hK hP hD hT hS hA 1 rfl rfl rfl hl.1 (Nat.le_of_ble_eq_true rfl) dX0_claim_6 ⟨by show _ ≤ 6; omega, by show _ ≤ 6 + c0; omega⟩) hS hD hA (fun A H locs hP hD hS => ?_)
  refine lv_aload_n hx hb dX0_claim_9 rfl (lv_at hl 0 rfl) ?_
  refine lv_iload_n hx hb dX0_claim_10 rfl (lv_at hl 1 rfl) ?_
  refine lv_iload_n hx hb dX0_claim_11 rfl (lv_at hl 2 rfl) ?_
  obtain ⟨k3, z3, r3, d3, ho3, hf, ek3⟩ := of_bcw hf
  refine gcWi (gV FX [.int p0, .int p1] (c_hp_place l G cL cZ Q A z2 _ p0 p1 k3 _ ho3) (cwV 2 hts (gi_V wd_104 wd_105 wd_106 wd_7 wd_107) rfl rfl rfl hdV_X0_place ⟨Nat.le_of_ble_eq_true rfl, Nat.le_of_ble_eq_true rfl⟩) hK hP hD 1 rfl rfl rfl hl.1 (Nat.le_of_ble_eq_true rfl) dX0_claim_12 ⟨by show _ ≤ 6; omega, by show _ ≤ 6 + c0; omega⟩) hS hD hA (fun A H locs hP hD hS => ?_)
  obtain ⟨hc0, hj0⟩ := of_some2 hf
  subst hj0
  exact grXi hx hb hr hlocks hP hK hD hS dX0_claim_15 (by omega) (by omega)
set_option maxHeartbeats 4000000 in
set_option maxRecDepth 100000 in
theorem c_tx_wordsFor (l : Launch) (G : va_G) (cL cZ : ClassId) (Q : Nat → Nat) (A : Nat → Nat) (z : Hs) (sz : Nat) (p0 : Int32) (O0 : Int32) (hf : tx_wordsFor z p0 = some O0) : Met l yX2_wordsFor vX2_wordsFor { frames := 1, cells := 0, slots := 0, locals := 21 } (gPc G vwCl (ct cL cZ) [.int p0] (cw cL cZ Q A z) sz) (qRi G vwCl (ct cL cZ) (cw cL cZ Q A z) sz O0) 0 0 (va_A (cw cL cZ Q A z) sz) := by
  refine gMet (by decide) rfl (Nat.le_of_ble_eq_true rfl) ?_
  intro p e s m below meth c ls C hK hP hD hsz hl
  subst hsz
  obtain ⟨hx, hb, hr, hml, hown, hts, hlocks⟩ := id C
  have FX : CallFix p m c cX2_wordsFor 1 s _ vX2_wordsFor RX2 := ⟨hx, hb, hml, hown, hts⟩
  have hA : ∀ q9 : Nat, s.heap.size ≤ q9 → va_A (cw cL cZ Q A z) s.heap.size q9 := fun q9 h => Or.inr h
  have hS : va_S (va_A (cw cL cZ Q A z) s.heap.size) s.heap s.heap [] := va_S.rf
  have hl : lv_has ls 1 [(0, .int p0)] := hl
  unfold tx_wordsFor at hf
  refine lv_iconst (v := 3) hx hb dX2_wordsFor_0 (by decide) ?_
  refine lv_iload_n hx hb dX2_wordsFor_1 rfl (lv_at hl 0 rfl) ?_
  obtain ⟨r1, ho1, hf⟩ := of_b0 hf
  refine gcRi (gS FX [.int 3, .int p0] (c_hp_sizeOf l G cL cZ Q A z _ 3 p0 _ ho1) (va_cwS 2 hts (gi_SU wd_112 wd_53 wd_113 wd_54) rfl rfl rfl hdU_X0_sizeOf ⟨Nat.le_of_ble_eq_true rfl, Nat.le_of_ble_eq_true rfl⟩) hK hP hD rfl hl.1 (Nat.le_of_ble_eq_true rfl) dX2_wordsFor_2 ⟨by show _ ≤ 0; omega, by show _ ≤ 0; omega⟩) hS hD hA (fun H locs hP hS => ?_)
  refine lv_iconst (v := 1) hx hb dX2_wordsFor_5 (by decide) ?_
  refine lv_isub hx hb dX2_wordsFor_6 ?_
  obtain rfl := Option.some.inj hf
  exact grRi hx hb hr hlocks hP hK hD hS dX2_wordsFor_7 (by omega) (by omega)
set_option maxHeartbeats 4000000 in
set_option maxRecDepth 100000 in
theorem c_tx_shiftOf (l : Launch) (G : va_G) (cL cZ : ClassId) (Q : Nat → Nat) (A : Nat → Nat) (z : Hs) (sz : Nat) (p0 : Int32) (O0 : Int32) (hf : tx_shiftOf z p0 = some O0) : Met l yX2_shiftOf vX2_shiftOf { frames := 0, cells := 0, slots := 0, locals := 0 } (gPc G vwCl (ct cL cZ) [.int p0] (cw cL cZ Q A z) sz) (qRi G vwCl (ct cL cZ) (cw cL cZ Q A z) sz O0) 0 0 (va_A (cw cL cZ Q A z) sz) := by
  refine gMet (by decide) rfl (Nat.le_of_ble_eq_true rfl) ?_
  intro p e s m below meth c ls C hK hP hD hsz hl
  subst hsz
  obtain ⟨hx, hb, hr, hml, hown, hts, hlocks⟩ := id C
  have FX : CallFix p m c cX2_shiftOf 1 s _ vX2_shiftOf RX2 := ⟨hx, hb, hml, hown, hts⟩
  have hA : ∀ q9 : Nat, s.heap.size ≤ q9 → va_A (cw cL cZ Q A z) s.heap.size q9 := fun q9 h => Or.inr h
  have hS : va_S (va_A (cw cL cZ Q A z) s.heap.size) s.heap s.heap [] := va_S.rf
  have hl : lv_has ls 1 [(0, .int p0)] := hl
  unfold tx_shiftOf at hf
  refine lv_bipush (v := 56) hx hb dX2_shiftOf_0 (by decide) ?_
  refine lv_bipush (v := 8) hx hb dX2_shiftOf_2 (by decide) ?_
  refine lv_iload_n hx hb dX2_shiftOf_4 rfl (lv_at hl 0 rfl) ?_
  refine lv_bipush (v := 7) hx hb dX2_shiftOf_5 (by decide) ?_
  refine lv_iand hx hb dX2_shiftOf_7 ?_
  refine lv_imul hx hb dX2_shiftOf_8 ?_
  refine lv_isub hx hb dX2_shiftOf_9 ?_
  obtain rfl := Option.some.inj hf
  exact grRi hx hb hr hlocks hP hK hD hS dX2_shiftOf_10 (by omega) (by omega)
set_option maxHeartbeats 4000000 in
set_option maxRecDepth 100000 in
theorem c_tx_byteOf (l : Launch) (G : va_G) (cL cZ : ClassId) (Q : Nat → Nat) (A : Nat → Nat) (z : Hs) (sz : Nat) (p0 : Int32) (p1 : Int32) (O0 : Int32) (hf : tx_byteOf z p0 p1 = some O0) : Met l yX2_byteOf vX2_byteOf { frames := 1, cells := 0, slots := 0, locals := 21 } (gPc G vwCl (ct cL cZ) [.ref (Q 2), .int p0, .int p1] (cw cL cZ Q A z) sz) (qRi G vwCl (ct cL cZ) (cw cL cZ Q A z) sz O0) 0 0 (va_A (cw cL cZ Q A z) sz) := by
  refine gMet (by decide) rfl (Nat.le_of_ble_eq_true rfl) ?_
  intro p e s m below meth c ls C hK hP hD hsz hl
  subst hsz
  obtain ⟨hx, hb, hr, hml, hown, hts, hlocks⟩ := id C
  have FX : CallFix p m c cX2_byteOf 3 s _ vX2_byteOf RX2 := ⟨hx, hb, hml, hown, hts⟩
  have hA : ∀ q9 : Nat, s.heap.size ≤ q9 → va_A (cw cL cZ Q A z) s.heap.size q9 := fun q9 h => Or.inr h
  have hS : va_S (va_A (cw cL cZ Q A z) s.heap.size) s.heap s.heap [] := va_S.rf
  have hl : lv_has ls 3 [(0, .ref (Q 2)), (1, .int p0), (2, .int p1)] := hl
  unfold tx_byteOf at hf
  refine lv_aload_n hx hb dX2_byteOf_0 rfl (lv_at hl 0 rfl) ?_
  refine va_get (D := G) (ci := 2) (v := .ref (Q 1)) (C := RX2) (T := TX2) (N := 1) hx hb hts (fun w h => .tail _ (wl_X2 w h)) hown hK hP 2 rfl rfl 0 (by decide) (hts _ (.tail _ wd_114)) (fun _ h9 => h9) rfl dX2_byteOf_1 ?_
  refine lv_aload_n hx hb dX2_byteOf_4 rfl (lv_at hl 0 rfl) ?_
  refine va_get (D := G) (ci := 2) (v := .ref (Q 1)) (C := RX2) (T := TX2) (N := 1) hx hb hts (fun w h => .tail _ (wl_X2 w h)) hown hK hP 2 rfl rfl 0 (by decide) (hts _ (.tail _ wd_114)) (fun _ h9 => h9) rfl dX2_byteOf_5 ?_
  refine lv_iload_n hx hb dX2_byteOf_8 rfl (lv_at hl 1 rfl) ?_
  obtain ⟨r1, ho1, hf⟩ := of_b0 hf
  refine gcRi (gV FX [.int p0] (c_hp_first l G cL cZ Q A z _ p0 _ ho1) (cwV 1 hts (gi_V wd_123 wd_65 wd_66 wd_7 wd_67) rfl rfl rfl hdV_X0_first ⟨Nat.le_of_ble_eq_true rfl, Nat.le_of_ble_eq_true rfl⟩) hK hP hD 1 rfl rfl rfl hl.1 (Nat.le_of_ble_eq_true rfl) dX2_byteOf_9 ⟨by show _ ≤ 0; omega, by show _ ≤ 0; omega⟩) hS hD hA (fun H locs hP hS => ?_)
  refine lv_iload_n hx hb dX2_byteOf_12 rfl (lv_at hl 2 rfl) ?_
  refine lv_iconst (v := 3) hx hb dX2_byteOf_13 (by decide) ?_
  refine lv_ishr hx hb dX2_byteOf_14 ?_
  refine lv_iadd hx hb dX2_byteOf_15 ?_
  obtain ⟨r2, ho2, hf⟩ := of_b0 hf
  refine gcRl (gV FX [.int (r1 + (p1 >>> ((3 : Int32) &&& 31)))] (c_hp_bitsAt l G cL cZ Q A z _ (r1 + (p1 >>> ((3 : Int32) &&& 31))) _ ho2) (cwV 1 hts (gi_V wd_119 wd_120 wd_121 wd_7 wd_122) rfl rfl rfl hdV_X0_bitsAt ⟨Nat.le_of_ble_eq_true rfl, Nat.le_of_ble_eq_true rfl⟩) hK hP hD 1 rfl rfl rfl hl.1 (Nat.le_of_ble_eq_true rfl) dX2_byteOf_16 ⟨by show _ ≤ 0; omega, by show _ ≤ 0; omega⟩) hS hD hA (fun H locs hP hS => ?_)
  refine lv_iload_n hx hb dX2_byteOf_19 rfl (lv_at hl 2 rfl) ?_
  obtain ⟨r3, ho3, hf⟩ := of_b0 hf
  refine gcRi (gS FX [.int p1] (c_tx_shiftOf l G cL cZ Q A z _ p1 _ ho3) (cwS 1 hts (gi_S wd_115 wd_116 wd_117 wd_118) rfl rfl rfl hdS_X2_shiftOf ⟨Nat.le_of_ble_eq_true rfl, Nat.le_of_ble_eq_true rfl⟩) hK hP hD rfl hl.1 (Nat.le_of_ble_eq_true rfl) dX2_byteOf_20 ⟨by show _ ≤ 0; omega, by show _ ≤ 0; omega⟩) hS hD hA (fun H locs hP hS => ?_)
  refine lv_lushr hx hb dX2_byteOf_23 rfl ?_
  refine lv_l2i hx hb dX2_byteOf_24 rfl ?_
  refine lv_sipush (v := 255) hx hb dX2_byteOf_25 (by decide) ?_
  refine lv_iand hx hb dX2_byteOf_28 ?_
  obtain rfl := Option.some.inj hf
  exact grRi hx hb hr hlocks hP hK hD hS dX2_byteOf_29 (by omega) (by omega)
set_option maxHeartbeats 4000000 in
set_option maxRecDepth 100000 in
theorem c_tx_changeByte (l : Launch) (G : va_G) (cL cZ : ClassId) (Q : Nat → Nat) (A : Nat → Nat) (z : Hs) (sz : Nat) (p0 : Int32) (p1 : Int32) (p2 : Int32) (O0 : Hs × Unit) (hf : tx_changeByte z p0 p1 p2 = some O0) : Met l yX2_changeByte vX2_changeByte { frames := 1, cells := 0, slots := 0, locals := 23 } (gPc G vwCl (ct cL cZ) [.ref (Q 2), .int p0, .int p1, .int p2] (cw cL cZ Q A z) sz) (qWv G vwCl (ct cL cZ) (cw cL cZ Q A z) sz (cw cL cZ Q) O0) 0 0 (va_A (cw cL cZ Q A z) sz) := by
  refine gMet (by decide) rfl (Nat.le_of_ble_eq_true rfl) ?_
  intro p e s m below meth c ls C hK hP hD hsz hl
  subst hsz
  obtain ⟨hx, hb, hr, hml, hown, hts, hlocks⟩ := id C
  have FX : CallFix p m c cX2_changeByte 7 s _ vX2_changeByte RX2 := ⟨hx, hb, hml, hown, hts⟩
  have hA : ∀ q9 : Nat, s.heap.size ≤ q9 → va_A (cw cL cZ Q A z) s.heap.size q9 := fun q9 h => Or.inr h
  have hS : va_S (va_A (cw cL cZ Q A z) s.heap.size) s.heap s.heap [] := va_S.rf
  have hl : lv_has ls 7 [(0, .ref (Q 2)), (1, .int p0), (2, .int p1), (3, .int p2)] := hl
  unfold tx_changeByte at hf
  refine lv_aload_n hx hb dX2_changeByte_0 rfl (lv_at hl 0 rfl) ?_
  refine va_get (D := G) (ci := 2) (v := .ref (Q 1)) (C := RX2) (T := TX2) (N := 1) hx hb hts (fun w h => .tail _ (wl_X2 w h)) hown hK hP 2 rfl rfl 0 (by decide) (hts _ (.tail _ wd_114)) (fun _ h9 => h9) rfl dX2_changeByte_1 ?_
  refine lv_iload_n hx hb dX2_changeByte_4 rfl (lv_at hl 1 rfl) ?_
  obtain ⟨r1, ho1, hf⟩ := of_b0 hf
  refine gcRi (gV FX [.int p0] (c_hp_first l G cL cZ Q A z _ p0 _ ho1) (cwV 1 hts (gi_V wd_123 wd_65 wd_66 wd_7 wd_67) rfl rfl rfl hdV_X0_first ⟨Nat.le_of_ble_eq_true rfl, Nat.le_of_ble_eq_true rfl⟩) hK hP hD 1 rfl rfl rfl hl.1 (Nat.le_of_ble_eq_true rfl) dX2_changeByte_5 ⟨by show _ ≤ 0; omega, by show _ ≤ 0; omega⟩) hS hD hA (fun H locs hP hS => ?_)
  refine lv_iload_n hx hb dX2_changeByte_8 rfl (lv_at hl 2 rfl) ?_
  refine lv_iconst (v := 3) hx hb dX2_changeByte_9 (by decide) ?_
  refine lv_ishr hx hb dX2_changeByte_10 ?_
  refine lv_iadd hx hb dX2_changeByte_11 ?_
  refine lv_istore (lv' := [(4, .int (r1 + (p1 >>> ((3 : Int32) &&& 31)))), (0, .ref (Q 2)), (1, .int p0), (2, .int p1), (3, .int p2)]) hx hb dX2_changeByte_12 hl (by decide) rfl (fun ls hl => ?_)
  refine lv_aload_n hx hb dX2_changeByte_14 rfl (lv_at hl 1 rfl) ?_
  refine va_get (D := G) (ci := 2) (v := .ref (Q 1)) (C := RX2) (T := TX2) (N := 1) hx hb hts (fun w h => .tail _ (wl_X2 w h)) hown hK hP 2 rfl rfl 0 (by decide) (hts _ (.tail _ wd_114)) (fun _ h9 => h9) rfl dX2_changeByte_15 ?_
  refine lv_iload hx hb dX2_changeByte_18 (lv_at hl 0 rfl) ?_
  obtain ⟨r2, ho2, hf⟩ := of_b0 hf
  refine gcRl (gV FX [.int (r1 + (p1 >>> ((3 : Int32) &&& 31)))] (c_hp_bitsAt l G cL cZ Q A z _ (r1 + (p1 >>> ((3 : Int32) &&& 31))) _ ho2) (cwV 1 hts (gi_V wd_119 wd_120 wd_121 wd_7 wd_122) rfl rfl rfl hdV_X0_bitsAt ⟨Nat.le_of_ble_eq_true rfl, Nat.le_of_ble_eq_true rfl⟩) hK hP hD 1 rfl rfl rfl hl.1 (Nat.le_of_ble_eq_true rfl) dX2_changeByte_20 ⟨by show _ ≤ 0; omega, by show _ ≤ 0; omega⟩) hS hD hA (fun H locs hP hS => ?_)
  refine lv_ldc2 (v := 255) hx hb hown (hts _ (.tail _ wd_124)) dX2_changeByte_23 ?_
  refine lv_iload_n hx hb dX2_changeByte_26 rfl (lv_at hl 3 rfl) ?_
  obtain ⟨r3, ho3, hf⟩ := of_b0 hf
  refine gcRi (gS FX [.int p1] (c_tx_shiftOf l G cL cZ Q A z _ p1 _ ho3) (cwS 1 hts (gi_S wd_115 wd_116 wd_117 wd_118) rfl rfl rfl hdS_X2_shiftOf ⟨Nat.le_of_ble_eq_true rfl, Nat.le_of_ble_eq_true rfl⟩) hK hP hD rfl hl.1 (Nat.le_of_ble_eq_true rfl) dX2_changeByte_27 ⟨by show _ ≤ 0; omega, by show _ ≤ 0; omega⟩) hS hD hA (fun H locs hP hS => ?_)
  refine lv_lshl hx hb dX2_changeByte_30 rfl ?_
  refine lv_ldc2 (v := (-1)) hx hb hown (hts _ (.tail _ wd_125)) dX2_changeByte_31 ?_
  refine lv_lxor hx hb dX2_changeByte_34 ?_
  refine lv_land hx hb dX2_changeByte_35 ?_
  refine lv_lstore (lv' := [(5, .long (r2 &&& (((255 : Int64) <<< (r3.toInt64 &&& 63)) ^^^ (-1)))), (4, .int (r1 + (p1 >>> ((3 : Int32) &&& 31)))), (0, .ref (Q 2)), (1, .int p0), (2, .int p1), (3, .int p2)]) hx hb dX2_changeByte_36 hl (by decide) rfl (fun ls hl => ?_)
  refine lv_aload_n hx hb dX2_changeByte_38 rfl (lv_at hl 2 rfl) ?_
  refine va_get (D := G) (ci := 2) (v := .ref (Q 1)) (C := RX2) (T := TX2) (N := 1) hx hb hts (fun w h => .tail _ (wl_X2 w h)) hown hK hP 2 rfl rfl 0 (by decide) (hts _ (.tail _ wd_114)) (fun _ h9 => h9) rfl dX2_changeByte_39 ?_
  refine lv_iload hx hb dX2_changeByte_42 (lv_at hl 1 rfl) ?_
  refine lv_lload hx hb dX2_changeByte_44 (lv_at hl 0 rfl) ?_
  refine lv_iload_n hx hb dX2_changeByte_46 rfl (lv_at hl 5 rfl) ?_
  refine lv_i2l hx hb dX2_changeByte_47 rfl ?_
  refine lv_ldc2 (v := 255) hx hb hown (hts _ (.tail _ wd_124)) dX2_changeByte_48 ?_
  refine lv_land hx hb dX2_changeByte_51 ?_
  refine lv_iload_n hx hb dX2_changeByte_52 rfl (lv_at hl 4 rfl) ?_
  obtain ⟨r4, ho4, hf⟩ := of_b0 hf
  refine gcRi (gS FX [.int p1] (c_tx_shiftOf l G cL cZ Q A z _ p1 _ ho4) (cwS 1 hts (gi_S wd_115 wd_116 wd_117 wd_118) rfl rfl rfl hdS_X2_shiftOf ⟨Nat.le_of_ble_eq_true rfl, Nat.le_of_ble_eq_true rfl⟩) hK hP hD rfl hl.1 (Nat.le_of_ble_eq_true rfl) dX2_changeByte_53 ⟨by show _ ≤ 0; omega, by show _ ≤ 0; omega⟩) hS hD hA (fun H locs hP hS => ?_)
  refine lv_lshl hx hb dX2_changeByte_56 rfl ?_
  refine lv_lor hx hb dX2_changeByte_57 ?_
  obtain ⟨z5, o9, ho5, hf⟩ := of_bw hf
  refine gcWv (gV FX [.int (r1 + (p1 >>> ((3 : Int32) &&& 31))), .long ((r2 &&& (((255 : Int64) <<< (r3.toInt64 &&& 63)) ^^^ (-1))) ||| (((p2.toInt64) &&& 255) <<< (r4.toInt64 &&& 63)))] (c_hp_setNumber l G cL cZ Q A z _ (r1 + (p1 >>> ((3 : Int32) &&& 31))) ((r2 &&& (((255 : Int64) <<< (r3.toInt64 &&& 63)) ^^^ (-1))) ||| (((p2.toInt64) &&& 255) <<< (r4.toInt64 &&& 63))) _ ho5) (cwV 2 hts (gi_V wd_126 wd_127 wd_128 wd_7 wd_129) rfl rfl rfl hdV_X0_setNumber ⟨Nat.le_of_ble_eq_true rfl, Nat.le_of_ble_eq_true rfl⟩) hK hP hD 1 rfl rfl rfl hl.1 (Nat.le_of_ble_eq_true rfl) dX2_changeByte_58 ⟨by show _ ≤ 0; omega, by show _ ≤ 0; omega⟩) hS hD hA (fun A H locs hP hD hS => ?_)
  obtain rfl := Option.some.inj hf
  exact grWv hx hb hr hlocks hP hK hD hS dX2_changeByte_61 (by omega) (by omega)
def At_tx_wordOf_j19 (l : Launch) (G : va_G) (cL cZ : ClassId) (Q : Nat → Nat) (A : Nat → Nat) (z : Hs) (p : Program) (e : Env) (s : State) (m : MethodId) (args : Array Value) (below : List Frame) (meth : Method) (c : Code) (O0 : Int64) (mcT msT : Nat) (F : Hs → Option (Int64)) : Prop := ∀ (_ : Unit) (H : Heap) (locs : List Loc) (ls : Array Slot) (cells slots : Nat), va_P G vwCl (cw cL cZ Q A z) H → va_D (va_A (cw cL cZ Q A z) s.heap.size) (cw cL cZ Q A z) → va_S (va_A (cw cL cZ Q A z) s.heap.size) s.heap H locs → lv_has ls 3 [] → F z = some O0 → cells + 0 ≤ mcT → slots + 0 ≤ msT → W p l e { frames := 2, cells := mcT, slots := msT, locals := 42 } s m args below meth c H locs cells slots (MQ below (qRl G vwCl (ct cL cZ) (cw cL cZ Q A z) s.heap.size O0) args s mcT msT (va_A (cw cL cZ Q A z) s.heap.size)) (F0 m 19 ls [])
set_option maxHeartbeats 4000000 in
set_option maxRecDepth 100000 in
theorem L_tx_wordOf_j19 (l : Launch) (G : va_G) (cL cZ : ClassId) (Q : Nat → Nat) (A : Nat → Nat) (z : Hs) (p : Program) (e : Env) (s : State) (m : MethodId) (args : Array Value) (below : List Frame) (meth : Method) (c : Code) (O0 : Int64) (mcT msT : Nat) (C : MC p s m args meth c cX2_wordOf 3 (some .long) RX2 vX2_wordOf) (hK : va_K G vwCl (ct cL cZ) s) : At_tx_wordOf_j19 l G cL cZ Q A z p e s m args below meth c O0 mcT msT tx_wordOf_j19 := by
  obtain ⟨hx, hb, hr, hml, hown, hts, hlocks⟩ := id C
  have FX : CallFix p m c cX2_wordOf 3 s args vX2_wordOf RX2 := ⟨hx, hb, hml, hown, hts⟩
  have hA : ∀ q9 : Nat, s.heap.size ≤ q9 → va_A (cw cL cZ Q A z) s.heap.size q9 := fun q9 h => Or.inr h
  intro _ H locs ls cells slots hP hD hS hl hf hcc hss
  unfold tx_wordOf_j19 at hf
  refine lv_lconst (v := 0) hx hb dX2_wordOf_19 (by decide) ?_
  refine lv_goto (tgt := 40) hx hb dX2_wordOf_20 (by decide) ?_
  obtain rfl := Option.some.inj hf
  exact grRl hx hb hr hlocks hP hK hD hS dX2_wordOf_40 (by omega) (by omega)
set_option maxHeartbeats 4000000 in
set_option maxRecDepth 100000 in
theorem c_tx_wordOf (l : Launch) (G : va_G) (cL cZ : ClassId) (Q : Nat → Nat) (A : Nat → Nat) (z : Hs) (sz : Nat) (p0 : Int32) (p1 : Int32) (O0 : Int64) (hf : tx_wordOf z p0 p1 = some O0) : Met l yX2_wordOf vX2_wordOf { frames := 2, cells := 0, slots := 0, locals := 42 } (gPc G vwCl (ct cL cZ) [.ref (Q 2), .int p0, .int p1] (cw cL cZ Q A z) sz) (qRl G vwCl (ct cL cZ) (cw cL cZ Q A z) sz O0) 0 0 (va_A (cw cL cZ Q A z) sz) := by
  refine gMet (by decide) rfl (Nat.le_of_ble_eq_true rfl) ?_
  intro p e s m below meth c ls C hK hP hD hsz hl
  subst hsz
  obtain ⟨hx, hb, hr, hml, hown, hts, hlocks⟩ := id C
  have FX : CallFix p m c cX2_wordOf 3 s _ vX2_wordOf RX2 := ⟨hx, hb, hml, hown, hts⟩
  have hA : ∀ q9 : Nat, s.heap.size ≤ q9 → va_A (cw cL cZ Q A z) s.heap.size q9 := fun q9 h => Or.inr h
  have hS : va_S (va_A (cw cL cZ Q A z) s.heap.size) s.heap s.heap [] := va_S.rf
  have hl : lv_has ls 3 [(0, .ref (Q 2)), (1, .int p0), (2, .int p1)] := hl
  unfold tx_wordOf at hf
  refine lv_iload_n hx hb dX2_wordOf_0 rfl (lv_at hl 2 rfl) ?_
  refine lv_if_lt (tgt := 19) hx hb dX2_wordOf_1 (by decide) (fun c1 => ?_) (fun c1 => ?_)
  · have hf := (if_pos c1).symm.trans hf
    exact L_tx_wordOf_j19 _ _ _ _ _ _ _ _ _ _ _ _ _ _ _ _ _ _ C hK () _ _ _ _ _ hP hD hS (lv_sub hl [] rfl) hf (by omega) (by omega)
  · have hf := (if_neg c1).symm.trans hf
    refine lv_iload_n hx hb dX2_wordOf_4 rfl (lv_at hl 2 rfl) ?_
    refine lv_aload_n hx hb dX2_wordOf_5 rfl (lv_at hl 0 rfl) ?_
    refine va_get (D := G) (ci := 2) (v := .ref (Q 1)) (C := RX2) (T := TX2) (N := 1) hx hb hts (fun w h => .tail _ (wl_X2 w h)) hown hK hP 2 rfl rfl 0 (by decide) (hts _ (.tail _ wd_114)) (fun _ h9 => h9) rfl dX2_wordOf_6 ?_
    refine lv_iload_n hx hb dX2_wordOf_9 rfl (lv_at hl 1 rfl) ?_
    obtain ⟨r2, ho2, hf⟩ := of_b0 hf
    refine gcRi (gV FX [.int p0] (c_hp_length l G cL cZ Q A z _ p0 _ ho2) (cwV 1 hts (gi_V wd_133 wd_61 wd_62 wd_7 wd_63) rfl rfl rfl hdV_X0_length ⟨Nat.le_of_ble_eq_true rfl, Nat.le_of_ble_eq_true rfl⟩) hK hP hD 1 rfl rfl rfl hl.1 (Nat.le_of_ble_eq_true rfl) dX2_wordOf_10 ⟨by show _ ≤ 0; omega, by show _ ≤ 0; omega⟩) hS hD hA (fun H locs hP hS => ?_)
    obtain ⟨r3, ho3, hf⟩ := of_b0 hf
    refine gcRi (gS FX [.int r2] (c_tx_wordsFor l G cL cZ Q A z _ r2 _ ho3) (cwS 1 hts (gi_S wd_130 wd_131 wd_117 wd_132) rfl rfl rfl hdS_X2_wordsFor ⟨Nat.le_of_ble_eq_true rfl, Nat.le_of_ble_eq_true rfl⟩) hK hP hD rfl hl.1 (Nat.le_of_ble_eq_true rfl) dX2_wordOf_13 ⟨by show _ ≤ 0; omega, by show _ ≤ 0; omega⟩) hS hD hA (fun H locs hP hS => ?_)
    refine lv_icmp_lt (tgt := 23) hx hb dX2_wordOf_16 (by decide) (fun c4 => ?_) (fun c4 => ?_)
    · have hf := (if_pos c4).symm.trans hf
      refine lv_aload_n hx hb dX2_wordOf_23 rfl (lv_at hl 0 rfl) ?_
      refine va_get (D := G) (ci := 2) (v := .ref (Q 1)) (C := RX2) (T := TX2) (N := 1) hx hb hts (fun w h => .tail _ (wl_X2 w h)) hown hK hP 2 rfl rfl 0 (by decide) (hts _ (.tail _ wd_114)) (fun _ h9 => h9) rfl dX2_wordOf_24 ?_
      refine lv_aload_n hx hb dX2_wordOf_27 rfl (lv_at hl 0 rfl) ?_
      refine va_get (D := G) (ci := 2) (v := .ref (Q 1)) (C := RX2) (T := TX2) (N := 1) hx hb hts (fun w h => .tail _ (wl_X2 w h)) hown hK hP 2 rfl rfl 0 (by decide) (hts _ (.tail _ wd_114)) (fun _ h9 => h9) rfl dX2_wordOf_28 ?_
      refine lv_iload_n hx hb dX2_wordOf_31 rfl (lv_at hl 1 rfl) ?_
      obtain ⟨r5, ho5, hf⟩ := of_b0 hf
      refine gcRi (gV FX [.int p0] (c_hp_first l G cL cZ Q A z _ p0 _ ho5) (cwV 1 hts (gi_V wd_123 wd_65 wd_66 wd_7 wd_67) rfl rfl rfl hdV_X0_first ⟨Nat.le_of_ble_eq_true rfl, Nat.le_of_ble_eq_true rfl⟩) hK hP hD 1 rfl rfl rfl hl.1 (Nat.le_of_ble_eq_true rfl) dX2_wordOf_32 ⟨by show _ ≤ 0; omega, by show _ ≤ 0; omega⟩) hS hD hA (fun H locs hP hS => ?_)
      refine lv_iload_n hx hb dX2_wordOf_35 rfl (lv_at hl 2 rfl) ?_
      refine lv_iadd hx hb dX2_wordOf_36 ?_
      obtain ⟨r6, ho6, hf⟩ := of_b0 hf
      refine gcRl (gV FX [.int (r5 + p1)] (c_hp_bitsAt l G cL cZ Q A z _ (r5 + p1) _ ho6) (cwV 1 hts (gi_V wd_119 wd_120 wd_121 wd_7 wd_122) rfl rfl rfl hdV_X0_bitsAt ⟨Nat.le_of_ble_eq_true rfl, Nat.le_of_ble_eq_true rfl⟩) hK hP hD 1 rfl rfl rfl hl.1 (Nat.le_of_ble_eq_true rfl) dX2_wordOf_37 ⟨by show _ ≤ 0; omega, by show _ ≤ 0; omega⟩) hS hD hA (fun H locs hP hS => ?_)
      obtain rfl := Option.some.inj hf
      exact grRl hx hb hr hlocks hP hK hD hS dX2_wordOf_40 (by omega) (by omega)
    · have hf := (if_neg c4).symm.trans hf
      exact L_tx_wordOf_j19 _ _ _ _ _ _ _ _ _ _ _ _ _ _ _ _ _ _ C hK () _ _ _ _ _ hP hD hS (lv_sub hl [] rfl) hf (by omega) (by omega)
set_option maxHeartbeats 4000000 in
set_option maxRecDepth 100000 in
theorem c_jl_compare (l : Launch) (G : va_G) (cL cZ : ClassId) (Q : Nat → Nat) (A : Nat → Nat) (z : Hs) (sz : Nat) (p0 : Int64) (p1 : Int64) (O0 : Int32) (hf : jl_compare z p0 p1 = some O0) : Met l yJL_compare vJL_compare { frames := 0, cells := 0, slots := 0, locals := 0 } (gPc G vwCl (ct cL cZ) [.long p0, .long p1] (cw cL cZ Q A z) sz) (qRi G vwCl (ct cL cZ) (cw cL cZ Q A z) sz O0) 0 0 (va_A (cw cL cZ Q A z) sz) := by
  refine gMet (by decide) rfl (Nat.le_of_ble_eq_true rfl) ?_
  intro p e s m below meth c ls C hK hP hD hsz hl
  subst hsz
  obtain ⟨hx, hb, hr, hml, hown, hts, hlocks⟩ := id C
  have FX : CallFix p m c cJL_compare 4 s _ vJL_compare "java/lang/Long" := ⟨hx, hb, hml, hown, hts⟩
  have hA : ∀ q9 : Nat, s.heap.size ≤ q9 → va_A (cw cL cZ Q A z) s.heap.size q9 := fun q9 h => Or.inr h
  have hS : va_S (va_A (cw cL cZ Q A z) s.heap.size) s.heap s.heap [] := va_S.rf
  have hl : lv_has ls 4 [(0, .long p0), (2, .long p1)] := hl
  unfold jl_compare at hf
  refine lv_lload_n hx hb dJL_compare_0 rfl (lv_at hl 0 rfl) ?_
  refine lv_lload_n hx hb dJL_compare_1 rfl (lv_at hl 1 rfl) ?_
  refine W.lcmp hx hb dJL_compare_2 ?_
  refine lv_if_ge (tgt := 10) hx hb dJL_compare_3 (by decide) (fun c1 => ?_) (fun c1 => ?_)
  · have hf := (if_pos c1).symm.trans hf
    refine lv_lload_n hx hb dJL_compare_10 rfl (lv_at hl 0 rfl) ?_
    refine lv_lload_n hx hb dJL_compare_11 rfl (lv_at hl 1 rfl) ?_
    refine W.lcmp hx hb dJL_compare_12 ?_
    refine lv_if_ne (tgt := 20) hx hb dJL_compare_13 (by decide) (fun c2 => ?_) (fun c2 => ?_)
    · have hf := (if_neg c2).symm.trans hf
      refine lv_iconst (v := 1) hx hb dJL_compare_20 (by decide) ?_
      obtain rfl := Option.some.inj hf
      exact grRi hx hb hr hlocks hP hK hD hS dJL_compare_21 (by omega) (by omega)
    · have hf := (if_pos c2).symm.trans hf
      refine lv_iconst (v := 0) hx hb dJL_compare_16 (by decide) ?_
      refine lv_goto (tgt := 21) hx hb dJL_compare_17 (by decide) ?_
      obtain rfl := Option.some.inj hf
      exact grRi hx hb hr hlocks hP hK hD hS dJL_compare_21 (by omega) (by omega)
  · have hf := (if_neg c1).symm.trans hf
    refine lv_iconst (v := (-1)) hx hb dJL_compare_6 (by decide) ?_
    refine lv_goto (tgt := 21) hx hb dJL_compare_7 (by decide) ?_
    obtain rfl := Option.some.inj hf
    exact grRi hx hb hr hlocks hP hK hD hS dJL_compare_21 (by omega) (by omega)
set_option maxHeartbeats 4000000 in
set_option maxRecDepth 100000 in
theorem c_ji_compare (l : Launch) (G : va_G) (cL cZ : ClassId) (Q : Nat → Nat) (A : Nat → Nat) (z : Hs) (sz : Nat) (p0 : Int32) (p1 : Int32) (O0 : Int32) (hf : ji_compare z p0 p1 = some O0) : Met l yJI_compare vJI_compare { frames := 0, cells := 0, slots := 0, locals := 0 } (gPc G vwCl (ct cL cZ) [.int p0, .int p1] (cw cL cZ Q A z) sz) (qRi G vwCl (ct cL cZ) (cw cL cZ Q A z) sz O0) 0 0 (va_A (cw cL cZ Q A z) sz) := by
  refine gMet (by decide) rfl (Nat.le_of_ble_eq_true rfl) ?_
  intro p e s m below meth c ls C hK hP hD hsz hl
  subst hsz
  obtain ⟨hx, hb, hr, hml, hown, hts, hlocks⟩ := id C
  have FX : CallFix p m c cJI_compare 2 s _ vJI_compare "java/lang/Integer" := ⟨hx, hb, hml, hown, hts⟩
  have hA : ∀ q9 : Nat, s.heap.size ≤ q9 → va_A (cw cL cZ Q A z) s.heap.size q9 := fun q9 h => Or.inr h
  have hS : va_S (va_A (cw cL cZ Q A z) s.heap.size) s.heap s.heap [] := va_S.rf
  have hl : lv_has ls 2 [(0, .int p0), (1, .int p1)] := hl
  unfold ji_compare at hf
  refine lv_iload_n hx hb dJI_compare_0 rfl (lv_at hl 0 rfl) ?_
  refine lv_iload_n hx hb dJI_compare_1 rfl (lv_at hl 1 rfl) ?_
  refine lv_icmp_ge (tgt := 9) hx hb dJI_compare_2 (by decide) (fun c1 => ?_) (fun c1 => ?_)
  · have hf := (if_pos c1).symm.trans hf
    refine lv_iload_n hx hb dJI_compare_9 rfl (lv_at hl 0 rfl) ?_
    refine lv_iload_n hx hb dJI_compare_10 rfl (lv_at hl 1 rfl) ?_
    refine lv_icmp_ne (tgt := 18) hx hb dJI_compare_11 (by decide) (fun c2 => ?_) (fun c2 => ?_)
    · have hf := (if_neg c2).symm.trans hf
      refine lv_iconst (v := 1) hx hb dJI_compare_18 (by decide) ?_
      obtain rfl := Option.some.inj hf
      exact grRi hx hb hr hlocks hP hK hD hS dJI_compare_19 (by omega) (by omega)
    · have hf := (if_pos c2).symm.trans hf
      refine lv_iconst (v := 0) hx hb dJI_compare_14 (by decide) ?_
      refine lv_goto (tgt := 19) hx hb dJI_compare_15 (by decide) ?_
      obtain rfl := Option.some.inj hf
      exact grRi hx hb hr hlocks hP hK hD hS dJI_compare_19 (by omega) (by omega)
  · have hf := (if_neg c1).symm.trans hf
    refine lv_iconst (v := (-1)) hx hb dJI_compare_5 (by decide) ?_
    refine lv_goto (tgt := 19) hx hb dJI_compare_6 (by decide) ?_
    obtain rfl := Option.some.inj hf
    exact grRi hx hb hr hlocks hP hK hD hS dJI_compare_19 (by omega) (by omega)
def At_tx_order_l26 (l : Launch) (G : va_G) (cL cZ : ClassId) (Q : Nat → Nat) (A : Nat → Nat) (z : Hs) (p : Program) (e : Env) (s : State) (m : MethodId) (args : Array Value) (below : List Frame) (meth : Method) (c : Code) (O0 : Int32) (mcT msT : Nat) (F : Int32 → Int32 → Int32 → Int32 → Hs → Option (Int32)) : Prop := ∀ (x1 : Int32) (x2 : Int32) (x3 : Int32) (x4 : Int32) (H : Heap) (locs : List Loc) (ls : Array Slot) (cells slots : Nat), va_P G vwCl (cw cL cZ Q A z) H → va_D (va_A (cw cL cZ Q A z) s.heap.size) (cw cL cZ Q A z) → va_S (va_A (cw cL cZ Q A z) s.heap.size) s.heap H locs → lv_has ls 6 [(0, .ref (Q 2)), (1, .int x1), (2, .int x2), (3, .int x3), (4, .int x4)] → F x1 x2 x3 x4 z = some O0 → cells + 0 ≤ mcT → slots + 0 ≤ msT → W p l e { frames := 3, cells := mcT, slots := msT, locals := 64 } s m args below meth c H locs cells slots (MQ below (qRi G vwCl (ct cL cZ) (cw cL cZ Q A z) s.heap.size O0) args s mcT msT (va_A (cw cL cZ Q A z) s.heap.size)) (F0 m 26 ls [])
set_option maxHeartbeats 4000000 in
set_option maxRecDepth 100000 in
theorem L_tx_order_l26 (l : Launch) (G : va_G) (cL cZ : ClassId) (Q : Nat → Nat) (A : Nat → Nat) (z : Hs) (p : Program) (e : Env) (s : State) (m : MethodId) (args : Array Value) (below : List Frame) (meth : Method) (c : Code) (O0 : Int32) (mcT msT : Nat) (C : MC p s m args meth c cX2_order 6 (some .int) RX2 vX2_order) (hK : va_K G vwCl (ct cL cZ) s) : ∀ n : Nat, At_tx_order_l26 l G cL cZ Q A z p e s m args below meth c O0 mcT msT (tx_order_l26 n) := by
  obtain ⟨hx, hb, hr, hml, hown, hts, hlocks⟩ := id C
  have FX : CallFix p m c cX2_order 6 s args vX2_order RX2 := ⟨hx, hb, hml, hown, hts⟩
  have hA : ∀ q9 : Nat, s.heap.size ≤ q9 → va_A (cw cL cZ Q A z) s.heap.size q9 := fun q9 h => Or.inr h
  intro n
  induction n with
  | zero =>
    intro x1 x2 x3 x4 H locs ls cells slots hP hD hS hl hf hcc hss
    exact nomatch (show none = some _ from hf)
  | succ n ih =>
    intro x1 x2 x3 x4 H locs ls cells slots hP hD hS hl hf hcc hss
    rw [tx_order_l26] at hf
    refine lv_iload hx hb dX2_order_26 (lv_at hl 4 rfl) ?_
    refine lv_iload_n hx hb dX2_order_28 rfl (lv_at hl 3 rfl) ?_
    refine lv_icmp_ge (tgt := 81) hx hb dX2_order_29 (by decide) (fun c5 => ?_) (fun c5 => ?_)
    · have hf := (if_pos c5).symm.trans hf
      refine lv_aload_n hx hb dX2_order_81 rfl (lv_at hl 0 rfl) ?_
      refine va_get (D := G) (ci := 2) (v := .ref (Q 1)) (C := RX2) (T := TX2) (N := 1) hx hb hts (fun w h => .tail _ (wl_X2 w h)) hown hK hP 2 rfl rfl 0 (by decide) (hts _ (.tail _ wd_114)) (fun _ h9 => h9) rfl dX2_order_82 ?_
      refine lv_iload_n hx hb dX2_order_85 rfl (lv_at hl 1 rfl) ?_
      obtain ⟨r6, ho6, hf⟩ := of_b0 hf
      refine gcRi (gV FX [.int x1] (c_hp_length l G cL cZ Q A z _ x1 _ ho6) (cwV 1 hts (gi_V wd_133 wd_61 wd_62 wd_7 wd_63) rfl rfl rfl hdV_X0_length ⟨Nat.le_of_ble_eq_true rfl, Nat.le_of_ble_eq_true rfl⟩) hK hP hD 1 rfl rfl rfl hl.1 (Nat.le_of_ble_eq_true rfl) dX2_order_86 ⟨by show _ ≤ mcT; omega, by show _ ≤ msT; omega⟩) hS hD hA (fun H locs hP hS => ?_)
      refine lv_aload_n hx hb dX2_order_89 rfl (lv_at hl 0 rfl) ?_
      refine va_get (D := G) (ci := 2) (v := .ref (Q 1)) (C := RX2) (T := TX2) (N := 1) hx hb hts (fun w h => .tail _ (wl_X2 w h)) hown hK hP 2 rfl rfl 0 (by decide) (hts _ (.tail _ wd_114)) (fun _ h9 => h9) rfl dX2_order_90 ?_
      refine lv_iload_n hx hb dX2_order_93 rfl (lv_at hl 2 rfl) ?_
      obtain ⟨r7, ho7, hf⟩ := of_b0 hf
      refine gcRi (gV FX [.int x2] (c_hp_length l G cL cZ Q A z _ x2 _ ho7) (cwV 1 hts (gi_V wd_133 wd_61 wd_62 wd_7 wd_63) rfl rfl rfl hdV_X0_length ⟨Nat.le_of_ble_eq_true rfl, Nat.le_of_ble_eq_true rfl⟩) hK hP hD 1 rfl rfl rfl hl.1 (Nat.le_of_ble_eq_true rfl) dX2_order_94 ⟨by show _ ≤ mcT; omega, by show _ ≤ msT; omega⟩) hS hD hA (fun H locs hP hS => ?_)
      obtain ⟨r8, ho8, hf⟩ := of_b0 hf
      refine gcRi (gS FX [.int r6, .int r7] (c_ji_compare l G cL cZ Q A z _ r6 r7 _ ho8) (va_cwS 2 hts (gi_SU wd_135 wd_136 wd_137 wd_138) rfl rfl rfl hdU_JI_compare ⟨Nat.le_of_ble_eq_true rfl, Nat.le_of_ble_eq_true rfl⟩) hK hP hD rfl hl.1 (Nat.le_of_ble_eq_true rfl) dX2_order_97 ⟨by show _ ≤ mcT; omega, by show _ ≤ msT; omega⟩) hS hD hA (fun H locs hP hS => ?_)
      obtain rfl := Option.some.inj hf
      exact grRi hx hb hr hlocks hP hK hD hS dX2_order_100 (by omega) (by omega)
    · have hf := (if_neg c5).symm.trans hf
      refine lv_aload_n hx hb dX2_order_32 rfl (lv_at hl 0 rfl) ?_
      refine lv_iload_n hx hb dX2_order_33 rfl (lv_at hl 1 rfl) ?_
      refine lv_iload hx hb dX2_order_34 (lv_at hl 4 rfl) ?_
      obtain ⟨r9, ho9, hf⟩ := of_b0 hf
      refine gcRl (gV FX [.int x1, .int x4] (c_tx_wordOf l G cL cZ Q A z _ x1 x4 _ ho9) (cwV 2 hts (gi_V wd_144 wd_145 wd_146 wd_117 wd_147) rfl rfl rfl hdV_X2_wordOf ⟨Nat.le_of_ble_eq_true rfl, Nat.le_of_ble_eq_true rfl⟩) hK hP hD 2 rfl rfl rfl hl.1 (Nat.le_of_ble_eq_true rfl) dX2_order_36 ⟨by show _ ≤ mcT; omega, by show _ ≤ msT; omega⟩) hS hD hA (fun H locs hP hS => ?_)
      refine lv_ldc2 (v := (-9223372036854775808)) hx hb hown (hts _ (.tail _ wd_139)) dX2_order_39 ?_
      refine lv_lxor hx hb dX2_order_42 ?_
      refine lv_aload_n hx hb dX2_order_43 rfl (lv_at hl 0 rfl) ?_
      refine lv_iload_n hx hb dX2_order_44 rfl (lv_at hl 2 rfl) ?_
      refine lv_iload hx hb dX2_order_45 (lv_at hl 4 rfl) ?_
      obtain ⟨r10, ho10, hf⟩ := of_b0 hf
      refine gcRl (gV FX [.int x2, .int x4] (c_tx_wordOf l G cL cZ Q A z _ x2 x4 _ ho10) (cwV 2 hts (gi_V wd_144 wd_145 wd_146 wd_117 wd_147) rfl rfl rfl hdV_X2_wordOf ⟨Nat.le_of_ble_eq_true rfl, Nat.le_of_ble_eq_true rfl⟩) hK hP hD 2 rfl rfl rfl hl.1 (Nat.le_of_ble_eq_true rfl) dX2_order_47 ⟨by show _ ≤ mcT; omega, by show _ ≤ msT; omega⟩) hS hD hA (fun H locs hP hS => ?_)
      refine lv_ldc2 (v := (-9223372036854775808)) hx hb hown (hts _ (.tail _ wd_139)) dX2_order_50 ?_
      refine lv_lxor hx hb dX2_order_53 ?_
      obtain ⟨r11, ho11, hf⟩ := of_b0 hf
      refine gcRi (gS FX [.long (r9 ^^^ (-9223372036854775808)), .long (r10 ^^^ (-9223372036854775808))] (c_jl_compare l G cL cZ Q A z _ (r9 ^^^ (-9223372036854775808)) (r10 ^^^ (-9223372036854775808)) _ ho11) (va_cwS 2 hts (gi_SU wd_140 wd_141 wd_142 wd_143) rfl rfl rfl hdU_JL_compare ⟨Nat.le_of_ble_eq_true rfl, Nat.le_of_ble_eq_true rfl⟩) hK hP hD rfl hl.1 (Nat.le_of_ble_eq_true rfl) dX2_order_54 ⟨by show _ ≤ mcT; omega, by show _ ≤ msT; omega⟩) hS hD hA (fun H locs hP hS => ?_)
      refine lv_istore (lv' := [(5, .int r11), (0, .ref (Q 2)), (1, .int x1), (2, .int x2), (3, .int x3), (4, .int x4)]) hx hb dX2_order_57 hl (by decide) rfl (fun ls hl => ?_)
      refine lv_iload hx hb dX2_order_59 (lv_at hl 0 rfl) ?_
      refine lv_if_eq (tgt := 75) hx hb dX2_order_61 (by decide) (fun c12 => ?_) (fun c12 => ?_)
      · have hf := (if_pos c12).symm.trans hf
        refine lv_iinc (v := (x4 + 1)) (lv' := [(4, .int (x4 + 1)), (5, .int r11), (0, .ref (Q 2)), (1, .int x1), (2, .int x2), (3, .int x3)]) hx hb dX2_order_75 hl (k := 5) rfl rfl (by decide) rfl (fun ls hl => ?_)
        refine lv_goto (tgt := 26) hx hb dX2_order_78 (by decide) ?_
        exact ih _ _ _ _ _ _ _ _ _ hP hD hS (lv_sub hl [2, 3, 4, 5, 0] rfl) hf (by omega) (by omega)
      · have hf := (if_neg c12).symm.trans hf
        refine lv_iload hx hb dX2_order_64 (lv_at hl 0 rfl) ?_
        refine lv_if_ge (tgt := 73) hx hb dX2_order_66 (by decide) (fun c13 => ?_) (fun c13 => ?_)
        · have hf := (if_pos c13).symm.trans hf
          refine lv_iconst (v := 1) hx hb dX2_order_73 (by decide) ?_
          obtain rfl := Option.some.inj hf
          exact grRi hx hb hr hlocks hP hK hD hS dX2_order_74 (by omega) (by omega)
        · have hf := (if_neg c13).symm.trans hf
          refine lv_iconst (v := (-1)) hx hb dX2_order_69 (by decide) ?_
          refine lv_goto (tgt := 74) hx hb dX2_order_70 (by decide) ?_
          obtain rfl := Option.some.inj hf
          exact grRi hx hb hr hlocks hP hK hD hS dX2_order_74 (by omega) (by omega)
set_option maxHeartbeats 4000000 in
set_option maxRecDepth 100000 in
theorem c_tx_order (l : Launch) (G : va_G) (cL cZ : ClassId) (Q : Nat → Nat) (A : Nat → Nat) (z : Hs) (sz : Nat) (p0 : Int32) (p1 : Int32) (O0 : Int32) (hf : tx_order z p0 p1 = some O0) : Met l yX2_order vX2_order { frames := 3, cells := 0, slots := 0, locals := 64 } (gPc G vwCl (ct cL cZ) [.ref (Q 2), .int p0, .int p1] (cw cL cZ Q A z) sz) (qRi G vwCl (ct cL cZ) (cw cL cZ Q A z) sz O0) 0 0 (va_A (cw cL cZ Q A z) sz) := by
  refine gMet (by decide) rfl (Nat.le_of_ble_eq_true rfl) ?_
  intro p e s m below meth c ls C hK hP hD hsz hl
  subst hsz
  obtain ⟨hx, hb, hr, hml, hown, hts, hlocks⟩ := id C
  have FX : CallFix p m c cX2_order 6 s _ vX2_order RX2 := ⟨hx, hb, hml, hown, hts⟩
  have hA : ∀ q9 : Nat, s.heap.size ≤ q9 → va_A (cw cL cZ Q A z) s.heap.size q9 := fun q9 h => Or.inr h
  have hS : va_S (va_A (cw cL cZ Q A z) s.heap.size) s.heap s.heap [] := va_S.rf
  have hl : lv_has ls 6 [(0, .ref (Q 2)), (1, .int p0), (2, .int p1)] := hl
  unfold tx_order at hf
  refine lv_aload_n hx hb dX2_order_0 rfl (lv_at hl 0 rfl) ?_
  refine va_get (D := G) (ci := 2) (v := .ref (Q 1)) (C := RX2) (T := TX2) (N := 1) hx hb hts (fun w h => .tail _ (wl_X2 w h)) hown hK hP 2 rfl rfl 0 (by decide) (hts _ (.tail _ wd_114)) (fun _ h9 => h9) rfl dX2_order_1 ?_
  refine lv_iload_n hx hb dX2_order_4 rfl (lv_at hl 1 rfl) ?_
  obtain ⟨r1, ho1, hf⟩ := of_b0 hf
  refine gcRi (gV FX [.int p0] (c_hp_length l G cL cZ Q A z _ p0 _ ho1) (cwV 1 hts (gi_V wd_133 wd_61 wd_62 wd_7 wd_63) rfl rfl rfl hdV_X0_length ⟨Nat.le_of_ble_eq_true rfl, Nat.le_of_ble_eq_true rfl⟩) hK hP hD 1 rfl rfl rfl hl.1 (Nat.le_of_ble_eq_true rfl) dX2_order_5 ⟨by show _ ≤ 0; omega, by show _ ≤ 0; omega⟩) hS hD hA (fun H locs hP hS => ?_)
  refine lv_aload_n hx hb dX2_order_8 rfl (lv_at hl 0 rfl) ?_
  refine va_get (D := G) (ci := 2) (v := .ref (Q 1)) (C := RX2) (T := TX2) (N := 1) hx hb hts (fun w h => .tail _ (wl_X2 w h)) hown hK hP 2 rfl rfl 0 (by decide) (hts _ (.tail _ wd_114)) (fun _ h9 => h9) rfl dX2_order_9 ?_
  refine lv_iload_n hx hb dX2_order_12 rfl (lv_at hl 2 rfl) ?_
  obtain ⟨r2, ho2, hf⟩ := of_b0 hf
  refine gcRi (gV FX [.int p1] (c_hp_length l G cL cZ Q A z _ p1 _ ho2) (cwV 1 hts (gi_V wd_133 wd_61 wd_62 wd_7 wd_63) rfl rfl rfl hdV_X0_length ⟨Nat.le_of_ble_eq_true rfl, Nat.le_of_ble_eq_true rfl⟩) hK hP hD 1 rfl rfl rfl hl.1 (Nat.le_of_ble_eq_true rfl) dX2_order_13 ⟨by show _ ≤ 0; omega, by show _ ≤ 0; omega⟩) hS hD hA (fun H locs hP hS => ?_)
  obtain ⟨r3, ho3, hf⟩ := of_b0 hf
  refine va_mmin hx hb (hml.trans hl.1.symm) hown (hts _ (.tail _ wd_134)) (hts _ (.tail _ wd_85)) (hts _ (.tail _ wd_86)) (hts _ (.tail _ wd_87)) (Nat.le_of_ble_eq_true rfl) (Nat.le_of_ble_eq_true rfl) (by show _ ≤ 0; omega) (by show _ ≤ 0; omega) dX2_order_16 ?_
  refine lv_topi (fun t3 et3 => ?_)
  obtain rfl : r3 = t3 := (et3.trans (Option.some.inj ho3)).symm
  obtain ⟨r4, ho4, hf⟩ := of_b0 hf
  refine gcRi (gS FX [.int r3] (c_tx_wordsFor l G cL cZ Q A z _ r3 _ ho4) (cwS 1 hts (gi_S wd_130 wd_131 wd_117 wd_132) rfl rfl rfl hdS_X2_wordsFor ⟨Nat.le_of_ble_eq_true rfl, Nat.le_of_ble_eq_true rfl⟩) hK hP hD rfl hl.1 (Nat.le_of_ble_eq_true rfl) dX2_order_19 ⟨by show _ ≤ 0; omega, by show _ ≤ 0; omega⟩) hS hD hA (fun H locs hP hS => ?_)
  refine lv_istore_n (lv' := [(3, .int r4), (0, .ref (Q 2)), (1, .int p0), (2, .int p1)]) hx hb dX2_order_22 rfl hl (by decide) rfl (fun ls hl => ?_)
  refine lv_iconst (v := 0) hx hb dX2_order_23 (by decide) ?_
  refine lv_istore (lv' := [(4, .int 0), (3, .int r4), (0, .ref (Q 2)), (1, .int p0), (2, .int p1)]) hx hb dX2_order_24 hl (by decide) rfl (fun ls hl => ?_)
  exact L_tx_order_l26 _ _ _ _ _ _ _ _ _ _ _ _ _ _ _ _ _ _ C hK FU _ _ _ _ _ _ _ _ _ hP hD hS (lv_sub hl [2, 3, 4, 1, 0] rfl) hf (by omega) (by omega)
def At_tx_alike_l32 (l : Launch) (G : va_G) (cL cZ : ClassId) (Q : Nat → Nat) (A : Nat → Nat) (z : Hs) (p : Program) (e : Env) (s : State) (m : MethodId) (args : Array Value) (below : List Frame) (meth : Method) (c : Code) (O0 : Int32) (mcT msT : Nat) (F : Int32 → Int32 → Int32 → Int32 → Hs → Option (Int32)) : Prop := ∀ (x1 : Int32) (x2 : Int32) (x4 : Int32) (x5 : Int32) (H : Heap) (locs : List Loc) (ls : Array Slot) (cells slots : Nat), va_P G vwCl (cw cL cZ Q A z) H → va_D (va_A (cw cL cZ Q A z) s.heap.size) (cw cL cZ Q A z) → va_S (va_A (cw cL cZ Q A z) s.heap.size) s.heap H locs → lv_has ls 6 [(0, .ref (Q 2)), (1, .int x1), (2, .int x2), (4, .int x4), (5, .int x5)] → F x1 x2 x4 x5 z = some O0 → cells + 0 ≤ mcT → slots + 0 ≤ msT → W p l e { frames := 2, cells := mcT, slots := msT, locals := 42 } s m args below meth c H locs cells slots (MQ below (qRi G vwCl (ct cL cZ) (cw cL cZ Q A z) s.heap.size O0) args s mcT msT (va_A (cw cL cZ Q A z) s.heap.size)) (F0 m 32 ls [])
set_option maxHeartbeats 4000000 in
set_option maxRecDepth 100000 in
theorem L_tx_alike_l32 (l : Launch) (G : va_G) (cL cZ : ClassId) (Q : Nat → Nat) (A : Nat → Nat) (z : Hs) (p : Program) (e : Env) (s : State) (m : MethodId) (args : Array Value) (below : List Frame) (meth : Method) (c : Code) (O0 : Int32) (mcT msT : Nat) (C : MC p s m args meth c cX2_alike 6 (some .boolean) RX2 vX2_alike) (hK : va_K G vwCl (ct cL cZ) s) : ∀ n : Nat, At_tx_alike_l32 l G cL cZ Q A z p e s m args below meth c O0 mcT msT (tx_alike_l32 n) := by
  obtain ⟨hx, hb, hr, hml, hown, hts, hlocks⟩ := id C
  have FX : CallFix p m c cX2_alike 6 s args vX2_alike RX2 := ⟨hx, hb, hml, hown, hts⟩
  have hA : ∀ q9 : Nat, s.heap.size ≤ q9 → va_A (cw cL cZ Q A z) s.heap.size q9 := fun q9 h => Or.inr h
  intro n
  induction n with
  | zero =>
    intro x1 x2 x4 x5 H locs ls cells slots hP hD hS hl hf hcc hss
    exact nomatch (show none = some _ from hf)
  | succ n ih =>
    intro x1 x2 x4 x5 H locs ls cells slots hP hD hS hl hf hcc hss
    rw [tx_alike_l32] at hf
    refine lv_iload hx hb dX2_alike_32 (lv_at hl 4 rfl) ?_
    refine lv_iload hx hb dX2_alike_34 (lv_at hl 3 rfl) ?_
    refine lv_icmp_ge (tgt := 87) hx hb dX2_alike_36 (by decide) (fun c5 => ?_) (fun c5 => ?_)
    · have hf := (if_pos c5).symm.trans hf
      refine lv_iconst (v := 1) hx hb dX2_alike_87 (by decide) ?_
      obtain rfl := Option.some.inj hf
      exact grRz (by decide) hx hb hr hlocks hP hK hD hS dX2_alike_88 (by omega) (by omega)
    · have hf := (if_neg c5).symm.trans hf
      refine lv_aload_n hx hb dX2_alike_39 rfl (lv_at hl 0 rfl) ?_
      refine va_get (D := G) (ci := 2) (v := .ref (Q 1)) (C := RX2) (T := TX2) (N := 1) hx hb hts (fun w h => .tail _ (wl_X2 w h)) hown hK hP 2 rfl rfl 0 (by decide) (hts _ (.tail _ wd_114)) (fun _ h9 => h9) rfl dX2_alike_40 ?_
      refine lv_aload_n hx hb dX2_alike_43 rfl (lv_at hl 0 rfl) ?_
      refine va_get (D := G) (ci := 2) (v := .ref (Q 1)) (C := RX2) (T := TX2) (N := 1) hx hb hts (fun w h => .tail _ (wl_X2 w h)) hown hK hP 2 rfl rfl 0 (by decide) (hts _ (.tail _ wd_114)) (fun _ h9 => h9) rfl dX2_alike_44 ?_
      refine lv_iload_n hx hb dX2_alike_47 rfl (lv_at hl 1 rfl) ?_
      obtain ⟨r6, ho6, hf⟩ := of_b0 hf
      refine gcRi (gV FX [.int x1] (c_hp_first l G cL cZ Q A z _ x1 _ ho6) (cwV 1 hts (gi_V wd_123 wd_65 wd_66 wd_7 wd_67) rfl rfl rfl hdV_X0_first ⟨Nat.le_of_ble_eq_true rfl, Nat.le_of_ble_eq_true rfl⟩) hK hP hD 1 rfl rfl rfl hl.1 (Nat.le_of_ble_eq_true rfl) dX2_alike_48 ⟨by show _ ≤ mcT; omega, by show _ ≤ msT; omega⟩) hS hD hA (fun H locs hP hS => ?_)
      refine lv_iload hx hb dX2_alike_51 (lv_at hl 4 rfl) ?_
      refine lv_iadd hx hb dX2_alike_53 ?_
      obtain ⟨r7, ho7, hf⟩ := of_b0 hf
      refine gcRl (gV FX [.int (r6 + x5)] (c_hp_bitsAt l G cL cZ Q A z _ (r6 + x5) _ ho7) (cwV 1 hts (gi_V wd_119 wd_120 wd_121 wd_7 wd_122) rfl rfl rfl hdV_X0_bitsAt ⟨Nat.le_of_ble_eq_true rfl, Nat.le_of_ble_eq_true rfl⟩) hK hP hD 1 rfl rfl rfl hl.1 (Nat.le_of_ble_eq_true rfl) dX2_alike_54 ⟨by show _ ≤ mcT; omega, by show _ ≤ msT; omega⟩) hS hD hA (fun H locs hP hS => ?_)
      refine lv_aload_n hx hb dX2_alike_57 rfl (lv_at hl 0 rfl) ?_
      refine va_get (D := G) (ci := 2) (v := .ref (Q 1)) (C := RX2) (T := TX2) (N := 1) hx hb hts (fun w h => .tail _ (wl_X2 w h)) hown hK hP 2 rfl rfl 0 (by decide) (hts _ (.tail _ wd_114)) (fun _ h9 => h9) rfl dX2_alike_58 ?_
      refine lv_aload_n hx hb dX2_alike_61 rfl (lv_at hl 0 rfl) ?_
      refine va_get (D := G) (ci := 2) (v := .ref (Q 1)) (C := RX2) (T := TX2) (N := 1) hx hb hts (fun w h => .tail _ (wl_X2 w h)) hown hK hP 2 rfl rfl 0 (by decide) (hts _ (.tail _ wd_114)) (fun _ h9 => h9) rfl dX2_alike_62 ?_
      refine lv_iload_n hx hb dX2_alike_65 rfl (lv_at hl 2 rfl) ?_
      obtain ⟨r8, ho8, hf⟩ := of_b0 hf
      refine gcRi (gV FX [.int x2] (c_hp_first l G cL cZ Q A z _ x2 _ ho8) (cwV 1 hts (gi_V wd_123 wd_65 wd_66 wd_7 wd_67) rfl rfl rfl hdV_X0_first ⟨Nat.le_of_ble_eq_true rfl, Nat.le_of_ble_eq_true rfl⟩) hK hP hD 1 rfl rfl rfl hl.1 (Nat.le_of_ble_eq_true rfl) dX2_alike_66 ⟨by show _ ≤ mcT; omega, by show _ ≤ msT; omega⟩) hS hD hA (fun H locs hP hS => ?_)
      refine lv_iload hx hb dX2_alike_69 (lv_at hl 4 rfl) ?_
      refine lv_iadd hx hb dX2_alike_71 ?_
      obtain ⟨r9, ho9, hf⟩ := of_b0 hf
      refine gcRl (gV FX [.int (r8 + x5)] (c_hp_bitsAt l G cL cZ Q A z _ (r8 + x5) _ ho9) (cwV 1 hts (gi_V wd_119 wd_120 wd_121 wd_7 wd_122) rfl rfl rfl hdV_X0_bitsAt ⟨Nat.le_of_ble_eq_true rfl, Nat.le_of_ble_eq_true rfl⟩) hK hP hD 1 rfl rfl rfl hl.1 (Nat.le_of_ble_eq_true rfl) dX2_alike_72 ⟨by show _ ≤ mcT; omega, by show _ ≤ msT; omega⟩) hS hD hA (fun H locs hP hS => ?_)
      refine W.lcmp hx hb dX2_alike_75 ?_
      refine lv_if_eq (tgt := 81) hx hb dX2_alike_76 (by decide) (fun c10 => ?_) (fun c10 => ?_)
      · have hf := (if_pos c10).symm.trans hf
        refine lv_iinc (v := (x5 + 1)) (lv' := [(5, .int (x5 + 1)), (0, .ref (Q 2)), (1, .int x1), (2, .int x2), (4, .int x4)]) hx hb dX2_alike_81 hl (k := 4) rfl rfl (by decide) rfl (fun ls hl => ?_)
        refine lv_goto (tgt := 32) hx hb dX2_alike_84 (by decide) ?_
        exact ih _ _ _ _ _ _ _ _ _ hP hD hS (lv_sub hl [1, 2, 3, 4, 0] rfl) hf (by omega) (by omega)
      · have hf := (if_neg c10).symm.trans hf
        refine lv_iconst (v := 0) hx hb dX2_alike_79 (by decide) ?_
        obtain rfl := Option.some.inj hf
        exact grRz (by decide) hx hb hr hlocks hP hK hD hS dX2_alike_80 (by omega) (by omega)
set_option maxHeartbeats 4000000 in
set_option maxRecDepth 100000 in
theorem c_tx_alike (l : Launch) (G : va_G) (cL cZ : ClassId) (Q : Nat → Nat) (A : Nat → Nat) (z : Hs) (sz : Nat) (p0 : Int32) (p1 : Int32) (O0 : Int32) (hf : tx_alike z p0 p1 = some O0) : Met l yX2_alike vX2_alike { frames := 2, cells := 0, slots := 0, locals := 42 } (gPc G vwCl (ct cL cZ) [.ref (Q 2), .int p0, .int p1] (cw cL cZ Q A z) sz) (qRi G vwCl (ct cL cZ) (cw cL cZ Q A z) sz O0) 0 0 (va_A (cw cL cZ Q A z) sz) := by
  refine gMet (by decide) rfl (Nat.le_of_ble_eq_true rfl) ?_
  intro p e s m below meth c ls C hK hP hD hsz hl
  subst hsz
  obtain ⟨hx, hb, hr, hml, hown, hts, hlocks⟩ := id C
  have FX : CallFix p m c cX2_alike 6 s _ vX2_alike RX2 := ⟨hx, hb, hml, hown, hts⟩
  have hA : ∀ q9 : Nat, s.heap.size ≤ q9 → va_A (cw cL cZ Q A z) s.heap.size q9 := fun q9 h => Or.inr h
  have hS : va_S (va_A (cw cL cZ Q A z) s.heap.size) s.heap s.heap [] := va_S.rf
  have hl : lv_has ls 6 [(0, .ref (Q 2)), (1, .int p0), (2, .int p1)] := hl
  unfold tx_alike at hf
  refine lv_aload_n hx hb dX2_alike_0 rfl (lv_at hl 0 rfl) ?_
  refine va_get (D := G) (ci := 2) (v := .ref (Q 1)) (C := RX2) (T := TX2) (N := 1) hx hb hts (fun w h => .tail _ (wl_X2 w h)) hown hK hP 2 rfl rfl 0 (by decide) (hts _ (.tail _ wd_114)) (fun _ h9 => h9) rfl dX2_alike_1 ?_
  refine lv_iload_n hx hb dX2_alike_4 rfl (lv_at hl 1 rfl) ?_
  obtain ⟨r1, ho1, hf⟩ := of_b0 hf
  refine gcRi (gV FX [.int p0] (c_hp_length l G cL cZ Q A z _ p0 _ ho1) (cwV 1 hts (gi_V wd_133 wd_61 wd_62 wd_7 wd_63) rfl rfl rfl hdV_X0_length ⟨Nat.le_of_ble_eq_true rfl, Nat.le_of_ble_eq_true rfl⟩) hK hP hD 1 rfl rfl rfl hl.1 (Nat.le_of_ble_eq_true rfl) dX2_alike_5 ⟨by show _ ≤ 0; omega, by show _ ≤ 0; omega⟩) hS hD hA (fun H locs hP hS => ?_)
  refine lv_istore_n (lv' := [(3, .int r1), (0, .ref (Q 2)), (1, .int p0), (2, .int p1)]) hx hb dX2_alike_8 rfl hl (by decide) rfl (fun ls hl => ?_)
  refine lv_iload_n hx hb dX2_alike_9 rfl (lv_at hl 0 rfl) ?_
  refine lv_aload_n hx hb dX2_alike_10 rfl (lv_at hl 1 rfl) ?_
  refine va_get (D := G) (ci := 2) (v := .ref (Q 1)) (C := RX2) (T := TX2) (N := 1) hx hb hts (fun w h => .tail _ (wl_X2 w h)) hown hK hP 2 rfl rfl 0 (by decide) (hts _ (.tail _ wd_114)) (fun _ h9 => h9) rfl dX2_alike_11 ?_
  refine lv_iload_n hx hb dX2_alike_14 rfl (lv_at hl 3 rfl) ?_
  obtain ⟨r2, ho2, hf⟩ := of_b0 hf
  refine gcRi (gV FX [.int p1] (c_hp_length l G cL cZ Q A z _ p1 _ ho2) (cwV 1 hts (gi_V wd_133 wd_61 wd_62 wd_7 wd_63) rfl rfl rfl hdV_X0_length ⟨Nat.le_of_ble_eq_true rfl, Nat.le_of_ble_eq_true rfl⟩) hK hP hD 1 rfl rfl rfl hl.1 (Nat.le_of_ble_eq_true rfl) dX2_alike_15 ⟨by show _ ≤ 0; omega, by show _ ≤ 0; omega⟩) hS hD hA (fun H locs hP hS => ?_)
  refine lv_icmp_eq (tgt := 23) hx hb dX2_alike_18 (by decide) (fun c3 => ?_) (fun c3 => ?_)
  · have hf := (if_pos c3).symm.trans hf
    refine lv_iload_n hx hb dX2_alike_23 rfl (lv_at hl 0 rfl) ?_
    obtain ⟨r4, ho4, hf⟩ := of_b0 hf
    refine gcRi (gS FX [.int r1] (c_tx_wordsFor l G cL cZ Q A z _ r1 _ ho4) (cwS 1 hts (gi_S wd_130 wd_131 wd_117 wd_132) rfl rfl rfl hdS_X2_wordsFor ⟨Nat.le_of_ble_eq_true rfl, Nat.le_of_ble_eq_true rfl⟩) hK hP hD rfl hl.1 (Nat.le_of_ble_eq_true rfl) dX2_alike_24 ⟨by show _ ≤ 0; omega, by show _ ≤ 0; omega⟩) hS hD hA (fun H locs hP hS => ?_)
    refine lv_istore (lv' := [(4, .int r4), (3, .int r1), (0, .ref (Q 2)), (1, .int p0), (2, .int p1)]) hx hb dX2_alike_27 hl (by decide) rfl (fun ls hl => ?_)
    refine lv_iconst (v := 0) hx hb dX2_alike_29 (by decide) ?_
    refine lv_istore (lv' := [(5, .int 0), (4, .int r4), (3, .int r1), (0, .ref (Q 2)), (1, .int p0), (2, .int p1)]) hx hb dX2_alike_30 hl (by decide) rfl (fun ls hl => ?_)
    exact L_tx_alike_l32 _ _ _ _ _ _ _ _ _ _ _ _ _ _ _ _ _ _ C hK FU _ _ _ _ _ _ _ _ _ hP hD hS (lv_sub hl [3, 4, 5, 1, 0] rfl) hf (by omega) (by omega)
  · have hf := (if_neg c3).symm.trans hf
    refine lv_iconst (v := 0) hx hb dX2_alike_21 (by decide) ?_
    obtain rfl := Option.some.inj hf
    exact grRz (by decide) hx hb hr hlocks hP hK hD hS dX2_alike_22 (by omega) (by omega)
