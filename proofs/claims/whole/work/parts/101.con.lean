set_option maxHeartbeats 4000000 in
set_option maxRecDepth 100000 in
theorem c_hp_freeze (l : Launch) (G : va_G) (cL cZ : ClassId) (Q : Nat → Nat) (A : Nat → Nat) (z : Hs) (sz : Nat) (p0 : Int32) (O0 : Hs × Unit) (hf : hp_freeze z p0 = some O0) : Met l yX0_freeze vX0_freeze { frames := 0, cells := 0, slots := 0, locals := 0 } (gPc G vwCl (ct cL cZ) [.ref (Q 1), .int p0] (cw cL cZ Q A z) sz) (qWv G vwCl (ct cL cZ) (cw cL cZ Q A z) sz (cw cL cZ Q) O0) 0 0 (va_A (cw cL cZ Q A z) sz) := by
  refine gMet (by decide) rfl (Nat.le_of_ble_eq_true rfl) ?_
  intro p e s m below meth c ls C hK hP hD hsz hl
  subst hsz
  obtain ⟨hx, hb, hr, hml, hown, hts, hlocks⟩ := id C
  have FX : CallFix p m c cX0_freeze 2 s _ vX0_freeze RX0 := ⟨hx, hb, hml, hown, hts⟩
  have hA : ∀ q9 : Nat, s.heap.size ≤ q9 → va_A (cw cL cZ Q A z) s.heap.size q9 := fun q9 h => Or.inr h
  have hS : va_S (va_A (cw cL cZ Q A z) s.heap.size) s.heap s.heap [] := va_S.rf
  have hl : lv_has ls 2 [(0, .ref (Q 1)), (1, .int p0)] := hl
  unfold hp_freeze at hf
  refine lv_aload_n hx hb dX0_freeze_0 rfl (lv_at hl 0 rfl) ?_
  refine va_get (D := G) (ci := 0) (v := .ref (A 4)) (C := RX0) (T := TX0) (N := 14) hx hb hts (fun w h => .tail _ (wl_X0 w h)) hown hK hP 1 rfl rfl 1 (by decide) (hts _ (.tail _ wd_0)) (fun _ h9 => h9) rfl dX0_freeze_1 ?_
  refine lv_aload_n hx hb dX0_freeze_4 rfl (lv_at hl 0 rfl) ?_
  refine va_get (D := G) (ci := 0) (v := .ref (A 6)) (C := RX0) (T := TX0) (N := 14) hx hb hts (fun w h => .tail _ (wl_X0 w h)) hown hK hP 1 rfl rfl 3 (by decide) (hts _ (.tail _ wd_3)) (fun _ h9 => h9) rfl dX0_freeze_5 ?_
  refine lv_iload_n hx hb dX0_freeze_8 rfl (lv_at hl 1 rfl) ?_
  obtain ⟨hg1, hf⟩ := of_gd hf
  refine va_lald (f := (Hs.ast z)) (n := (Hs.nst z)) hx hb hK hP 6 0 rfl rfl (inb_in hg1) dX0_freeze_9 ?_
  refine lv_l2i hx hb dX0_freeze_10 rfl ?_
  refine lv_dup2_11 hx hb dX0_freeze_11 rfl rfl ?_
  obtain ⟨hg2, hf⟩ := of_gd hf
  refine va_lald (f := (Hs.abt z)) (n := (Hs.nbt z)) hx hb hK hP 4 0 rfl rfl (inb_in hg2) dX0_freeze_12 ?_
  refine lv_ldc2 (v := 2097152) hx hb hown (hts _ (.tail _ wd_33)) dX0_freeze_13 ?_
  refine lv_lor hx hb dX0_freeze_16 ?_
  obtain ⟨hg3, hf⟩ := of_gd hf
  refine va_last (f := (Hs.abt z)) (n := (Hs.nbt z)) hx hb hK hP hD hS 4 0 rfl rfl (inb_in hg3) dX0_freeze_17 (fun H locs hP hD hS => ?_)
  have hP : va_P G vwCl (cw cL cZ Q A (Hs.wbt z (vp_updL (Hs.abt z) ((((Hs.ast z) p0.toNatClampNeg).toInt32).toNatClampNeg) (((Hs.abt z) (((Hs.ast z) p0.toNatClampNeg).toInt32).toNatClampNeg) ||| 2097152)))) H := hP
  have hD : va_D _ (cw cL cZ Q A (Hs.wbt z (vp_updL (Hs.abt z) ((((Hs.ast z) p0.toNatClampNeg).toInt32).toNatClampNeg) (((Hs.abt z) (((Hs.ast z) p0.toNatClampNeg).toInt32).toNatClampNeg) ||| 2097152)))) := hD
  obtain rfl := Option.some.inj hf
  exact grWv hx hb hr hlocks hP hK hD hS dX0_freeze_18 (by omega) (by omega)
set_option maxHeartbeats 4000000 in
set_option maxRecDepth 100000 in
theorem c_hp_setEager (l : Launch) (G : va_G) (cL cZ : ClassId) (Q : Nat → Nat) (A : Nat → Nat) (z : Hs) (sz : Nat) (p0 : Int32) (O0 : Hs × Unit) (hf : hp_setEager z p0 = some O0) : Met l yX0_setEager vX0_setEager { frames := 0, cells := 0, slots := 0, locals := 0 } (gPc G vwCl (ct cL cZ) [.ref (Q 1), .int p0] (cw cL cZ Q A z) sz) (qWv G vwCl (ct cL cZ) (cw cL cZ Q A z) sz (cw cL cZ Q) O0) 0 0 (va_A (cw cL cZ Q A z) sz) := by
  refine gMet (by decide) rfl (Nat.le_of_ble_eq_true rfl) ?_
  intro p e s m below meth c ls C hK hP hD hsz hl
  subst hsz
  obtain ⟨hx, hb, hr, hml, hown, hts, hlocks⟩ := id C
  have FX : CallFix p m c cX0_setEager 2 s _ vX0_setEager RX0 := ⟨hx, hb, hml, hown, hts⟩
  have hA : ∀ q9 : Nat, s.heap.size ≤ q9 → va_A (cw cL cZ Q A z) s.heap.size q9 := fun q9 h => Or.inr h
  have hS : va_S (va_A (cw cL cZ Q A z) s.heap.size) s.heap s.heap [] := va_S.rf
  have hl : lv_has ls 2 [(0, .ref (Q 1)), (1, .int p0)] := hl
  unfold hp_setEager at hf
  refine lv_aload_n hx hb dX0_setEager_0 rfl (lv_at hl 0 rfl) ?_
  refine lv_iload_n hx hb dX0_setEager_1 rfl (lv_at hl 1 rfl) ?_
  obtain ⟨hg1, hf⟩ := of_gd hf
  refine va_put (D := G) (ci := 0) (v := .int p0) (ty := .boolean) (C := RX0) (T := TX0) (N := 14) hx hb hts (fun w h => .tail _ (wl_X0 w h)) tyX0 tyX0_ok nmX0 hown hK hP hD hS 1 rfl rfl 13 (by decide) (hts _ (.tail _ wd_34)) (fun _ h9 => h9) rfl (by decide +kernel) (zbo_n hg1) (zbo_f hg1) (Nat.le_of_ble_eq_true rfl) dX0_setEager_2 (fun H locs hP hD hS => ?_)
  have hP : va_P G vwCl (cw cL cZ Q A (Hs.sal z p0)) H := hP
  have hD : va_D _ (cw cL cZ Q A (Hs.sal z p0)) := hD
  obtain rfl := Option.some.inj hf
  exact grWv hx hb hr hlocks hP hK hD hS dX0_setEager_5 (by omega) (by omega)
set_option maxHeartbeats 4000000 in
set_option maxRecDepth 100000 in
theorem c_hp_used (l : Launch) (G : va_G) (cL cZ : ClassId) (Q : Nat → Nat) (A : Nat → Nat) (z : Hs) (sz : Nat) (O0 : Int32) (hf : hp_used z = some O0) : Met l yX0_used vX0_used { frames := 0, cells := 0, slots := 0, locals := 0 } (gPc G vwCl (ct cL cZ) [.ref (Q 1)] (cw cL cZ Q A z) sz) (qRi G vwCl (ct cL cZ) (cw cL cZ Q A z) sz O0) 0 0 (va_A (cw cL cZ Q A z) sz) := by
  refine gMet (by decide) rfl (Nat.le_of_ble_eq_true rfl) ?_
  intro p e s m below meth c ls C hK hP hD hsz hl
  subst hsz
  obtain ⟨hx, hb, hr, hml, hown, hts, hlocks⟩ := id C
  have FX : CallFix p m c cX0_used 1 s _ vX0_used RX0 := ⟨hx, hb, hml, hown, hts⟩
  have hA : ∀ q9 : Nat, s.heap.size ≤ q9 → va_A (cw cL cZ Q A z) s.heap.size q9 := fun q9 h => Or.inr h
  have hS : va_S (va_A (cw cL cZ Q A z) s.heap.size) s.heap s.heap [] := va_S.rf
  have hl : lv_has ls 1 [(0, .ref (Q 1))] := hl
  unfold hp_used at hf
  refine lv_aload_n hx hb dX0_used_0 rfl (lv_at hl 0 rfl) ?_
  refine va_get (D := G) (ci := 0) (v := .int (Hs.en z)) (C := RX0) (T := TX0) (N := 14) hx hb hts (fun w h => .tail _ (wl_X0 w h)) hown hK hP 1 rfl rfl 9 (by decide) (hts _ (.tail _ wd_35)) (fun _ h9 => h9) rfl dX0_used_1 ?_
  refine lv_bipush (v := 17) hx hb dX0_used_4 (by decide) ?_
  refine lv_isub hx hb dX0_used_6 ?_
  obtain rfl := Option.some.inj hf
  exact grRi hx hb hr hlocks hP hK hD hS dX0_used_7 (by omega) (by omega)
set_option maxHeartbeats 4000000 in
set_option maxRecDepth 100000 in
theorem c_hp_count (l : Launch) (G : va_G) (cL cZ : ClassId) (Q : Nat → Nat) (A : Nat → Nat) (z : Hs) (sz : Nat) (p0 : Int32) (O0 : Int32) (hf : hp_count z p0 = some O0) : Met l yX0_count vX0_count { frames := 1, cells := 0, slots := 0, locals := 20 } (gPc G vwCl (ct cL cZ) [.ref (Q 1), .int p0] (cw cL cZ Q A z) sz) (qRi G vwCl (ct cL cZ) (cw cL cZ Q A z) sz O0) 0 0 (va_A (cw cL cZ Q A z) sz) := by
  refine gMet (by decide) rfl (Nat.le_of_ble_eq_true rfl) ?_
  intro p e s m below meth c ls C hK hP hD hsz hl
  subst hsz
  obtain ⟨hx, hb, hr, hml, hown, hts, hlocks⟩ := id C
  have FX : CallFix p m c cX0_count 2 s _ vX0_count RX0 := ⟨hx, hb, hml, hown, hts⟩
  have hA : ∀ q9 : Nat, s.heap.size ≤ q9 → va_A (cw cL cZ Q A z) s.heap.size q9 := fun q9 h => Or.inr h
  have hS : va_S (va_A (cw cL cZ Q A z) s.heap.size) s.heap s.heap [] := va_S.rf
  have hl : lv_has ls 2 [(0, .ref (Q 1)), (1, .int p0)] := hl
  unfold hp_count at hf
  refine lv_iload_n hx hb dX0_count_0 rfl (lv_at hl 1 rfl) ?_
  rcases Decidable.em (p0 = 0) with c2 | c2
  · have hf := (if_pos c2).symm.trans hf
    refine lv_tableIn (tgt := 32) (off := 31) hx hb dX0_count_1 (by rw [c2]; decide) (by rw [c2]; decide) (by rw [c2]; rfl) (by decide) ?_
    refine lv_aload_n hx hb dX0_count_32 rfl (lv_at hl 0 rfl) ?_
    obtain ⟨r1, ho1, hf⟩ := of_b0 hf
    refine gcRi (gV FX [] (c_hp_used l G cL cZ Q A z _  _ ho1) (cwV 0 hts (gi_V wd_36 wd_37 wd_38 wd_7 wd_39) rfl rfl rfl hdV_X0_used ⟨Nat.le_of_ble_eq_true rfl, Nat.le_of_ble_eq_true rfl⟩) hK hP hD 1 rfl rfl rfl hl.1 (Nat.le_of_ble_eq_true rfl) dX0_count_33 ⟨by show _ ≤ 0; omega, by show _ ≤ 0; omega⟩) hS hD hA (fun H locs hP hS => ?_)
    obtain rfl := Option.some.inj hf
    exact grRi hx hb hr hlocks hP hK hD hS dX0_count_36 (by omega) (by omega)
  have hf := (if_neg c2).symm.trans hf
  rcases Decidable.em (p0 = 1) with c3 | c3
  · have hf := (if_pos c3).symm.trans hf
    refine lv_tableIn (tgt := 37) (off := 36) hx hb dX0_count_1 (by rw [c3]; decide) (by rw [c3]; decide) (by rw [c3]; rfl) (by decide) ?_
    refine lv_aload_n hx hb dX0_count_37 rfl (lv_at hl 0 rfl) ?_
    refine va_get (D := G) (ci := 0) (v := .int (Hs.lim z)) (C := RX0) (T := TX0) (N := 14) hx hb hts (fun w h => .tail _ (wl_X0 w h)) hown hK hP 1 rfl rfl 0 (by decide) (hts _ (.tail _ wd_40)) (fun _ h9 => h9) rfl dX0_count_38 ?_
    obtain rfl := Option.some.inj hf
    exact grRi hx hb hr hlocks hP hK hD hS dX0_count_41 (by omega) (by omega)
  have hf := (if_neg c3).symm.trans hf
  rcases Decidable.em (p0 = 2) with c4 | c4
  · have hf := (if_pos c4).symm.trans hf
    refine lv_tableIn (tgt := 42) (off := 41) hx hb dX0_count_1 (by rw [c4]; decide) (by rw [c4]; decide) (by rw [c4]; rfl) (by decide) ?_
    refine lv_aload_n hx hb dX0_count_42 rfl (lv_at hl 0 rfl) ?_
    refine va_get (D := G) (ci := 0) (v := .int (Hs.md z)) (C := RX0) (T := TX0) (N := 14) hx hb hts (fun w h => .tail _ (wl_X0 w h)) hown hK hP 1 rfl rfl 10 (by decide) (hts _ (.tail _ wd_41)) (fun _ h9 => h9) rfl dX0_count_43 ?_
    obtain rfl := Option.some.inj hf
    exact grRi hx hb hr hlocks hP hK hD hS dX0_count_46 (by omega) (by omega)
  have hf := (if_neg c4).symm.trans hf
  rcases Decidable.em (p0 = 3) with c5 | c5
  · have hf := (if_pos c5).symm.trans hf
    refine lv_tableIn (tgt := 47) (off := 46) hx hb dX0_count_1 (by rw [c5]; decide) (by rw [c5]; decide) (by rw [c5]; rfl) (by decide) ?_
    refine lv_aload_n hx hb dX0_count_47 rfl (lv_at hl 0 rfl) ?_
    refine va_get (D := G) (ci := 0) (v := .int (Hs.co z)) (C := RX0) (T := TX0) (N := 14) hx hb hts (fun w h => .tail _ (wl_X0 w h)) hown hK hP 1 rfl rfl 11 (by decide) (hts _ (.tail _ wd_42)) (fun _ h9 => h9) rfl dX0_count_48 ?_
    obtain rfl := Option.some.inj hf
    exact grRi hx hb hr hlocks hP hK hD hS dX0_count_51 (by omega) (by omega)
  have hf := (if_neg c5).symm.trans hf
  refine lv_tableOut (tgt := 52) hx hb dX0_count_1 (by have kc2 : p0.toInt ≠ 0 := fun h => c2 (Int32.toInt_inj.mp (h.trans (by decide))); have kc3 : p0.toInt ≠ 1 := fun h => c3 (Int32.toInt_inj.mp (h.trans (by decide))); have kc4 : p0.toInt ≠ 2 := fun h => c4 (Int32.toInt_inj.mp (h.trans (by decide))); have kc5 : p0.toInt ≠ 3 := fun h => c5 (Int32.toInt_inj.mp (h.trans (by decide))); omega) (by decide) ?_
  refine lv_aload_n hx hb dX0_count_52 rfl (lv_at hl 0 rfl) ?_
  refine va_get (D := G) (ci := 0) (v := .int (Hs.gb z)) (C := RX0) (T := TX0) (N := 14) hx hb hts (fun w h => .tail _ (wl_X0 w h)) hown hK hP 1 rfl rfl 12 (by decide) (hts _ (.tail _ wd_43)) (fun _ h9 => h9) rfl dX0_count_53 ?_
  obtain rfl := Option.some.inj hf
  exact grRi hx hb hr hlocks hP hK hD hS dX0_count_56 (by omega) (by omega)
set_option maxHeartbeats 4000000 in
set_option maxRecDepth 100000 in
theorem c_hp_sizeOf (l : Launch) (G : va_G) (cL cZ : ClassId) (Q : Nat → Nat) (A : Nat → Nat) (z : Hs) (sz : Nat) (p0 : Int32) (p1 : Int32) (O0 : Int32) (hf : hp_sizeOf z p0 p1 = some O0) : Met l yX0_sizeOf vX0_sizeOf { frames := 0, cells := 0, slots := 0, locals := 0 } (gPc G vwCl (ct cL cZ) [.int p0, .int p1] (cw cL cZ Q A z) sz) (qRi G vwCl (ct cL cZ) (cw cL cZ Q A z) sz O0) 0 0 (va_A (cw cL cZ Q A z) sz) := by
  refine gMet (by decide) rfl (Nat.le_of_ble_eq_true rfl) ?_
  intro p e s m below meth c ls C hK hP hD hsz hl
  subst hsz
  obtain ⟨hx, hb, hr, hml, hown, hts, hlocks⟩ := id C
  have FX : CallFix p m c cX0_sizeOf 2 s _ vX0_sizeOf RX0 := ⟨hx, hb, hml, hown, hts⟩
  have hA : ∀ q9 : Nat, s.heap.size ≤ q9 → va_A (cw cL cZ Q A z) s.heap.size q9 := fun q9 h => Or.inr h
  have hS : va_S (va_A (cw cL cZ Q A z) s.heap.size) s.heap s.heap [] := va_S.rf
  have hl : lv_has ls 2 [(0, .int p0), (1, .int p1)] := hl
  unfold hp_sizeOf at hf
  refine lv_iconst (v := 1) hx hb dX0_sizeOf_0 (by decide) ?_
  refine lv_iload_n hx hb dX0_sizeOf_1 rfl (lv_at hl 0 rfl) ?_
  refine lv_iconst (v := 3) hx hb dX0_sizeOf_2 (by decide) ?_
  refine lv_icmp_ne (tgt := 15) hx hb dX0_sizeOf_3 (by decide) (fun c1 => ?_) (fun c1 => ?_)
  · have hf := (if_neg c1).symm.trans hf
    refine lv_iload_n hx hb dX0_sizeOf_15 rfl (lv_at hl 1 rfl) ?_
    refine lv_iadd hx hb dX0_sizeOf_16 ?_
    obtain rfl := Option.some.inj hf
    exact grRi hx hb hr hlocks hP hK hD hS dX0_sizeOf_17 (by omega) (by omega)
  · have hf := (if_pos c1).symm.trans hf
    refine lv_iload_n hx hb dX0_sizeOf_6 rfl (lv_at hl 1 rfl) ?_
    refine lv_bipush (v := 7) hx hb dX0_sizeOf_7 (by decide) ?_
    refine lv_iadd hx hb dX0_sizeOf_9 ?_
    refine lv_iconst (v := 3) hx hb dX0_sizeOf_10 (by decide) ?_
    refine lv_ishr hx hb dX0_sizeOf_11 ?_
    refine lv_goto (tgt := 16) hx hb dX0_sizeOf_12 (by decide) ?_
    refine lv_iadd hx hb dX0_sizeOf_16 ?_
    obtain rfl := Option.some.inj hf
    exact grRi hx hb hr hlocks hP hK hD hS dX0_sizeOf_17 (by omega) (by omega)
def At_hp_reachFrom_l2 (l : Launch) (G : va_G) (cL cZ : ClassId) (Q : Nat → Nat) (w : va_W) (p : Program) (e : Env) (s : State) (m : MethodId) (args : Array Value) (below : List Frame) (meth : Method) (c : Code) (O0 : Hs × Unit) (mcT msT : Nat) (F : Int32 → Int32 → Int32 → Hs → Option (Hs × Unit)) : Prop := ∀ (A : Nat → Nat) (z : Hs) (x1 : Int32) (x2 : Int32) (x3 : Int32) (H : Heap) (locs : List Loc) (ls : Array Slot) (cells slots : Nat), va_P G vwCl (cw cL cZ Q A z) H → va_D (va_A w s.heap.size) (cw cL cZ Q A z) → va_S (va_A w s.heap.size) s.heap H locs → lv_has ls 5 [(0, .ref (Q 1)), (1, .int x1), (2, .int x2), (3, .int x3)] → F x1 x2 x3 z = some O0 → cells + 0 ≤ mcT → slots + 0 ≤ msT → W p l e { frames := 1, cells := mcT, slots := msT, locals := 21 } s m args below meth c H locs cells slots (MQ below (qWv G vwCl (ct cL cZ) w s.heap.size (cw cL cZ Q) O0) args s mcT msT (va_A w s.heap.size)) (F0 m 2 ls [])
set_option maxHeartbeats 4000000 in
set_option maxRecDepth 100000 in
theorem L_hp_reachFrom_l2 (l : Launch) (G : va_G) (cL cZ : ClassId) (Q : Nat → Nat) (w : va_W) (p : Program) (e : Env) (s : State) (m : MethodId) (args : Array Value) (below : List Frame) (meth : Method) (c : Code) (O0 : Hs × Unit) (mcT msT : Nat) (C : MC p s m args meth c cX0_reachFrom 5 (none) RX0 vX0_reachFrom) (hK : va_K G vwCl (ct cL cZ) s) : ∀ n : Nat, At_hp_reachFrom_l2 l G cL cZ Q w p e s m args below meth c O0 mcT msT (hp_reachFrom_l2 n) := by
  obtain ⟨hx, hb, hr, hml, hown, hts, hlocks⟩ := id C
  have FX : CallFix p m c cX0_reachFrom 5 s args vX0_reachFrom RX0 := ⟨hx, hb, hml, hown, hts⟩
  have hA : ∀ q9 : Nat, s.heap.size ≤ q9 → va_A w s.heap.size q9 := fun q9 h => Or.inr h
  intro n
  induction n with
  | zero =>
    intro A z x1 x2 x3 H locs ls cells slots hP hD hS hl hf hcc hss
    exact nomatch (show none = some _ from hf)
  | succ n ih =>
    intro A z x1 x2 x3 H locs ls cells slots hP hD hS hl hf hcc hss
    rw [hp_reachFrom_l2] at hf
    refine lv_iload_n hx hb dX0_reachFrom_2 rfl (lv_at hl 3 rfl) ?_
    refine lv_iload_n hx hb dX0_reachFrom_3 rfl (lv_at hl 1 rfl) ?_
    refine lv_iload_n hx hb dX0_reachFrom_4 rfl (lv_at hl 2 rfl) ?_
    refine lv_iadd hx hb dX0_reachFrom_5 ?_
    refine lv_icmp_ge (tgt := 76) hx hb dX0_reachFrom_6 (by decide) (fun c1 => ?_) (fun c1 => ?_)
    · have hf := (if_pos c1).symm.trans hf
      obtain rfl := Option.some.inj hf
      exact grWv hx hb hr hlocks hP hK hD hS dX0_reachFrom_76 (by omega) (by omega)
    · have hf := (if_neg c1).symm.trans hf
      refine lv_aload_n hx hb dX0_reachFrom_9 rfl (lv_at hl 0 rfl) ?_
      refine va_get (D := G) (ci := 0) (v := .ref (A 5)) (C := RX0) (T := TX0) (N := 14) hx hb hts (fun w h => .tail _ (wl_X0 w h)) hown hK hP 1 rfl rfl 2 (by decide) (hts _ (.tail _ wd_1)) (fun _ h9 => h9) rfl dX0_reachFrom_10 ?_
      refine lv_iload_n hx hb dX0_reachFrom_13 rfl (lv_at hl 3 rfl) ?_
      obtain ⟨hg2, hf⟩ := of_gd hf
      refine va_zald (f := (Hs.arf z)) (n := (Hs.nrf z)) hx hb hK hP 5 1 rfl rfl (inb_in hg2) dX0_reachFrom_14 ?_
      refine lv_if_eq (tgt := 70) hx hb dX0_reachFrom_15 (by decide) (fun c3 => ?_) (fun c3 => ?_)
      · have hf := (if_pos c3).symm.trans hf
        refine lv_iinc (v := (x3 + 1)) (lv' := [(3, .int (x3 + 1)), (0, .ref (Q 1)), (1, .int x1), (2, .int x2)]) hx hb dX0_reachFrom_70 hl (k := 3) rfl rfl (by decide) rfl (fun ls hl => ?_)
        refine lv_goto (tgt := 2) hx hb dX0_reachFrom_73 (by decide) ?_
        exact ih _ _ _ _ _ _ _ _ _ _ hP hD hS (lv_sub hl [1, 2, 3, 0] rfl) hf (by omega) (by omega)
      · have hf := (if_neg c3).symm.trans hf
        refine lv_aload_n hx hb dX0_reachFrom_18 rfl (lv_at hl 0 rfl) ?_
        refine lv_iload_n hx hb dX0_reachFrom_19 rfl (lv_at hl 3 rfl) ?_
        obtain ⟨r4, ho4, hf⟩ := of_b0 hf
        refine gcRi (gV FX [.int x3] (c_hp_handleAt l G cL cZ Q A z _ x3 _ ho4) (cwV 1 hts (gi_V wd_13 wd_14 wd_15 wd_7 wd_16) rfl rfl rfl hdV_X0_handleAt ⟨Nat.le_of_ble_eq_true rfl, Nat.le_of_ble_eq_true rfl⟩) hK hP hD 1 rfl rfl rfl hl.1 (Nat.le_of_ble_eq_true rfl) dX0_reachFrom_20 ⟨by show _ ≤ mcT; omega, by show _ ≤ msT; omega⟩) hS hD hA (fun H locs hP hS => ?_)
        refine lv_istore (lv' := [(4, .int r4), (0, .ref (Q 1)), (1, .int x1), (2, .int x2), (3, .int x3)]) hx hb dX0_reachFrom_23 hl (by decide) rfl (fun ls hl => ?_)
        refine lv_iload hx hb dX0_reachFrom_25 (lv_at hl 0 rfl) ?_
        refine lv_if_eq (tgt := 70) hx hb dX0_reachFrom_27 (by decide) (fun c5 => ?_) (fun c5 => ?_)
        · have hf := (if_pos c5).symm.trans hf
          refine lv_iinc (v := (x3 + 1)) (lv' := [(3, .int (x3 + 1)), (4, .int r4), (0, .ref (Q 1)), (1, .int x1), (2, .int x2)]) hx hb dX0_reachFrom_70 hl (k := 4) rfl rfl (by decide) rfl (fun ls hl => ?_)
          refine lv_goto (tgt := 2) hx hb dX0_reachFrom_73 (by decide) ?_
          exact ih _ _ _ _ _ _ _ _ _ _ hP hD hS (lv_sub hl [2, 3, 4, 0] rfl) hf (by omega) (by omega)
        · have hf := (if_neg c5).symm.trans hf
          refine lv_aload_n hx hb dX0_reachFrom_30 rfl (lv_at hl 1 rfl) ?_
          refine va_get (D := G) (ci := 0) (v := .ref (A 7)) (C := RX0) (T := TX0) (N := 14) hx hb hts (fun w h => .tail _ (wl_X0 w h)) hown hK hP 1 rfl rfl 4 (by decide) (hts _ (.tail _ wd_44)) (fun _ h9 => h9) rfl dX0_reachFrom_31 ?_
          refine lv_iload hx hb dX0_reachFrom_34 (lv_at hl 0 rfl) ?_
          obtain ⟨hg6, hf⟩ := of_gd hf
          refine va_zald (f := (Hs.arc z)) (n := (Hs.nrc z)) hx hb hK hP 7 1 rfl rfl (inb_in hg6) dX0_reachFrom_36 ?_
          refine lv_if_ne (tgt := 70) hx hb dX0_reachFrom_37 (by decide) (fun c7 => ?_) (fun c7 => ?_)
          · have hf := (if_neg c7).symm.trans hf
            refine lv_iinc (v := (x3 + 1)) (lv' := [(3, .int (x3 + 1)), (4, .int r4), (0, .ref (Q 1)), (1, .int x1), (2, .int x2)]) hx hb dX0_reachFrom_70 hl (k := 4) rfl rfl (by decide) rfl (fun ls hl => ?_)
            refine lv_goto (tgt := 2) hx hb dX0_reachFrom_73 (by decide) ?_
            exact ih _ _ _ _ _ _ _ _ _ _ hP hD hS (lv_sub hl [2, 3, 4, 0] rfl) hf (by omega) (by omega)
          · have hf := (if_pos c7).symm.trans hf
            refine lv_aload_n hx hb dX0_reachFrom_40 rfl (lv_at hl 1 rfl) ?_
            refine va_get (D := G) (ci := 0) (v := .ref (A 7)) (C := RX0) (T := TX0) (N := 14) hx hb hts (fun w h => .tail _ (wl_X0 w h)) hown hK hP 1 rfl rfl 4 (by decide) (hts _ (.tail _ wd_44)) (fun _ h9 => h9) rfl dX0_reachFrom_41 ?_
            refine lv_iload hx hb dX0_reachFrom_44 (lv_at hl 0 rfl) ?_
            refine lv_iconst (v := 1) hx hb dX0_reachFrom_46 (by decide) ?_
            obtain ⟨hg8, hf⟩ := of_gd hf
            refine va_zast (f := (Hs.arc z)) (n := (Hs.nrc z)) hx hb hK hP hD hS 7 1 rfl rfl (inb_in hg8) dX0_reachFrom_47 (fun H locs hP hD hS => ?_)
            have hP : va_P G vwCl (cw cL cZ Q A (Hs.wrc z (upd (Hs.arc z) (r4.toNatClampNeg) (vp_nar .boolean 1)))) H := hP
            have hD : va_D _ (cw cL cZ Q A (Hs.wrc z (upd (Hs.arc z) (r4.toNatClampNeg) (vp_nar .boolean 1)))) := hD
            refine lv_aload_n hx hb dX0_reachFrom_48 rfl (lv_at hl 1 rfl) ?_
            refine va_get (D := G) (ci := 0) (v := .ref (A 8)) (C := RX0) (T := TX0) (N := 14) hx hb hts (fun w h => .tail _ (wl_X0 w h)) hown hK hP 1 rfl rfl 5 (by decide) (hts _ (.tail _ wd_45)) (fun _ h9 => h9) rfl dX0_reachFrom_49 ?_
            refine lv_aload_n hx hb dX0_reachFrom_52 rfl (lv_at hl 1 rfl) ?_
            refine va_get (D := G) (ci := 0) (v := .int (Hs.qd z)) (C := RX0) (T := TX0) (N := 14) hx hb hts (fun w h => .tail _ (wl_X0 w h)) hown hK hP 1 rfl rfl 6 (by decide) (hts _ (.tail _ wd_46)) (fun _ h9 => h9) rfl dX0_reachFrom_53 ?_
            refine lv_iload hx hb dX0_reachFrom_56 (lv_at hl 0 rfl) ?_
            refine lv_i2l hx hb dX0_reachFrom_58 rfl ?_
            obtain ⟨hg9, hf⟩ := of_gd hf
            refine va_last (f := (Hs.aqu z)) (n := (Hs.nqu z)) hx hb hK hP hD hS 8 0 rfl rfl (inb_in hg9) dX0_reachFrom_59 (fun H locs hP hD hS => ?_)
            have hP : va_P G vwCl (cw cL cZ Q A (Hs.wqu (Hs.wrc z (upd (Hs.arc z) (r4.toNatClampNeg) (vp_nar .boolean 1))) (vp_updL (Hs.aqu z) ((Hs.qd z).toNatClampNeg) (r4.toInt64)))) H := hP
            have hD : va_D _ (cw cL cZ Q A (Hs.wqu (Hs.wrc z (upd (Hs.arc z) (r4.toNatClampNeg) (vp_nar .boolean 1))) (vp_updL (Hs.aqu z) ((Hs.qd z).toNatClampNeg) (r4.toInt64)))) := hD
            refine lv_aload_n hx hb dX0_reachFrom_60 rfl (lv_at hl 1 rfl) ?_
            refine lv_dup hx hb dX0_reachFrom_61 rfl ?_
            refine va_get (D := G) (ci := 0) (v := .int (Hs.qd z)) (C := RX0) (T := TX0) (N := 14) hx hb hts (fun w h => .tail _ (wl_X0 w h)) hown hK hP 1 rfl rfl 6 (by decide) (hts _ (.tail _ wd_46)) (fun _ h9 => h9) rfl dX0_reachFrom_62 ?_
            refine lv_iconst (v := 1) hx hb dX0_reachFrom_65 (by decide) ?_
            refine lv_iadd hx hb dX0_reachFrom_66 ?_
            refine va_put (D := G) (ci := 0) (v := .int ((Hs.qd z) + 1)) (ty := .int) (C := RX0) (T := TX0) (N := 14) hx hb hts (fun w h => .tail _ (wl_X0 w h)) tyX0 tyX0_ok nmX0 hown hK hP hD hS 1 rfl rfl 6 (by decide) (hts _ (.tail _ wd_46)) (fun _ h9 => h9) rfl (by decide +kernel) rfl rfl (Nat.le_of_ble_eq_true rfl) dX0_reachFrom_67 (fun H locs hP hD hS => ?_)
            have hP : va_P G vwCl (cw cL cZ Q A (Hs.wqu (Hs.wrc (Hs.sqd z ((Hs.qd z) + 1)) (upd (Hs.arc z) (r4.toNatClampNeg) (vp_nar .boolean 1))) (vp_updL (Hs.aqu z) ((Hs.qd z).toNatClampNeg) (r4.toInt64)))) H := hP
            have hD : va_D _ (cw cL cZ Q A (Hs.wqu (Hs.wrc (Hs.sqd z ((Hs.qd z) + 1)) (upd (Hs.arc z) (r4.toNatClampNeg) (vp_nar .boolean 1))) (vp_updL (Hs.aqu z) ((Hs.qd z).toNatClampNeg) (r4.toInt64)))) := hD
            refine lv_iinc (v := (x3 + 1)) (lv' := [(3, .int (x3 + 1)), (4, .int r4), (0, .ref (Q 1)), (1, .int x1), (2, .int x2)]) hx hb dX0_reachFrom_70 hl (k := 4) rfl rfl (by decide) rfl (fun ls hl => ?_)
            refine lv_goto (tgt := 2) hx hb dX0_reachFrom_73 (by decide) ?_
            exact ih _ _ _ _ _ _ _ _ _ _ hP hD hS (lv_sub hl [2, 3, 4, 0] rfl) hf (by omega) (by omega)
set_option maxHeartbeats 4000000 in
set_option maxRecDepth 100000 in
theorem c_hp_reachFrom (l : Launch) (G : va_G) (cL cZ : ClassId) (Q : Nat → Nat) (A : Nat → Nat) (z : Hs) (sz : Nat) (p0 : Int32) (p1 : Int32) (O0 : Hs × Unit) (hf : hp_reachFrom z p0 p1 = some O0) : Met l yX0_reachFrom vX0_reachFrom { frames := 1, cells := 0, slots := 0, locals := 21 } (gPc G vwCl (ct cL cZ) [.ref (Q 1), .int p0, .int p1] (cw cL cZ Q A z) sz) (qWv G vwCl (ct cL cZ) (cw cL cZ Q A z) sz (cw cL cZ Q) O0) 0 0 (va_A (cw cL cZ Q A z) sz) := by
  refine gMet (by decide) rfl (Nat.le_of_ble_eq_true rfl) ?_
  intro p e s m below meth c ls C hK hP hD hsz hl
  subst hsz
  obtain ⟨hx, hb, hr, hml, hown, hts, hlocks⟩ := id C
  have FX : CallFix p m c cX0_reachFrom 5 s _ vX0_reachFrom RX0 := ⟨hx, hb, hml, hown, hts⟩
  have hA : ∀ q9 : Nat, s.heap.size ≤ q9 → va_A (cw cL cZ Q A z) s.heap.size q9 := fun q9 h => Or.inr h
  have hS : va_S (va_A (cw cL cZ Q A z) s.heap.size) s.heap s.heap [] := va_S.rf
  have hl : lv_has ls 5 [(0, .ref (Q 1)), (1, .int p0), (2, .int p1)] := hl
  unfold hp_reachFrom at hf
  refine lv_iload_n hx hb dX0_reachFrom_0 rfl (lv_at hl 1 rfl) ?_
  refine lv_istore_n (lv' := [(3, .int p0), (0, .ref (Q 1)), (1, .int p0), (2, .int p1)]) hx hb dX0_reachFrom_1 rfl hl (by decide) rfl (fun ls hl => ?_)
  exact L_hp_reachFrom_l2 _ _ _ _ _ _ _ _ _ _ _ _ _ _ _ _ _ C hK FU _ _ _ _ _ _ _ _ _ _ hP hD hS (lv_sub hl [1, 2, 3, 0] rfl) hf (by omega) (by omega)
def At_hp_moveTogether_j90 (l : Launch) (G : va_G) (cL cZ : ClassId) (Q : Nat → Nat) (w : va_W) (p : Program) (e : Env) (s : State) (m : MethodId) (args : Array Value) (below : List Frame) (meth : Method) (c : Code) (O0 : Hs × Unit) (mcT msT : Nat) (F : Int32 → Int32 → Int32 → Hs → Option (Hs × Unit)) : Prop := ∀ (A : Nat → Nat) (z : Hs) (x1 : Int32) (x2 : Int32) (x3 : Int32) (H : Heap) (locs : List Loc) (ls : Array Slot) (cells slots : Nat), va_P G vwCl (cw cL cZ Q A z) H → va_D (va_A w s.heap.size) (cw cL cZ Q A z) → va_S (va_A w s.heap.size) s.heap H locs → lv_has ls 5 [(0, .ref (Q 1)), (1, .int x1), (2, .int x2), (3, .int x3)] → F x1 x2 x3 z = some O0 → cells + 0 ≤ mcT → slots + 0 ≤ msT → W p l e { frames := 2, cells := mcT, slots := msT, locals := 64 } s m args below meth c H locs cells slots (MQ below (qWv G vwCl (ct cL cZ) w s.heap.size (cw cL cZ Q) O0) args s mcT msT (va_A w s.heap.size)) (F0 m 90 ls [])
def At_hp_moveTogether_l8 (l : Launch) (G : va_G) (cL cZ : ClassId) (Q : Nat → Nat) (w : va_W) (p : Program) (e : Env) (s : State) (m : MethodId) (args : Array Value) (below : List Frame) (meth : Method) (c : Code) (O0 : Hs × Unit) (mcT msT : Nat) (F : Int32 → Int32 → Hs → Option (Hs × Unit)) : Prop := ∀ (A : Nat → Nat) (z : Hs) (x1 : Int32) (x3 : Int32) (H : Heap) (locs : List Loc) (ls : Array Slot) (cells slots : Nat), va_P G vwCl (cw cL cZ Q A z) H → va_D (va_A w s.heap.size) (cw cL cZ Q A z) → va_S (va_A w s.heap.size) s.heap H locs → lv_has ls 5 [(0, .ref (Q 1)), (1, .int x1), (3, .int x3)] → F x1 x3 z = some O0 → cells + 0 ≤ mcT → slots + 0 ≤ msT → W p l e { frames := 2, cells := mcT, slots := msT, locals := 64 } s m args below meth c H locs cells slots (MQ below (qWv G vwCl (ct cL cZ) w s.heap.size (cw cL cZ Q) O0) args s mcT msT (va_A w s.heap.size)) (F0 m 8 ls [])
set_option maxHeartbeats 4000000 in
set_option maxRecDepth 100000 in
theorem L_hp_moveTogether_j90 (l : Launch) (G : va_G) (cL cZ : ClassId) (Q : Nat → Nat) (w : va_W) (p : Program) (e : Env) (s : State) (m : MethodId) (args : Array Value) (below : List Frame) (meth : Method) (c : Code) (O0 : Hs × Unit) (mcT msT : Nat) (C : MC p s m args meth c cX0_moveTogether 5 (none) RX0 vX0_moveTogether) (hK : va_K G vwCl (ct cL cZ) s) (K8 : Int32 → Int32 → Hs → Option (Hs × Unit)) (hK8 : At_hp_moveTogether_l8 l G cL cZ Q w p e s m args below meth c O0 mcT msT K8) : At_hp_moveTogether_j90 l G cL cZ Q w p e s m args below meth c O0 mcT msT (hp_moveTogether_j90 K8 ) := by
  obtain ⟨hx, hb, hr, hml, hown, hts, hlocks⟩ := id C
  have FX : CallFix p m c cX0_moveTogether 5 s args vX0_moveTogether RX0 := ⟨hx, hb, hml, hown, hts⟩
  have hA : ∀ q9 : Nat, s.heap.size ≤ q9 → va_A w s.heap.size q9 := fun q9 h => Or.inr h
  intro A z x1 x2 x3 H locs ls cells slots hP hD hS hl hf hcc hss
  unfold hp_moveTogether_j90 at hf
  refine lv_iload_n hx hb dX0_moveTogether_90 rfl (lv_at hl 1 rfl) ?_
  refine lv_iload_n hx hb dX0_moveTogether_91 rfl (lv_at hl 2 rfl) ?_
  refine lv_iadd hx hb dX0_moveTogether_92 ?_
  refine lv_istore_n (lv' := [(1, .int (x1 + x2)), (0, .ref (Q 1)), (2, .int x2), (3, .int x3)]) hx hb dX0_moveTogether_93 rfl hl (by decide) rfl (fun ls hl => ?_)
  refine lv_goto (tgt := 115) hx hb dX0_moveTogether_94 (by decide) ?_
  refine lv_iload_n hx hb dX0_moveTogether_115 rfl (lv_at hl 3 rfl) ?_
  refine lv_iload_n hx hb dX0_moveTogether_116 rfl (lv_at hl 2 rfl) ?_
  refine lv_iadd hx hb dX0_moveTogether_117 ?_
  refine lv_istore_n (lv' := [(3, .int (x3 + x2)), (1, .int (x1 + x2)), (0, .ref (Q 1)), (2, .int x2)]) hx hb dX0_moveTogether_118 rfl hl (by decide) rfl (fun ls hl => ?_)
  refine lv_goto (tgt := 8) hx hb dX0_moveTogether_119 (by decide) ?_
  exact hK8 _ _ _ _ _ _ _ _ _ hP hD hS (lv_sub hl [2, 1, 0] rfl) hf (by omega) (by omega)
set_option maxHeartbeats 4000000 in
set_option maxRecDepth 100000 in
theorem L_hp_moveTogether_l8 (l : Launch) (G : va_G) (cL cZ : ClassId) (Q : Nat → Nat) (w : va_W) (p : Program) (e : Env) (s : State) (m : MethodId) (args : Array Value) (below : List Frame) (meth : Method) (c : Code) (O0 : Hs × Unit) (mcT msT : Nat) (C : MC p s m args meth c cX0_moveTogether 5 (none) RX0 vX0_moveTogether) (hK : va_K G vwCl (ct cL cZ) s) : ∀ n : Nat, At_hp_moveTogether_l8 l G cL cZ Q w p e s m args below meth c O0 mcT msT (hp_moveTogether_l8 n) := by
  obtain ⟨hx, hb, hr, hml, hown, hts, hlocks⟩ := id C
  have FX : CallFix p m c cX0_moveTogether 5 s args vX0_moveTogether RX0 := ⟨hx, hb, hml, hown, hts⟩
  have hA : ∀ q9 : Nat, s.heap.size ≤ q9 → va_A w s.heap.size q9 := fun q9 h => Or.inr h
  intro n
  induction n with
  | zero =>
    intro A z x1 x3 H locs ls cells slots hP hD hS hl hf hcc hss
    exact nomatch (show none = some _ from hf)
  | succ n ih =>
    intro A z x1 x3 H locs ls cells slots hP hD hS hl hf hcc hss
    rw [hp_moveTogether_l8] at hf
    refine lv_iload_n hx hb dX0_moveTogether_8 rfl (lv_at hl 2 rfl) ?_
    refine lv_aload_n hx hb dX0_moveTogether_9 rfl (lv_at hl 0 rfl) ?_
    refine va_get (D := G) (ci := 0) (v := .int (Hs.en z)) (C := RX0) (T := TX0) (N := 14) hx hb hts (fun w h => .tail _ (wl_X0 w h)) hown hK hP 1 rfl rfl 9 (by decide) (hts _ (.tail _ wd_35)) (fun _ h9 => h9) rfl dX0_moveTogether_10 ?_
    refine lv_icmp_ge (tgt := 122) hx hb dX0_moveTogether_13 (by decide) (fun c1 => ?_) (fun c1 => ?_)
    · have hf := (if_pos c1).symm.trans hf
      refine lv_aload_n hx hb dX0_moveTogether_122 rfl (lv_at hl 0 rfl) ?_
      refine lv_iload_n hx hb dX0_moveTogether_123 rfl (lv_at hl 1 rfl) ?_
      refine va_put (D := G) (ci := 0) (v := .int x1) (ty := .int) (C := RX0) (T := TX0) (N := 14) hx hb hts (fun w h => .tail _ (wl_X0 w h)) tyX0 tyX0_ok nmX0 hown hK hP hD hS 1 rfl rfl 9 (by decide) (hts _ (.tail _ wd_35)) (fun _ h9 => h9) rfl (by decide +kernel) rfl rfl (Nat.le_of_ble_eq_true rfl) dX0_moveTogether_124 (fun H locs hP hD hS => ?_)
      have hP : va_P G vwCl (cw cL cZ Q A (Hs.sen z x1)) H := hP
      have hD : va_D _ (cw cL cZ Q A (Hs.sen z x1)) := hD
      obtain rfl := Option.some.inj hf
      exact grWv hx hb hr hlocks hP hK hD hS dX0_moveTogether_127 (by omega) (by omega)
    · have hf := (if_neg c1).symm.trans hf
      refine lv_aload_n hx hb dX0_moveTogether_16 rfl (lv_at hl 0 rfl) ?_
      refine va_get (D := G) (ci := 0) (v := .ref (A 4)) (C := RX0) (T := TX0) (N := 14) hx hb hts (fun w h => .tail _ (wl_X0 w h)) hown hK hP 1 rfl rfl 1 (by decide) (hts _ (.tail _ wd_0)) (fun _ h9 => h9) rfl dX0_moveTogether_17 ?_
      refine lv_iload_n hx hb dX0_moveTogether_20 rfl (lv_at hl 2 rfl) ?_
      obtain ⟨hg2, hf⟩ := of_gd hf
      refine va_lald (f := (Hs.abt z)) (n := (Hs.nbt z)) hx hb hK hP 4 0 rfl rfl (inb_in hg2) dX0_moveTogether_21 ?_
      refine lv_ldc2 (v := 262143) hx hb hown (hts _ (.tail _ wd_29)) dX0_moveTogether_22 ?_
      refine lv_land hx hb dX0_moveTogether_25 ?_
      refine lv_l2i hx hb dX0_moveTogether_26 rfl ?_
      refine lv_istore (lv' := [(4, .int ((((Hs.abt z) x3.toNatClampNeg) &&& 262143).toInt32)), (0, .ref (Q 1)), (1, .int x1), (3, .int x3)]) hx hb dX0_moveTogether_27 hl (by decide) rfl (fun ls hl => ?_)
      refine lv_aload_n hx hb dX0_moveTogether_29 rfl (lv_at hl 1 rfl) ?_
      refine va_get (D := G) (ci := 0) (v := .ref (A 4)) (C := RX0) (T := TX0) (N := 14) hx hb hts (fun w h => .tail _ (wl_X0 w h)) hown hK hP 1 rfl rfl 1 (by decide) (hts _ (.tail _ wd_0)) (fun _ h9 => h9) rfl dX0_moveTogether_30 ?_
      refine lv_iload_n hx hb dX0_moveTogether_33 rfl (lv_at hl 3 rfl) ?_
      obtain ⟨hg3, hf⟩ := of_gd hf
      refine va_lald (f := (Hs.abt z)) (n := (Hs.nbt z)) hx hb hK hP 4 0 rfl rfl (inb_in hg3) dX0_moveTogether_34 ?_
      obtain ⟨r4, ho4, hf⟩ := of_b0 hf
      refine gcRi (gS FX [.long ((Hs.abt z) x3.toNatClampNeg)] (c_hp_kindIn l G cL cZ Q A z _ ((Hs.abt z) x3.toNatClampNeg) _ ho4) (cwS 1 hts (gi_S wd_5 wd_6 wd_7 wd_8) rfl rfl rfl hdS_X0_kindIn ⟨Nat.le_of_ble_eq_true rfl, Nat.le_of_ble_eq_true rfl⟩) hK hP hD rfl hl.1 (Nat.le_of_ble_eq_true rfl) dX0_moveTogether_35 ⟨by show _ ≤ mcT; omega, by show _ ≤ msT; omega⟩) hS hD hA (fun H locs hP hS => ?_)
      refine lv_aload_n hx hb dX0_moveTogether_38 rfl (lv_at hl 1 rfl) ?_
      refine va_get (D := G) (ci := 0) (v := .ref (A 4)) (C := RX0) (T := TX0) (N := 14) hx hb hts (fun w h => .tail _ (wl_X0 w h)) hown hK hP 1 rfl rfl 1 (by decide) (hts _ (.tail _ wd_0)) (fun _ h9 => h9) rfl dX0_moveTogether_39 ?_
      refine lv_iload_n hx hb dX0_moveTogether_42 rfl (lv_at hl 3 rfl) ?_
      obtain ⟨hg5, hf⟩ := of_gd hf
      refine va_lald (f := (Hs.abt z)) (n := (Hs.nbt z)) hx hb hK hP 4 0 rfl rfl (inb_in hg5) dX0_moveTogether_43 ?_
      obtain ⟨r6, ho6, hf⟩ := of_b0 hf
      refine gcRi (gS FX [.long ((Hs.abt z) x3.toNatClampNeg)] (c_hp_lengthIn l G cL cZ Q A z _ ((Hs.abt z) x3.toNatClampNeg) _ ho6) (cwS 1 hts (gi_S wd_30 wd_31 wd_7 wd_32) rfl rfl rfl hdS_X0_lengthIn ⟨Nat.le_of_ble_eq_true rfl, Nat.le_of_ble_eq_true rfl⟩) hK hP hD rfl hl.1 (Nat.le_of_ble_eq_true rfl) dX0_moveTogether_44 ⟨by show _ ≤ mcT; omega, by show _ ≤ msT; omega⟩) hS hD hA (fun H locs hP hS => ?_)
      obtain ⟨r7, ho7, hf⟩ := of_b0 hf
      refine gcRi (gS FX [.int r4, .int r6] (c_hp_sizeOf l G cL cZ Q A z _ r4 r6 _ ho7) (cwS 2 hts (gi_S wd_52 wd_53 wd_7 wd_54) rfl rfl rfl hdS_X0_sizeOf ⟨Nat.le_of_ble_eq_true rfl, Nat.le_of_ble_eq_true rfl⟩) hK hP hD rfl hl.1 (Nat.le_of_ble_eq_true rfl) dX0_moveTogether_47 ⟨by show _ ≤ mcT; omega, by show _ ≤ msT; omega⟩) hS hD hA (fun H locs hP hS => ?_)
      refine lv_istore_n (lv' := [(2, .int r7), (4, .int ((((Hs.abt z) x3.toNatClampNeg) &&& 262143).toInt32)), (0, .ref (Q 1)), (1, .int x1), (3, .int x3)]) hx hb dX0_moveTogether_50 rfl hl (by decide) rfl (fun ls hl => ?_)
      refine lv_aload_n hx hb dX0_moveTogether_51 rfl (lv_at hl 2 rfl) ?_
      refine va_get (D := G) (ci := 0) (v := .ref (A 7)) (C := RX0) (T := TX0) (N := 14) hx hb hts (fun w h => .tail _ (wl_X0 w h)) hown hK hP 1 rfl rfl 4 (by decide) (hts _ (.tail _ wd_44)) (fun _ h9 => h9) rfl dX0_moveTogether_52 ?_
      refine lv_iload hx hb dX0_moveTogether_55 (lv_at hl 1 rfl) ?_
      obtain ⟨hg8, hf⟩ := of_gd hf
      refine va_zald (f := (Hs.arc z)) (n := (Hs.nrc z)) hx hb hK hP 7 1 rfl rfl (inb_in hg8) dX0_moveTogether_57 ?_
      refine lv_if_eq (tgt := 97) hx hb dX0_moveTogether_58 (by decide) (fun c9 => ?_) (fun c9 => ?_)
      · have hf := (if_pos c9).symm.trans hf
        refine lv_aload_n hx hb dX0_moveTogether_97 rfl (lv_at hl 2 rfl) ?_
        refine va_get (D := G) (ci := 0) (v := .ref (A 6)) (C := RX0) (T := TX0) (N := 14) hx hb hts (fun w h => .tail _ (wl_X0 w h)) hown hK hP 1 rfl rfl 3 (by decide) (hts _ (.tail _ wd_3)) (fun _ h9 => h9) rfl dX0_moveTogether_98 ?_
        refine lv_iload hx hb dX0_moveTogether_101 (lv_at hl 1 rfl) ?_
        refine lv_aload_n hx hb dX0_moveTogether_103 rfl (lv_at hl 2 rfl) ?_
        refine va_get (D := G) (ci := 0) (v := .int (Hs.fh z)) (C := RX0) (T := TX0) (N := 14) hx hb hts (fun w h => .tail _ (wl_X0 w h)) hown hK hP 1 rfl rfl 8 (by decide) (hts _ (.tail _ wd_47)) (fun _ h9 => h9) rfl dX0_moveTogether_104 ?_
        refine lv_i2l hx hb dX0_moveTogether_107 rfl ?_
        obtain ⟨hg10, hf⟩ := of_gd hf
        refine va_last (f := (Hs.ast z)) (n := (Hs.nst z)) hx hb hK hP hD hS 6 0 rfl rfl (inb_in hg10) dX0_moveTogether_108 (fun H locs hP hD hS => ?_)
        have hP : va_P G vwCl (cw cL cZ Q A (Hs.wst z (vp_updL (Hs.ast z) (((((Hs.abt z) x3.toNatClampNeg) &&& 262143).toInt32).toNatClampNeg) ((Hs.fh z).toInt64)))) H := hP
        have hD : va_D _ (cw cL cZ Q A (Hs.wst z (vp_updL (Hs.ast z) (((((Hs.abt z) x3.toNatClampNeg) &&& 262143).toInt32).toNatClampNeg) ((Hs.fh z).toInt64)))) := hD
        refine lv_aload_n hx hb dX0_moveTogether_109 rfl (lv_at hl 2 rfl) ?_
        refine lv_iload hx hb dX0_moveTogether_110 (lv_at hl 1 rfl) ?_
        refine va_put (D := G) (ci := 0) (v := .int ((((Hs.abt z) x3.toNatClampNeg) &&& 262143).toInt32)) (ty := .int) (C := RX0) (T := TX0) (N := 14) hx hb hts (fun w h => .tail _ (wl_X0 w h)) tyX0 tyX0_ok nmX0 hown hK hP hD hS 1 rfl rfl 8 (by decide) (hts _ (.tail _ wd_47)) (fun _ h9 => h9) rfl (by decide +kernel) rfl rfl (Nat.le_of_ble_eq_true rfl) dX0_moveTogether_112 (fun H locs hP hD hS => ?_)
        have hP : va_P G vwCl (cw cL cZ Q A (Hs.wst (Hs.sfh z ((((Hs.abt z) x3.toNatClampNeg) &&& 262143).toInt32)) (vp_updL (Hs.ast z) (((((Hs.abt z) x3.toNatClampNeg) &&& 262143).toInt32).toNatClampNeg) ((Hs.fh z).toInt64)))) H := hP
        have hD : va_D _ (cw cL cZ Q A (Hs.wst (Hs.sfh z ((((Hs.abt z) x3.toNatClampNeg) &&& 262143).toInt32)) (vp_updL (Hs.ast z) (((((Hs.abt z) x3.toNatClampNeg) &&& 262143).toInt32).toNatClampNeg) ((Hs.fh z).toInt64)))) := hD
        refine lv_iload_n hx hb dX0_moveTogether_115 rfl (lv_at hl 4 rfl) ?_
        refine lv_iload_n hx hb dX0_moveTogether_116 rfl (lv_at hl 0 rfl) ?_
        refine lv_iadd hx hb dX0_moveTogether_117 ?_
        refine lv_istore_n (lv' := [(3, .int (x3 + r7)), (2, .int r7), (4, .int ((((Hs.abt z) x3.toNatClampNeg) &&& 262143).toInt32)), (0, .ref (Q 1)), (1, .int x1)]) hx hb dX0_moveTogether_118 rfl hl (by decide) rfl (fun ls hl => ?_)
        refine lv_goto (tgt := 8) hx hb dX0_moveTogether_119 (by decide) ?_
        exact ih _ _ _ _ _ _ _ _ _ hP hD hS (lv_sub hl [3, 4, 0] rfl) hf (by omega) (by omega)
      · have hf := (if_neg c9).symm.trans hf
        refine lv_aload_n hx hb dX0_moveTogether_61 rfl (lv_at hl 2 rfl) ?_
        refine va_get (D := G) (ci := 0) (v := .ref (A 7)) (C := RX0) (T := TX0) (N := 14) hx hb hts (fun w h => .tail _ (wl_X0 w h)) hown hK hP 1 rfl rfl 4 (by decide) (hts _ (.tail _ wd_44)) (fun _ h9 => h9) rfl dX0_moveTogether_62 ?_
        refine lv_iload hx hb dX0_moveTogether_65 (lv_at hl 1 rfl) ?_
        refine lv_iconst (v := 0) hx hb dX0_moveTogether_67 (by decide) ?_
        obtain ⟨hg11, hf⟩ := of_gd hf
        refine va_zast (f := (Hs.arc z)) (n := (Hs.nrc z)) hx hb hK hP hD hS 7 1 rfl rfl (inb_in hg11) dX0_moveTogether_68 (fun H locs hP hD hS => ?_)
        have hP : va_P G vwCl (cw cL cZ Q A (Hs.wrc z (upd (Hs.arc z) (((((Hs.abt z) x3.toNatClampNeg) &&& 262143).toInt32).toNatClampNeg) (vp_nar .boolean 0)))) H := hP
        have hD : va_D _ (cw cL cZ Q A (Hs.wrc z (upd (Hs.arc z) (((((Hs.abt z) x3.toNatClampNeg) &&& 262143).toInt32).toNatClampNeg) (vp_nar .boolean 0)))) := hD
        refine lv_aload_n hx hb dX0_moveTogether_69 rfl (lv_at hl 2 rfl) ?_
        refine va_get (D := G) (ci := 0) (v := .ref (A 6)) (C := RX0) (T := TX0) (N := 14) hx hb hts (fun w h => .tail _ (wl_X0 w h)) hown hK hP 1 rfl rfl 3 (by decide) (hts _ (.tail _ wd_3)) (fun _ h9 => h9) rfl dX0_moveTogether_70 ?_
        refine lv_iload hx hb dX0_moveTogether_73 (lv_at hl 1 rfl) ?_
        refine lv_iload_n hx hb dX0_moveTogether_75 rfl (lv_at hl 3 rfl) ?_
        refine lv_i2l hx hb dX0_moveTogether_76 rfl ?_
        obtain ⟨hg12, hf⟩ := of_gd hf
        refine va_last (f := (Hs.ast z)) (n := (Hs.nst z)) hx hb hK hP hD hS 6 0 rfl rfl (inb_in hg12) dX0_moveTogether_77 (fun H locs hP hD hS => ?_)
        have hP : va_P G vwCl (cw cL cZ Q A (Hs.wrc (Hs.wst z (vp_updL (Hs.ast z) (((((Hs.abt z) x3.toNatClampNeg) &&& 262143).toInt32).toNatClampNeg) (x1.toInt64))) (upd (Hs.arc z) (((((Hs.abt z) x3.toNatClampNeg) &&& 262143).toInt32).toNatClampNeg) (vp_nar .boolean 0)))) H := hP
        have hD : va_D _ (cw cL cZ Q A (Hs.wrc (Hs.wst z (vp_updL (Hs.ast z) (((((Hs.abt z) x3.toNatClampNeg) &&& 262143).toInt32).toNatClampNeg) (x1.toInt64))) (upd (Hs.arc z) (((((Hs.abt z) x3.toNatClampNeg) &&& 262143).toInt32).toNatClampNeg) (vp_nar .boolean 0)))) := hD
        refine lv_iload_n hx hb dX0_moveTogether_78 rfl (lv_at hl 3 rfl) ?_
        refine lv_iload_n hx hb dX0_moveTogether_79 rfl (lv_at hl 4 rfl) ?_
        refine lv_icmp_ge (tgt := 90) hx hb dX0_moveTogether_80 (by decide) (fun c13 => ?_) (fun c13 => ?_)
        · have hf := (if_pos c13).symm.trans hf
          exact L_hp_moveTogether_j90 _ _ _ _ _ _ _ _ _ _ _ _ _ _ _ _ _ C hK _ ih _ _ _ _ _ _ _ _ _ _ hP hD hS (lv_sub hl [2, 3, 0, 4] rfl) hf (by omega) (by omega)
        · have hf := (if_neg c13).symm.trans hf
          refine lv_aload_n hx hb dX0_moveTogether_83 rfl (lv_at hl 2 rfl) ?_
          refine lv_iload_n hx hb dX0_moveTogether_84 rfl (lv_at hl 3 rfl) ?_
          refine lv_iload_n hx hb dX0_moveTogether_85 rfl (lv_at hl 4 rfl) ?_
          refine lv_iload_n hx hb dX0_moveTogether_86 rfl (lv_at hl 0 rfl) ?_
          obtain ⟨z14, o9, ho14, hf⟩ := of_bw hf
          refine gcWv (gV FX [.int x1, .int x3, .int r7] (c_hp_copyWords l G cL cZ Q A (Hs.wrc (Hs.wst z (vp_updL (Hs.ast z) (((((Hs.abt z) x3.toNatClampNeg) &&& 262143).toInt32).toNatClampNeg) (x1.toInt64))) (upd (Hs.arc z) (((((Hs.abt z) x3.toNatClampNeg) &&& 262143).toInt32).toNatClampNeg) (vp_nar .boolean 0))) _ x1 x3 r7 _ ho14) (cwV 3 hts (gi_V wd_48 wd_49 wd_50 wd_7 wd_51) rfl rfl rfl hdV_X0_copyWords ⟨Nat.le_of_ble_eq_true rfl, Nat.le_of_ble_eq_true rfl⟩) hK hP hD 1 rfl rfl rfl hl.1 (Nat.le_of_ble_eq_true rfl) dX0_moveTogether_87 ⟨by show _ ≤ mcT; omega, by show _ ≤ msT; omega⟩) hS hD hA (fun A H locs hP hD hS => ?_)
          exact L_hp_moveTogether_j90 _ _ _ _ _ _ _ _ _ _ _ _ _ _ _ _ _ C hK _ ih _ _ _ _ _ _ _ _ _ _ hP hD hS (lv_sub hl [2, 3, 0, 4] rfl) hf (by omega) (by omega)
set_option maxHeartbeats 4000000 in
set_option maxRecDepth 100000 in
theorem c_hp_moveTogether (l : Launch) (G : va_G) (cL cZ : ClassId) (Q : Nat → Nat) (A : Nat → Nat) (z : Hs) (sz : Nat) (O0 : Hs × Unit) (hf : hp_moveTogether z = some O0) : Met l yX0_moveTogether vX0_moveTogether { frames := 2, cells := 0, slots := 0, locals := 64 } (gPc G vwCl (ct cL cZ) [.ref (Q 1)] (cw cL cZ Q A z) sz) (qWv G vwCl (ct cL cZ) (cw cL cZ Q A z) sz (cw cL cZ Q) O0) 0 0 (va_A (cw cL cZ Q A z) sz) := by
  refine gMet (by decide) rfl (Nat.le_of_ble_eq_true rfl) ?_
  intro p e s m below meth c ls C hK hP hD hsz hl
  subst hsz
  obtain ⟨hx, hb, hr, hml, hown, hts, hlocks⟩ := id C
  have FX : CallFix p m c cX0_moveTogether 5 s _ vX0_moveTogether RX0 := ⟨hx, hb, hml, hown, hts⟩
  have hA : ∀ q9 : Nat, s.heap.size ≤ q9 → va_A (cw cL cZ Q A z) s.heap.size q9 := fun q9 h => Or.inr h
  have hS : va_S (va_A (cw cL cZ Q A z) s.heap.size) s.heap s.heap [] := va_S.rf
  have hl : lv_has ls 5 [(0, .ref (Q 1))] := hl
  unfold hp_moveTogether at hf
  refine lv_bipush (v := 17) hx hb dX0_moveTogether_0 (by decide) ?_
  refine lv_istore_n (lv' := [(1, .int 17), (0, .ref (Q 1))]) hx hb dX0_moveTogether_2 rfl hl (by decide) rfl (fun ls hl => ?_)
  refine lv_iconst (v := 1) hx hb dX0_moveTogether_3 (by decide) ?_
  refine lv_istore_n (lv' := [(2, .int 1), (1, .int 17), (0, .ref (Q 1))]) hx hb dX0_moveTogether_4 rfl hl (by decide) rfl (fun ls hl => ?_)
  refine lv_bipush (v := 17) hx hb dX0_moveTogether_5 (by decide) ?_
  refine lv_istore_n (lv' := [(3, .int 17), (2, .int 1), (1, .int 17), (0, .ref (Q 1))]) hx hb dX0_moveTogether_7 rfl hl (by decide) rfl (fun ls hl => ?_)
  exact L_hp_moveTogether_l8 _ _ _ _ _ _ _ _ _ _ _ _ _ _ _ _ _ C hK FU _ _ _ _ _ _ _ _ _ hP hD hS (lv_sub hl [3, 2, 0] rfl) hf (by omega) (by omega)
def At_hp_collection_j70 (l : Launch) (G : va_G) (cL cZ : ClassId) (Q : Nat → Nat) (w : va_W) (p : Program) (e : Env) (s : State) (m : MethodId) (args : Array Value) (below : List Frame) (meth : Method) (c : Code) (O0 : Hs × Int32) (mcT msT : Nat) (F : Hs → Option (Hs × Int32)) : Prop := ∀ (A : Nat → Nat) (z : Hs) (H : Heap) (locs : List Loc) (ls : Array Slot) (cells slots : Nat), va_P G vwCl (cw cL cZ Q A z) H → va_D (va_A w s.heap.size) (cw cL cZ Q A z) → va_S (va_A w s.heap.size) s.heap H locs → lv_has ls 3 [(0, .ref (Q 1))] → F z = some O0 → cells + 0 ≤ mcT → slots + 0 ≤ msT → W p l e { frames := 3, cells := mcT, slots := msT, locals := 88 } s m args below meth c H locs cells slots (MQ below (qWi G vwCl (ct cL cZ) w s.heap.size (cw cL cZ Q) O0) args s mcT msT (va_A w s.heap.size)) (F0 m 70 ls [])
def At_hp_collection_l14 (l : Launch) (G : va_G) (cL cZ : ClassId) (Q : Nat → Nat) (w : va_W) (p : Program) (e : Env) (s : State) (m : MethodId) (args : Array Value) (below : List Frame) (meth : Method) (c : Code) (O0 : Hs × Int32) (mcT msT : Nat) (F : Int32 → Hs → Option (Hs × Int32)) : Prop := ∀ (A : Nat → Nat) (z : Hs) (x1 : Int32) (H : Heap) (locs : List Loc) (ls : Array Slot) (cells slots : Nat), va_P G vwCl (cw cL cZ Q A z) H → va_D (va_A w s.heap.size) (cw cL cZ Q A z) → va_S (va_A w s.heap.size) s.heap H locs → lv_has ls 3 [(0, .ref (Q 1)), (1, .int x1)] → F x1 z = some O0 → cells + 0 ≤ mcT → slots + 0 ≤ msT → W p l e { frames := 3, cells := mcT, slots := msT, locals := 88 } s m args below meth c H locs cells slots (MQ below (qWi G vwCl (ct cL cZ) w s.heap.size (cw cL cZ Q) O0) args s mcT msT (va_A w s.heap.size)) (F0 m 14 ls [])
set_option maxHeartbeats 4000000 in
set_option maxRecDepth 100000 in
theorem L_hp_collection_j70 (l : Launch) (G : va_G) (cL cZ : ClassId) (Q : Nat → Nat) (w : va_W) (p : Program) (e : Env) (s : State) (m : MethodId) (args : Array Value) (below : List Frame) (meth : Method) (c : Code) (O0 : Hs × Int32) (mcT msT : Nat) (C : MC p s m args meth c cX0_collection 3 (some .int) RX0 vX0_collection) (hK : va_K G vwCl (ct cL cZ) s) : At_hp_collection_j70 l G cL cZ Q w p e s m args below meth c O0 mcT msT hp_collection_j70 := by
  obtain ⟨hx, hb, hr, hml, hown, hts, hlocks⟩ := id C
  have FX : CallFix p m c cX0_collection 3 s args vX0_collection RX0 := ⟨hx, hb, hml, hown, hts⟩
  have hA : ∀ q9 : Nat, s.heap.size ≤ q9 → va_A w s.heap.size q9 := fun q9 h => Or.inr h
  intro A z H locs ls cells slots hP hD hS hl hf hcc hss
  unfold hp_collection_j70 at hf
  refine lv_aload_n hx hb dX0_collection_70 rfl (lv_at hl 0 rfl) ?_
  refine va_get (D := G) (ci := 0) (v := .int (Hs.en z)) (C := RX0) (T := TX0) (N := 14) hx hb hts (fun w h => .tail _ (wl_X0 w h)) hown hK hP 1 rfl rfl 9 (by decide) (hts _ (.tail _ wd_35)) (fun _ h9 => h9) rfl dX0_collection_71 ?_
  refine lv_istore_n (lv' := [(1, .int (Hs.en z)), (0, .ref (Q 1))]) hx hb dX0_collection_74 rfl hl (by decide) rfl (fun ls hl => ?_)
  refine lv_aload_n hx hb dX0_collection_75 rfl (lv_at hl 1 rfl) ?_
  obtain ⟨z11, o9, ho11, hf⟩ := of_bw hf
  refine gcWv (gV FX [] (c_hp_moveTogether l G cL cZ Q A z _  _ ho11) (cwV 0 hts (gi_V wd_68 wd_69 wd_70 wd_7 wd_71) rfl rfl rfl hdV_X0_moveTogether ⟨Nat.le_of_ble_eq_true rfl, Nat.le_of_ble_eq_true rfl⟩) hK hP hD 1 rfl rfl rfl hl.1 (Nat.le_of_ble_eq_true rfl) dX0_collection_76 ⟨by show _ ≤ mcT; omega, by show _ ≤ msT; omega⟩) hS hD hA (fun A H locs hP hD hS => ?_)
  refine lv_aload_n hx hb dX0_collection_79 rfl (lv_at hl 1 rfl) ?_
  refine lv_dup hx hb dX0_collection_80 rfl ?_
  refine va_get (D := G) (ci := 0) (v := .int (Hs.co z11)) (C := RX0) (T := TX0) (N := 14) hx hb hts (fun w h => .tail _ (wl_X0 w h)) hown hK hP 1 rfl rfl 11 (by decide) (hts _ (.tail _ wd_42)) (fun _ h9 => h9) rfl dX0_collection_81 ?_
  refine lv_iconst (v := 1) hx hb dX0_collection_84 (by decide) ?_
  refine lv_iadd hx hb dX0_collection_85 ?_
  refine va_put (D := G) (ci := 0) (v := .int ((Hs.co z11) + 1)) (ty := .int) (C := RX0) (T := TX0) (N := 14) hx hb hts (fun w h => .tail _ (wl_X0 w h)) tyX0 tyX0_ok nmX0 hown hK hP hD hS 1 rfl rfl 11 (by decide) (hts _ (.tail _ wd_42)) (fun _ h9 => h9) rfl (by decide +kernel) rfl rfl (Nat.le_of_ble_eq_true rfl) dX0_collection_86 (fun H locs hP hD hS => ?_)
  have hP : va_P G vwCl (cw cL cZ Q A (Hs.sco z11 ((Hs.co z11) + 1))) H := hP
  have hD : va_D _ (cw cL cZ Q A (Hs.sco z11 ((Hs.co z11) + 1))) := hD
  refine lv_aload_n hx hb dX0_collection_89 rfl (lv_at hl 1 rfl) ?_
  refine lv_dup hx hb dX0_collection_90 rfl ?_
  refine va_get (D := G) (ci := 0) (v := .int (Hs.gb z11)) (C := RX0) (T := TX0) (N := 14) hx hb hts (fun w h => .tail _ (wl_X0 w h)) hown hK hP 1 rfl rfl 12 (by decide) (hts _ (.tail _ wd_43)) (fun _ h9 => h9) rfl dX0_collection_91 ?_
  refine lv_iload_n hx hb dX0_collection_94 rfl (lv_at hl 0 rfl) ?_
  refine lv_aload_n hx hb dX0_collection_95 rfl (lv_at hl 1 rfl) ?_
  refine va_get (D := G) (ci := 0) (v := .int (Hs.en z11)) (C := RX0) (T := TX0) (N := 14) hx hb hts (fun w h => .tail _ (wl_X0 w h)) hown hK hP 1 rfl rfl 9 (by decide) (hts _ (.tail _ wd_35)) (fun _ h9 => h9) rfl dX0_collection_96 ?_
  refine lv_isub hx hb dX0_collection_99 ?_
  refine lv_iadd hx hb dX0_collection_100 ?_
  refine va_put (D := G) (ci := 0) (v := .int ((Hs.gb z11) + ((Hs.en z) - (Hs.en z11)))) (ty := .int) (C := RX0) (T := TX0) (N := 14) hx hb hts (fun w h => .tail _ (wl_X0 w h)) tyX0 tyX0_ok nmX0 hown hK hP hD hS 1 rfl rfl 12 (by decide) (hts _ (.tail _ wd_43)) (fun _ h9 => h9) rfl (by decide +kernel) rfl rfl (Nat.le_of_ble_eq_true rfl) dX0_collection_101 (fun H locs hP hD hS => ?_)
  have hP : va_P G vwCl (cw cL cZ Q A (Hs.sgb (Hs.sco z11 ((Hs.co z11) + 1)) ((Hs.gb z11) + ((Hs.en z) - (Hs.en z11))))) H := hP
  have hD : va_D _ (cw cL cZ Q A (Hs.sgb (Hs.sco z11 ((Hs.co z11) + 1)) ((Hs.gb z11) + ((Hs.en z) - (Hs.en z11))))) := hD
  refine lv_iload_n hx hb dX0_collection_104 rfl (lv_at hl 0 rfl) ?_
  refine lv_aload_n hx hb dX0_collection_105 rfl (lv_at hl 1 rfl) ?_
  refine va_get (D := G) (ci := 0) (v := .int (Hs.en z11)) (C := RX0) (T := TX0) (N := 14) hx hb hts (fun w h => .tail _ (wl_X0 w h)) hown hK hP 1 rfl rfl 9 (by decide) (hts _ (.tail _ wd_35)) (fun _ h9 => h9) rfl dX0_collection_106 ?_
  refine lv_isub hx hb dX0_collection_109 ?_
  obtain rfl := Option.some.inj hf
  exact grWi hx hb hr hlocks hP hK hD hS dX0_collection_110 (by omega) (by omega)
set_option maxHeartbeats 4000000 in
set_option maxRecDepth 100000 in
theorem L_hp_collection_l14 (l : Launch) (G : va_G) (cL cZ : ClassId) (Q : Nat → Nat) (w : va_W) (p : Program) (e : Env) (s : State) (m : MethodId) (args : Array Value) (below : List Frame) (meth : Method) (c : Code) (O0 : Hs × Int32) (mcT msT : Nat) (C : MC p s m args meth c cX0_collection 3 (some .int) RX0 vX0_collection) (hK : va_K G vwCl (ct cL cZ) s) : ∀ n : Nat, At_hp_collection_l14 l G cL cZ Q w p e s m args below meth c O0 mcT msT (hp_collection_l14 n) := by
  obtain ⟨hx, hb, hr, hml, hown, hts, hlocks⟩ := id C
  have FX : CallFix p m c cX0_collection 3 s args vX0_collection RX0 := ⟨hx, hb, hml, hown, hts⟩
  have hA : ∀ q9 : Nat, s.heap.size ≤ q9 → va_A w s.heap.size q9 := fun q9 h => Or.inr h
  intro n
  induction n with
  | zero =>
    intro A z x1 H locs ls cells slots hP hD hS hl hf hcc hss
    exact nomatch (show none = some _ from hf)
  | succ n ih =>
    intro A z x1 H locs ls cells slots hP hD hS hl hf hcc hss
    rw [hp_collection_l14] at hf
    refine lv_iload_n hx hb dX0_collection_14 rfl (lv_at hl 1 rfl) ?_
    refine lv_aload_n hx hb dX0_collection_15 rfl (lv_at hl 0 rfl) ?_
    refine va_get (D := G) (ci := 0) (v := .int (Hs.qd z)) (C := RX0) (T := TX0) (N := 14) hx hb hts (fun w h => .tail _ (wl_X0 w h)) hown hK hP 1 rfl rfl 6 (by decide) (hts _ (.tail _ wd_46)) (fun _ h9 => h9) rfl dX0_collection_16 ?_
    refine lv_icmp_ge (tgt := 70) hx hb dX0_collection_19 (by decide) (fun c2 => ?_) (fun c2 => ?_)
    · have hf := (if_pos c2).symm.trans hf
      exact L_hp_collection_j70 _ _ _ _ _ _ _ _ _ _ _ _ _ _ _ _ _ C hK _ _ _ _ _ _ _ hP hD hS (lv_sub hl [0] rfl) hf (by omega) (by omega)
    · have hf := (if_neg c2).symm.trans hf
      refine lv_iload_n hx hb dX0_collection_22 rfl (lv_at hl 1 rfl) ?_
      refine lv_aload_n hx hb dX0_collection_23 rfl (lv_at hl 0 rfl) ?_
      refine va_get (D := G) (ci := 0) (v := .int (Hs.lh z)) (C := RX0) (T := TX0) (N := 14) hx hb hts (fun w h => .tail _ (wl_X0 w h)) hown hK hP 1 rfl rfl 7 (by decide) (hts _ (.tail _ wd_59)) (fun _ h9 => h9) rfl dX0_collection_24 ?_
      refine lv_icmp_ge (tgt := 70) hx hb dX0_collection_27 (by decide) (fun c3 => ?_) (fun c3 => ?_)
      · have hf := (if_pos c3).symm.trans hf
        exact L_hp_collection_j70 _ _ _ _ _ _ _ _ _ _ _ _ _ _ _ _ _ C hK _ _ _ _ _ _ _ hP hD hS (lv_sub hl [0] rfl) hf (by omega) (by omega)
      · have hf := (if_neg c3).symm.trans hf
        refine lv_aload_n hx hb dX0_collection_30 rfl (lv_at hl 0 rfl) ?_
        refine va_get (D := G) (ci := 0) (v := .ref (A 8)) (C := RX0) (T := TX0) (N := 14) hx hb hts (fun w h => .tail _ (wl_X0 w h)) hown hK hP 1 rfl rfl 5 (by decide) (hts _ (.tail _ wd_45)) (fun _ h9 => h9) rfl dX0_collection_31 ?_
        refine lv_iload_n hx hb dX0_collection_34 rfl (lv_at hl 1 rfl) ?_
        obtain ⟨hg4, hf⟩ := of_gd hf
        refine va_lald (f := (Hs.aqu z)) (n := (Hs.nqu z)) hx hb hK hP 8 0 rfl rfl (inb_in hg4) dX0_collection_35 ?_
        refine lv_l2i hx hb dX0_collection_36 rfl ?_
        refine lv_istore_n (lv' := [(2, .int (((Hs.aqu z) x1.toNatClampNeg).toInt32)), (0, .ref (Q 1)), (1, .int x1)]) hx hb dX0_collection_37 rfl hl (by decide) rfl (fun ls hl => ?_)
        refine lv_aload_n hx hb dX0_collection_38 rfl (lv_at hl 1 rfl) ?_
        refine lv_iload_n hx hb dX0_collection_39 rfl (lv_at hl 0 rfl) ?_
        obtain ⟨r5, ho5, hf⟩ := of_b0 hf
        refine gcRl (gV FX [.int (((Hs.aqu z) x1.toNatClampNeg).toInt32)] (c_hp_header l G cL cZ Q A z _ (((Hs.aqu z) x1.toNatClampNeg).toInt32) _ ho5) (cwV 1 hts (gi_V wd_9 wd_10 wd_11 wd_7 wd_12) rfl rfl rfl hdV_X0_header ⟨Nat.le_of_ble_eq_true rfl, Nat.le_of_ble_eq_true rfl⟩) hK hP hD 1 rfl rfl rfl hl.1 (Nat.le_of_ble_eq_true rfl) dX0_collection_40 ⟨by show _ ≤ mcT; omega, by show _ ≤ msT; omega⟩) hS hD hA (fun H locs hP hS => ?_)
        obtain ⟨r6, ho6, hf⟩ := of_b0 hf
        refine gcRi (gS FX [.long r5] (c_hp_kindIn l G cL cZ Q A z _ r5 _ ho6) (cwS 1 hts (gi_S wd_5 wd_6 wd_7 wd_8) rfl rfl rfl hdS_X0_kindIn ⟨Nat.le_of_ble_eq_true rfl, Nat.le_of_ble_eq_true rfl⟩) hK hP hD rfl hl.1 (Nat.le_of_ble_eq_true rfl) dX0_collection_43 ⟨by show _ ≤ mcT; omega, by show _ ≤ msT; omega⟩) hS hD hA (fun H locs hP hS => ?_)
        refine lv_iconst (v := 3) hx hb dX0_collection_46 (by decide) ?_
        refine lv_icmp_eq (tgt := 64) hx hb dX0_collection_47 (by decide) (fun c7 => ?_) (fun c7 => ?_)
        · have hf := (if_pos c7).symm.trans hf
          refine lv_iinc (v := (x1 + 1)) (lv' := [(1, .int (x1 + 1)), (2, .int (((Hs.aqu z) x1.toNatClampNeg).toInt32)), (0, .ref (Q 1))]) hx hb dX0_collection_64 hl (k := 2) rfl rfl (by decide) rfl (fun ls hl => ?_)
          refine lv_goto (tgt := 14) hx hb dX0_collection_67 (by decide) ?_
          exact ih _ _ _ _ _ _ _ _ hP hD hS (lv_sub hl [2, 0] rfl) hf (by omega) (by omega)
        · have hf := (if_neg c7).symm.trans hf
          refine lv_aload_n hx hb dX0_collection_50 rfl (lv_at hl 1 rfl) ?_
          refine lv_aload_n hx hb dX0_collection_51 rfl (lv_at hl 1 rfl) ?_
          refine lv_iload_n hx hb dX0_collection_52 rfl (lv_at hl 0 rfl) ?_
          obtain ⟨r8, ho8, hf⟩ := of_b0 hf
          refine gcRi (gV FX [.int (((Hs.aqu z) x1.toNatClampNeg).toInt32)] (c_hp_first l G cL cZ Q A z _ (((Hs.aqu z) x1.toNatClampNeg).toInt32) _ ho8) (cwV 1 hts (gi_V wd_64 wd_65 wd_66 wd_7 wd_67) rfl rfl rfl hdV_X0_first ⟨Nat.le_of_ble_eq_true rfl, Nat.le_of_ble_eq_true rfl⟩) hK hP hD 1 rfl rfl rfl hl.1 (Nat.le_of_ble_eq_true rfl) dX0_collection_53 ⟨by show _ ≤ mcT; omega, by show _ ≤ msT; omega⟩) hS hD hA (fun H locs hP hS => ?_)
          refine lv_aload_n hx hb dX0_collection_56 rfl (lv_at hl 1 rfl) ?_
          refine lv_iload_n hx hb dX0_collection_57 rfl (lv_at hl 0 rfl) ?_
          obtain ⟨r9, ho9, hf⟩ := of_b0 hf
          refine gcRi (gV FX [.int (((Hs.aqu z) x1.toNatClampNeg).toInt32)] (c_hp_length l G cL cZ Q A z _ (((Hs.aqu z) x1.toNatClampNeg).toInt32) _ ho9) (cwV 1 hts (gi_V wd_60 wd_61 wd_62 wd_7 wd_63) rfl rfl rfl hdV_X0_length ⟨Nat.le_of_ble_eq_true rfl, Nat.le_of_ble_eq_true rfl⟩) hK hP hD 1 rfl rfl rfl hl.1 (Nat.le_of_ble_eq_true rfl) dX0_collection_58 ⟨by show _ ≤ mcT; omega, by show _ ≤ msT; omega⟩) hS hD hA (fun H locs hP hS => ?_)
          obtain ⟨z10, o9, ho10, hf⟩ := of_bw hf
          refine gcWv (gV FX [.int r8, .int r9] (c_hp_reachFrom l G cL cZ Q A z _ r8 r9 _ ho10) (cwV 2 hts (gi_V wd_55 wd_56 wd_57 wd_7 wd_58) rfl rfl rfl hdV_X0_reachFrom ⟨Nat.le_of_ble_eq_true rfl, Nat.le_of_ble_eq_true rfl⟩) hK hP hD 1 rfl rfl rfl hl.1 (Nat.le_of_ble_eq_true rfl) dX0_collection_61 ⟨by show _ ≤ mcT; omega, by show _ ≤ msT; omega⟩) hS hD hA (fun A H locs hP hD hS => ?_)
          refine lv_iinc (v := (x1 + 1)) (lv' := [(1, .int (x1 + 1)), (2, .int (((Hs.aqu z) x1.toNatClampNeg).toInt32)), (0, .ref (Q 1))]) hx hb dX0_collection_64 hl (k := 2) rfl rfl (by decide) rfl (fun ls hl => ?_)
          refine lv_goto (tgt := 14) hx hb dX0_collection_67 (by decide) ?_
          exact ih _ _ _ _ _ _ _ _ hP hD hS (lv_sub hl [2, 0] rfl) hf (by omega) (by omega)
set_option maxHeartbeats 4000000 in
set_option maxRecDepth 100000 in
theorem c_hp_collection (l : Launch) (G : va_G) (cL cZ : ClassId) (Q : Nat → Nat) (A : Nat → Nat) (z : Hs) (sz : Nat) (O0 : Hs × Int32) (hf : hp_collection z = some O0) : Met l yX0_collection vX0_collection { frames := 3, cells := 0, slots := 0, locals := 88 } (gPc G vwCl (ct cL cZ) [.ref (Q 1)] (cw cL cZ Q A z) sz) (qWi G vwCl (ct cL cZ) (cw cL cZ Q A z) sz (cw cL cZ Q) O0) 0 0 (va_A (cw cL cZ Q A z) sz) := by
  refine gMet (by decide) rfl (Nat.le_of_ble_eq_true rfl) ?_
  intro p e s m below meth c ls C hK hP hD hsz hl
  subst hsz
  obtain ⟨hx, hb, hr, hml, hown, hts, hlocks⟩ := id C
  have FX : CallFix p m c cX0_collection 3 s _ vX0_collection RX0 := ⟨hx, hb, hml, hown, hts⟩
  have hA : ∀ q9 : Nat, s.heap.size ≤ q9 → va_A (cw cL cZ Q A z) s.heap.size q9 := fun q9 h => Or.inr h
  have hS : va_S (va_A (cw cL cZ Q A z) s.heap.size) s.heap s.heap [] := va_S.rf
  have hl : lv_has ls 3 [(0, .ref (Q 1))] := hl
  unfold hp_collection at hf
  refine lv_aload_n hx hb dX0_collection_0 rfl (lv_at hl 0 rfl) ?_
  refine lv_iconst (v := 0) hx hb dX0_collection_1 (by decide) ?_
  refine va_put (D := G) (ci := 0) (v := .int 0) (ty := .int) (C := RX0) (T := TX0) (N := 14) hx hb hts (fun w h => .tail _ (wl_X0 w h)) tyX0 tyX0_ok nmX0 hown hK hP hD hS 1 rfl rfl 6 (by decide) (hts _ (.tail _ wd_46)) (fun _ h9 => h9) rfl (by decide +kernel) rfl rfl (Nat.le_of_ble_eq_true rfl) dX0_collection_2 (fun H locs hP hD hS => ?_)
  have hP : va_P G vwCl (cw cL cZ Q A (Hs.sqd z 0)) H := hP
  have hD : va_D _ (cw cL cZ Q A (Hs.sqd z 0)) := hD
  refine lv_aload_n hx hb dX0_collection_5 rfl (lv_at hl 0 rfl) ?_
  refine lv_iconst (v := 0) hx hb dX0_collection_6 (by decide) ?_
  refine lv_bipush (v := 16) hx hb dX0_collection_7 (by decide) ?_
  obtain ⟨z1, o9, ho1, hf⟩ := of_bw hf
  refine gcWv (gV FX [.int 0, .int 16] (c_hp_reachFrom l G cL cZ Q A (Hs.sqd z 0) _ 0 16 _ ho1) (cwV 2 hts (gi_V wd_55 wd_56 wd_57 wd_7 wd_58) rfl rfl rfl hdV_X0_reachFrom ⟨Nat.le_of_ble_eq_true rfl, Nat.le_of_ble_eq_true rfl⟩) hK hP hD 1 rfl rfl rfl hl.1 (Nat.le_of_ble_eq_true rfl) dX0_collection_9 ⟨by show _ ≤ 0; omega, by show _ ≤ 0; omega⟩) hS hD hA (fun A H locs hP hD hS => ?_)
  refine lv_iconst (v := 0) hx hb dX0_collection_12 (by decide) ?_
  refine lv_istore_n (lv' := [(1, .int 0), (0, .ref (Q 1))]) hx hb dX0_collection_13 rfl hl (by decide) rfl (fun ls hl => ?_)
  exact L_hp_collection_l14 _ _ _ _ _ _ _ _ _ _ _ _ _ _ _ _ _ C hK FU _ _ _ _ _ _ _ _ hP hD hS (lv_sub hl [1, 0] rfl) hf (by omega) (by omega)
def At_hp_needRoom_j25 (l : Launch) (G : va_G) (cL cZ : ClassId) (Q : Nat → Nat) (w : va_W) (p : Program) (e : Env) (s : State) (m : MethodId) (args : Array Value) (below : List Frame) (meth : Method) (c : Code) (O0 : Hs × (String ⊕ Unit)) (mcT msT : Nat) (F : Int32 → Hs → Option (Hs × (String ⊕ Unit))) : Prop := ∀ (A : Nat → Nat) (z : Hs) (x1 : Int32) (H : Heap) (locs : List Loc) (ls : Array Slot) (cells slots : Nat), va_P G vwCl (cw cL cZ Q A z) H → va_D (va_A w s.heap.size) (cw cL cZ Q A z) → va_S (va_A w s.heap.size) s.heap H locs → lv_has ls 2 [(0, .ref (Q 1)), (1, .int x1)] → F x1 z = some O0 → cells + 1 ≤ mcT → slots + 6 ≤ msT → W p l e { frames := 8, cells := mcT, slots := msT, locals := 200 } s m args below meth c H locs cells slots (vx_MQ below (qXv G vwCl (ct cL cZ) w s.heap.size (cw cL cZ Q) O0) (xX G vwCl (ct cL cZ) w s.heap.size (cw cL cZ Q) O0) args s mcT msT (va_A w s.heap.size)) (F0 m 25 ls [])
def At_hp_needRoom_j20 (l : Launch) (G : va_G) (cL cZ : ClassId) (Q : Nat → Nat) (w : va_W) (p : Program) (e : Env) (s : State) (m : MethodId) (args : Array Value) (below : List Frame) (meth : Method) (c : Code) (O0 : Hs × (String ⊕ Unit)) (mcT msT : Nat) (F : Int32 → Hs → Option (Hs × (String ⊕ Unit))) : Prop := ∀ (A : Nat → Nat) (z : Hs) (x1 : Int32) (H : Heap) (locs : List Loc) (ls : Array Slot) (cells slots : Nat), va_P G vwCl (cw cL cZ Q A z) H → va_D (va_A w s.heap.size) (cw cL cZ Q A z) → va_S (va_A w s.heap.size) s.heap H locs → lv_has ls 2 [(0, .ref (Q 1)), (1, .int x1)] → F x1 z = some O0 → cells + 1 ≤ mcT → slots + 6 ≤ msT → W p l e { frames := 8, cells := mcT, slots := msT, locals := 200 } s m args below meth c H locs cells slots (vx_MQ below (qXv G vwCl (ct cL cZ) w s.heap.size (cw cL cZ Q) O0) (xX G vwCl (ct cL cZ) w s.heap.size (cw cL cZ Q) O0) args s mcT msT (va_A w s.heap.size)) (F0 m 20 ls [])
set_option maxHeartbeats 4000000 in
set_option maxRecDepth 100000 in
theorem L_hp_needRoom_j25 (l : Launch) (G : va_G) (cL cZ : ClassId) (Q : Nat → Nat) (w : va_W) (p : Program) (e : Env) (s : State) (m : MethodId) (args : Array Value) (below : List Frame) (meth : Method) (c : Code) (O0 : Hs × (String ⊕ Unit)) (mcT msT : Nat) (C : MC p s m args meth c cX0_needRoom 2 (none) RX0 vX0_needRoom) (hl0 : l.stackTraces = false) (hE : ∀ x ∈ c.exceptionTable.toList, False) (hT : gTh txC (va_A w s.heap.size) s s.heap) (hK : va_K G vwCl (ct cL cZ) s) : At_hp_needRoom_j25 l G cL cZ Q w p e s m args below meth c O0 mcT msT hp_needRoom_j25 := by
  obtain ⟨hx, hb, hr, hml, hown, hts, hlocks⟩ := id C
  have FX : CallFix p m c cX0_needRoom 2 s args vX0_needRoom RX0 := ⟨hx, hb, hml, hown, hts⟩
  have hA : ∀ q9 : Nat, s.heap.size ≤ q9 → va_A w s.heap.size q9 := fun q9 h => Or.inr h
  intro A z x1 H locs ls cells slots hP hD hS hl hf hcc hss
  unfold hp_needRoom_j25 at hf
  refine lv_aload_n hx hb dX0_needRoom_25 rfl (lv_at hl 0 rfl) ?_
  obtain ⟨r5, ho5, hf⟩ := of_b0 hf
  refine gcRi (gV FX [] (c_hp_used l G cL cZ Q A z _  _ ho5) (cwV 0 hts (gi_V wd_36 wd_37 wd_38 wd_7 wd_39) rfl rfl rfl hdV_X0_used ⟨Nat.le_of_ble_eq_true rfl, Nat.le_of_ble_eq_true rfl⟩) hK hP hD 1 rfl rfl rfl hl.1 (Nat.le_of_ble_eq_true rfl) dX0_needRoom_26 ⟨by show _ ≤ mcT; omega, by show _ ≤ msT; omega⟩) hS hD hA (fun H locs hP hS => ?_)
  refine lv_iload_n hx hb dX0_needRoom_29 rfl (lv_at hl 1 rfl) ?_
  refine lv_iadd hx hb dX0_needRoom_30 ?_
  refine lv_aload_n hx hb dX0_needRoom_31 rfl (lv_at hl 0 rfl) ?_
  refine va_get (D := G) (ci := 0) (v := .int (Hs.lim z)) (C := RX0) (T := TX0) (N := 14) hx hb hts (fun w h => .tail _ (wl_X0 w h)) hown hK hP 1 rfl rfl 0 (by decide) (hts _ (.tail _ wd_40)) (fun _ h9 => h9) rfl dX0_needRoom_32 ?_
  refine lv_icmp_le (tgt := 48) hx hb dX0_needRoom_35 (by decide) (fun c6 => ?_) (fun c6 => ?_)
  · have hf := (if_pos c6).symm.trans hf
    obtain rfl := Option.some.inj hf
    exact grXv hx hb hr hlocks hP hK hD hS dX0_needRoom_48 (by omega) (by omega)
  · have hf := (if_neg c6).symm.trans hf
    obtain rfl := Option.some.inj hf
    exact gthr0 (cls := "java/lang/IllegalStateException") (names := ["java/lang/RuntimeException", "java/lang/Exception"]) (text := "full") hx hb hl0 hown hts (by decide) (by decide) (.tail _ wd_76) (.tail _ wd_77) (by decide +kernel) (fun w h => .tail _ (tha_0 w h)) tht_0 (by decide +kernel) thg_0_104 hT hS (hl.1.trans hml.symm) dX0_needRoom_38 dX0_needRoom_41 dX0_needRoom_42 dX0_needRoom_44 dX0_needRoom_47 hE (Nat.lt_of_succ_le (Nat.le_of_ble_eq_true rfl)) (Nat.le_of_ble_eq_true rfl) (by show _ ≤ mcT; omega) (by show _ ≤ msT; omega) hlocks (gqX hP hK hD hS) hS.2.2 (by omega) (by omega)
set_option maxHeartbeats 4000000 in
set_option maxRecDepth 100000 in
theorem L_hp_needRoom_j20 (l : Launch) (G : va_G) (cL cZ : ClassId) (Q : Nat → Nat) (w : va_W) (p : Program) (e : Env) (s : State) (m : MethodId) (args : Array Value) (below : List Frame) (meth : Method) (c : Code) (O0 : Hs × (String ⊕ Unit)) (mcT msT : Nat) (C : MC p s m args meth c cX0_needRoom 2 (none) RX0 vX0_needRoom) (hl0 : l.stackTraces = false) (hE : ∀ x ∈ c.exceptionTable.toList, False) (hT : gTh txC (va_A w s.heap.size) s s.heap) (hK : va_K G vwCl (ct cL cZ) s) : At_hp_needRoom_j20 l G cL cZ Q w p e s m args below meth c O0 mcT msT hp_needRoom_j20 := by
  obtain ⟨hx, hb, hr, hml, hown, hts, hlocks⟩ := id C
  have FX : CallFix p m c cX0_needRoom 2 s args vX0_needRoom RX0 := ⟨hx, hb, hml, hown, hts⟩
  have hA : ∀ q9 : Nat, s.heap.size ≤ q9 → va_A w s.heap.size q9 := fun q9 h => Or.inr h
  intro A z x1 H locs ls cells slots hP hD hS hl hf hcc hss
  unfold hp_needRoom_j20 at hf
  refine lv_aload_n hx hb dX0_needRoom_20 rfl (lv_at hl 0 rfl) ?_
  obtain ⟨z4, r4, ho4, hf⟩ := of_bw hf
  refine gcWi (gV FX [] (c_hp_collection l G cL cZ Q A z _  _ ho4) (cwV 0 hts (gi_V wd_72 wd_73 wd_74 wd_7 wd_75) rfl rfl rfl hdV_X0_collection ⟨Nat.le_of_ble_eq_true rfl, Nat.le_of_ble_eq_true rfl⟩) hK hP hD 1 rfl rfl rfl hl.1 (Nat.le_of_ble_eq_true rfl) dX0_needRoom_21 ⟨by show _ ≤ mcT; omega, by show _ ≤ msT; omega⟩) hS hD hA (fun A H locs hP hD hS => ?_)
  refine lv_pop hx hb dX0_needRoom_24 rfl ?_
  exact L_hp_needRoom_j25 _ _ _ _ _ _ _ _ _ _ _ _ _ _ _ _ _ C hl0 hE hT hK _ _ _ _ _ _ _ _ hP hD hS (lv_sub hl [0, 1] rfl) hf (by omega) (by omega)
set_option maxHeartbeats 4000000 in
set_option maxRecDepth 100000 in
theorem c_hp_needRoom (l : Launch) (hl0 : l.stackTraces = false) (G : va_G) (cL cZ : ClassId) (Q : Nat → Nat) (A : Nat → Nat) (z : Hs) (sz : Nat) (p0 : Int32) (O0 : Hs × (String ⊕ Unit)) (hf : hp_needRoom z p0 = some O0) : vx_Met l yX0_needRoom vX0_needRoom { frames := 8, cells := 1, slots := 6, locals := 200 } (gPx txC G vwCl (ct cL cZ) [.ref (Q 1), .int p0] (cw cL cZ Q A z) sz) (qXv G vwCl (ct cL cZ) (cw cL cZ Q A z) sz (cw cL cZ Q) O0) (xX G vwCl (ct cL cZ) (cw cL cZ Q A z) sz (cw cL cZ Q) O0) 1 6 (va_A (cw cL cZ Q A z) sz) := by
  refine gMetx (by decide) rfl (Nat.le_of_ble_eq_true rfl) ?_
  intro p e s m below meth c ls C hE hK hP hD hT hsz hl
  subst hsz
  obtain ⟨hx, hb, hr, hml, hown, hts, hlocks⟩ := id C
  have FX : CallFix p m c cX0_needRoom 2 s _ vX0_needRoom RX0 := ⟨hx, hb, hml, hown, hts⟩
  have hA : ∀ q9 : Nat, s.heap.size ≤ q9 → va_A (cw cL cZ Q A z) s.heap.size q9 := fun q9 h => Or.inr h
  have hS : va_S (va_A (cw cL cZ Q A z) s.heap.size) s.heap s.heap [] := va_S.rf
  have hl : lv_has ls 2 [(0, .ref (Q 1)), (1, .int p0)] := hl
  unfold hp_needRoom at hf
  refine lv_aload_n hx hb dX0_needRoom_0 rfl (lv_at hl 0 rfl) ?_
  refine va_get (D := G) (ci := 0) (v := .int (Hs.al z)) (C := RX0) (T := TX0) (N := 14) hx hb hts (fun w h => .tail _ (wl_X0 w h)) hown hK hP 1 rfl rfl 13 (by decide) (hts _ (.tail _ wd_34)) (fun _ h9 => h9) rfl dX0_needRoom_1 ?_
  refine lv_if_ne (tgt := 20) hx hb dX0_needRoom_4 (by decide) (fun c1 => ?_) (fun c1 => ?_)
  · have hf := (if_neg c1).symm.trans hf
    exact L_hp_needRoom_j20 _ _ _ _ _ _ _ _ _ _ _ _ _ _ _ _ _ C hl0 hE hT hK _ _ _ _ _ _ _ _ hP hD hS (lv_sub hl [0, 1] rfl) hf (by omega) (by omega)
  · have hf := (if_pos c1).symm.trans hf
    refine lv_aload_n hx hb dX0_needRoom_7 rfl (lv_at hl 0 rfl) ?_
    obtain ⟨r2, ho2, hf⟩ := of_b0 hf
    refine gcRi (gV FX [] (c_hp_used l G cL cZ Q A z _  _ ho2) (cwV 0 hts (gi_V wd_36 wd_37 wd_38 wd_7 wd_39) rfl rfl rfl hdV_X0_used ⟨Nat.le_of_ble_eq_true rfl, Nat.le_of_ble_eq_true rfl⟩) hK hP hD 1 rfl rfl rfl hl.1 (Nat.le_of_ble_eq_true rfl) dX0_needRoom_8 ⟨by show _ ≤ 1; omega, by show _ ≤ 6; omega⟩) hS hD hA (fun H locs hP hS => ?_)
    refine lv_iload_n hx hb dX0_needRoom_11 rfl (lv_at hl 1 rfl) ?_
    refine lv_iadd hx hb dX0_needRoom_12 ?_
    refine lv_aload_n hx hb dX0_needRoom_13 rfl (lv_at hl 0 rfl) ?_
    refine va_get (D := G) (ci := 0) (v := .int (Hs.lim z)) (C := RX0) (T := TX0) (N := 14) hx hb hts (fun w h => .tail _ (wl_X0 w h)) hown hK hP 1 rfl rfl 0 (by decide) (hts _ (.tail _ wd_40)) (fun _ h9 => h9) rfl dX0_needRoom_14 ?_
    refine lv_icmp_le (tgt := 25) hx hb dX0_needRoom_17 (by decide) (fun c3 => ?_) (fun c3 => ?_)
    · have hf := (if_pos c3).symm.trans hf
      exact L_hp_needRoom_j25 _ _ _ _ _ _ _ _ _ _ _ _ _ _ _ _ _ C hl0 hE hT hK _ _ _ _ _ _ _ _ hP hD hS (lv_sub hl [0, 1] rfl) hf (by omega) (by omega)
    · have hf := (if_neg c3).symm.trans hf
      exact L_hp_needRoom_j20 _ _ _ _ _ _ _ _ _ _ _ _ _ _ _ _ _ C hl0 hE hT hK _ _ _ _ _ _ _ _ hP hD hS (lv_sub hl [0, 1] rfl) hf (by omega) (by omega)
set_option maxHeartbeats 4000000 in
set_option maxRecDepth 100000 in
theorem c_hp_extendHandles (l : Launch) (G : va_G) (cL cZ : ClassId) (Q : Nat → Nat) (A : Nat → Nat) (z : Hs) (sz : Nat) (c0 : Nat) (O0 : Hs × Unit) (hf : hp_extendHandles z = some (c0, O0)) : Met l yX0_extendHandles vX0_extendHandles { frames := 3, cells := 3, slots := 0 + c0, locals := 82 } (gPc G vwCl (ct cL cZ) [.ref (Q 1)] (cw cL cZ Q A z) sz) (qWv G vwCl (ct cL cZ) (cw cL cZ Q A z) sz (cw cL cZ Q) O0) 3 (0 + c0) (va_A (cw cL cZ Q A z) sz) := by
  refine gMet (by decide) rfl (Nat.le_of_ble_eq_true rfl) ?_
  intro p e s m below meth c ls C hK hP hD hsz hl
  subst hsz
  obtain ⟨hx, hb, hr, hml, hown, hts, hlocks⟩ := id C
  have FX : CallFix p m c cX0_extendHandles 2 s _ vX0_extendHandles RX0 := ⟨hx, hb, hml, hown, hts⟩
  have hA : ∀ q9 : Nat, s.heap.size ≤ q9 → va_A (cw cL cZ Q A z) s.heap.size q9 := fun q9 h => Or.inr h
  have hS : va_S (va_A (cw cL cZ Q A z) s.heap.size) s.heap s.heap [] := va_S.rf
  have hl : lv_has ls 2 [(0, .ref (Q 1))] := hl
  unfold hp_extendHandles at hf
  refine lv_iconst (v := 2) hx hb dX0_extendHandles_0 (by decide) ?_
  refine lv_aload_n hx hb dX0_extendHandles_1 rfl (lv_at hl 0 rfl) ?_
  refine va_get (D := G) (ci := 0) (v := .ref (A 6)) (C := RX0) (T := TX0) (N := 14) hx hb hts (fun w h => .tail _ (wl_X0 w h)) hown hK hP 1 rfl rfl 3 (by decide) (hts _ (.tail _ wd_3)) (fun _ h9 => h9) rfl dX0_extendHandles_2 ?_
  refine va_alen hx hb hK hP 6 0 rfl rfl (v := (Int32.ofNat (Hs.nst z))) rfl dX0_extendHandles_5 ?_
  refine lv_imul hx hb dX0_extendHandles_6 ?_
  refine lv_aload_n hx hb dX0_extendHandles_7 rfl (lv_at hl 0 rfl) ?_
  refine va_get (D := G) (ci := 0) (v := .int (Hs.lim z)) (C := RX0) (T := TX0) (N := 14) hx hb hts (fun w h => .tail _ (wl_X0 w h)) hown hK hP 1 rfl rfl 0 (by decide) (hts _ (.tail _ wd_40)) (fun _ h9 => h9) rfl dX0_extendHandles_8 ?_
  refine lv_iconst (v := 1) hx hb dX0_extendHandles_11 (by decide) ?_
  refine lv_iadd hx hb dX0_extendHandles_12 ?_
  obtain ⟨r1, ho1, hf⟩ := of_b0 hf
  refine va_mmin hx hb (hml.trans hl.1.symm) hown (hts _ (.tail _ wd_84)) (hts _ (.tail _ wd_85)) (hts _ (.tail _ wd_86)) (hts _ (.tail _ wd_87)) (Nat.le_of_ble_eq_true rfl) (Nat.le_of_ble_eq_true rfl) (by show _ ≤ 3; omega) (by show _ ≤ 0 + c0; omega) dX0_extendHandles_13 ?_
  refine lv_topi (fun t1 et1 => ?_)
  obtain rfl : r1 = t1 := (et1.trans (Option.some.inj ho1)).symm
  refine lv_istore_n (lv' := [(1, .int r1), (0, .ref (Q 1))]) hx hb dX0_extendHandles_16 rfl hl (by decide) rfl (fun ls hl => ?_)
  refine lv_aload_n hx hb dX0_extendHandles_17 rfl (lv_at hl 1 rfl) ?_
  refine lv_aload_n hx hb dX0_extendHandles_18 rfl (lv_at hl 1 rfl) ?_
  refine va_get (D := G) (ci := 0) (v := .ref (A 6)) (C := RX0) (T := TX0) (N := 14) hx hb hts (fun w h => .tail _ (wl_X0 w h)) hown hK hP 1 rfl rfl 3 (by decide) (hts _ (.tail _ wd_3)) (fun _ h9 => h9) rfl dX0_extendHandles_19 ?_
  refine lv_iload_n hx hb dX0_extendHandles_22 rfl (lv_at hl 0 rfl) ?_
  obtain ⟨hg3, hf⟩ := of_gd hf
  obtain ⟨d4, hf, ek5⟩ := of_addc hf
  have hPc := hP.sub (ws' := [(A 6, .inl (cL, (Hs.nst z), .inr (.inl (Hs.ast z))))]) [6] rfl
  have hDc := hD.sub (ws' := [(A 6, .inl (cL, (Hs.nst z), .inr (.inl (Hs.ast z))))]) [6] (by decide) rfl
  refine gcA (q0 := 6) (gS FX [.ref (A 6), .int r1] (c_ja_copyOf l G cL cZ (A 6) (Hs.nst z) (Hs.ast z) r1 _ hg3) (va_cwS 2 hts (gi_SU wd_80 wd_81 wd_82 wd_83) rfl rfl rfl hdU_JA_copyOf ⟨Nat.le_of_ble_eq_true rfl, Nat.le_of_ble_eq_true rfl⟩) hK hPc hDc rfl hl.1 (Nat.le_of_ble_eq_true rfl) dX0_extendHandles_23 ⟨by show _ ≤ 3; omega, by show _ ≤ 0 + c0; omega⟩) hP rfl hS hD hA (fun x2 H locs hP hD hS => ?_)
  have hP : va_P G vwCl ((cw cL cZ Q A z) ++ [(x2, .inl (cL, (r1.toNatClampNeg), .inr (.inl (cpyz (Hs.ast z) (Hs.nst z) r1))))]) H := hP
  have hD : va_D _ ((cw cL cZ Q A z) ++ [(x2, .inl (cL, (r1.toNatClampNeg), .inr (.inl (cpyz (Hs.ast z) (Hs.nst z) r1))))]) := hD
  refine va_put (D := G) (ci := 0) (v := .ref x2) (ty := .array .long) (C := RX0) (T := TX0) (N := 14) hx hb hts (fun w h => .tail _ (wl_X0 w h)) tyX0 tyX0_ok nmX0 hown hK hP hD hS 1 rfl rfl 3 (by decide) (hts _ (.tail _ wd_3)) (fun _ h9 => h9) rfl (by decide +kernel) rfl rfl (Nat.le_of_ble_eq_true rfl) dX0_extendHandles_26 (fun H locs hP hD hS => ?_)
  have hP := hP.sub (ws' := (cw cL cZ Q (va_up A 6 x2) (Hs.wst (Hs.snst z (r1.toNatClampNeg)) (cpyz (Hs.ast z) (Hs.nst z) r1)))) [0, 1, 2, 3, 4, 5, 9, 7, 8] rfl
  have hD := hD.sub (ws' := (cw cL cZ Q (va_up A 6 x2) (Hs.wst (Hs.snst z (r1.toNatClampNeg)) (cpyz (Hs.ast z) (Hs.nst z) r1)))) [0, 1, 2, 3, 4, 5, 9, 7, 8] (by decide) rfl
  generalize va_up A 6 x2 = A at hP hD
  refine lv_aload_n hx hb dX0_extendHandles_29 rfl (lv_at hl 1 rfl) ?_
  refine lv_iload_n hx hb dX0_extendHandles_30 rfl (lv_at hl 0 rfl) ?_
  obtain ⟨hg7, hf⟩ := of_gd hf
  obtain ⟨d8, hf, ek9⟩ := of_addc hf
  refine gnewa (atype := .long) (t0 := 0) (a0 := ((r1.toNatClampNeg), .inr (.inl (fun _ => 0)))) hx hb (hts _ (.tail _ wd_79)) rfl (fun C h => by cases h) hK rfl hP hD hS hA (fun cA => rfl) (alb_in hg7).1 (alb_in hg7).2 (by show _ ≤ 3; omega) (by show _ ≤ 0 + c0; omega) dX0_extendHandles_31 (fun x6 H hP hD hS => ?_)
  have hP : va_P G vwCl ((cw cL cZ Q A (Hs.wst (Hs.snst z (r1.toNatClampNeg)) (cpyz (Hs.ast z) (Hs.nst z) r1))) ++ [(x6, .inl (cL, (r1.toNatClampNeg), .inr (.inl (fun _ => 0))))]) H := hP
  have hD : va_D _ ((cw cL cZ Q A (Hs.wst (Hs.snst z (r1.toNatClampNeg)) (cpyz (Hs.ast z) (Hs.nst z) r1))) ++ [(x6, .inl (cL, (r1.toNatClampNeg), .inr (.inl (fun _ => 0))))]) := hD
  refine va_put (D := G) (ci := 0) (v := .ref x6) (ty := .array .long) (C := RX0) (T := TX0) (N := 14) hx hb hts (fun w h => .tail _ (wl_X0 w h)) tyX0 tyX0_ok nmX0 hown hK hP hD hS 1 rfl rfl 5 (by decide) (hts _ (.tail _ wd_45)) (fun _ h9 => h9) rfl (by decide +kernel) rfl rfl (Nat.le_of_ble_eq_true rfl) dX0_extendHandles_33 (fun H locs hP hD hS => ?_)
  have hP := hP.sub (ws' := (cw cL cZ Q (va_up A 8 x6) (Hs.wqu (Hs.snqu (Hs.wst (Hs.snst z (r1.toNatClampNeg)) (cpyz (Hs.ast z) (Hs.nst z) r1)) (r1.toNatClampNeg)) (fun _ => 0)))) [0, 1, 2, 3, 4, 5, 6, 7, 9] rfl
  have hD := hD.sub (ws' := (cw cL cZ Q (va_up A 8 x6) (Hs.wqu (Hs.snqu (Hs.wst (Hs.snst z (r1.toNatClampNeg)) (cpyz (Hs.ast z) (Hs.nst z) r1)) (r1.toNatClampNeg)) (fun _ => 0)))) [0, 1, 2, 3, 4, 5, 6, 7, 9] (by decide) rfl
  generalize va_up A 8 x6 = A at hP hD
  refine lv_aload_n hx hb dX0_extendHandles_36 rfl (lv_at hl 1 rfl) ?_
  refine lv_iload_n hx hb dX0_extendHandles_37 rfl (lv_at hl 0 rfl) ?_
  obtain ⟨hg11, hf⟩ := of_gd hf
  obtain ⟨d12, hf, ek13⟩ := of_addc hf
  refine gnewa (atype := .boolean) (t0 := 1) (a0 := ((r1.toNatClampNeg), .inl (fun _ => 0))) hx hb (hts _ (.tail _ wd_78)) rfl (fun C h => by cases h) hK rfl hP hD hS hA (fun cA => rfl) (alb_in hg11).1 (alb_in hg11).2 (by show _ ≤ 3; omega) (by show _ ≤ 0 + c0; omega) dX0_extendHandles_38 (fun x10 H hP hD hS => ?_)
  have hP : va_P G vwCl ((cw cL cZ Q A (Hs.wqu (Hs.snqu (Hs.wst (Hs.snst z (r1.toNatClampNeg)) (cpyz (Hs.ast z) (Hs.nst z) r1)) (r1.toNatClampNeg)) (fun _ => 0))) ++ [(x10, .inl (cZ, (r1.toNatClampNeg), .inl (fun _ => 0)))]) H := hP
  have hD : va_D _ ((cw cL cZ Q A (Hs.wqu (Hs.snqu (Hs.wst (Hs.snst z (r1.toNatClampNeg)) (cpyz (Hs.ast z) (Hs.nst z) r1)) (r1.toNatClampNeg)) (fun _ => 0))) ++ [(x10, .inl (cZ, (r1.toNatClampNeg), .inl (fun _ => 0)))]) := hD
  refine va_put (D := G) (ci := 0) (v := .ref x10) (ty := .array .boolean) (C := RX0) (T := TX0) (N := 14) hx hb hts (fun w h => .tail _ (wl_X0 w h)) tyX0 tyX0_ok nmX0 hown hK hP hD hS 1 rfl rfl 4 (by decide) (hts _ (.tail _ wd_44)) (fun _ h9 => h9) rfl (by decide +kernel) rfl rfl (Nat.le_of_ble_eq_true rfl) dX0_extendHandles_40 (fun H locs hP hD hS => ?_)
  have hP := hP.sub (ws' := (cw cL cZ Q (va_up A 7 x10) (Hs.wqu (Hs.snqu (Hs.wrc (Hs.snrc (Hs.wst (Hs.snst z (r1.toNatClampNeg)) (cpyz (Hs.ast z) (Hs.nst z) r1)) (r1.toNatClampNeg)) (fun _ => 0)) (r1.toNatClampNeg)) (fun _ => 0)))) [0, 1, 2, 3, 4, 5, 6, 9, 8] rfl
  have hD := hD.sub (ws' := (cw cL cZ Q (va_up A 7 x10) (Hs.wqu (Hs.snqu (Hs.wrc (Hs.snrc (Hs.wst (Hs.snst z (r1.toNatClampNeg)) (cpyz (Hs.ast z) (Hs.nst z) r1)) (r1.toNatClampNeg)) (fun _ => 0)) (r1.toNatClampNeg)) (fun _ => 0)))) [0, 1, 2, 3, 4, 5, 6, 9, 8] (by decide) rfl
  generalize va_up A 7 x10 = A at hP hD
  obtain ⟨hc0, hj0⟩ := of_some2 hf
  subst hj0
  exact grWv hx hb hr hlocks hP hK hD hS dX0_extendHandles_43 (by omega) (by omega)
set_option maxHeartbeats 4000000 in
set_option maxRecDepth 100000 in
theorem c_hp_newHandle (l : Launch) (G : va_G) (cL cZ : ClassId) (Q : Nat → Nat) (A : Nat → Nat) (z : Hs) (sz : Nat) (c0 : Nat) (O0 : Hs × Int32) (hf : hp_newHandle z = some (c0, O0)) : Met l yX0_newHandle vX0_newHandle { frames := 4, cells := 3, slots := 0 + c0, locals := 103 } (gPc G vwCl (ct cL cZ) [.ref (Q 1)] (cw cL cZ Q A z) sz) (qWi G vwCl (ct cL cZ) (cw cL cZ Q A z) sz (cw cL cZ Q) O0) 3 (0 + c0) (va_A (cw cL cZ Q A z) sz) := by
  refine gMet (by decide) rfl (Nat.le_of_ble_eq_true rfl) ?_
  intro p e s m below meth c ls C hK hP hD hsz hl
  subst hsz
  obtain ⟨hx, hb, hr, hml, hown, hts, hlocks⟩ := id C
  have FX : CallFix p m c cX0_newHandle 2 s _ vX0_newHandle RX0 := ⟨hx, hb, hml, hown, hts⟩
  have hA : ∀ q9 : Nat, s.heap.size ≤ q9 → va_A (cw cL cZ Q A z) s.heap.size q9 := fun q9 h => Or.inr h
  have hS : va_S (va_A (cw cL cZ Q A z) s.heap.size) s.heap s.heap [] := va_S.rf
  have hl : lv_has ls 2 [(0, .ref (Q 1))] := hl
  unfold hp_newHandle at hf
  refine lv_aload_n hx hb dX0_newHandle_0 rfl (lv_at hl 0 rfl) ?_
  refine va_get (D := G) (ci := 0) (v := .int (Hs.fh z)) (C := RX0) (T := TX0) (N := 14) hx hb hts (fun w h => .tail _ (wl_X0 w h)) hown hK hP 1 rfl rfl 8 (by decide) (hts _ (.tail _ wd_47)) (fun _ h9 => h9) rfl dX0_newHandle_1 ?_
  refine lv_if_eq (tgt := 25) hx hb dX0_newHandle_4 (by decide) (fun c1 => ?_) (fun c1 => ?_)
  · have hf := (if_pos c1).symm.trans hf
    refine lv_aload_n hx hb dX0_newHandle_25 rfl (lv_at hl 0 rfl) ?_
    refine lv_dup hx hb dX0_newHandle_26 rfl ?_
    refine va_get (D := G) (ci := 0) (v := .int (Hs.lh z)) (C := RX0) (T := TX0) (N := 14) hx hb hts (fun w h => .tail _ (wl_X0 w h)) hown hK hP 1 rfl rfl 7 (by decide) (hts _ (.tail _ wd_59)) (fun _ h9 => h9) rfl dX0_newHandle_27 ?_
    refine lv_iconst (v := 1) hx hb dX0_newHandle_30 (by decide) ?_
    refine lv_iadd hx hb dX0_newHandle_31 ?_
    refine va_put (D := G) (ci := 0) (v := .int ((Hs.lh z) + 1)) (ty := .int) (C := RX0) (T := TX0) (N := 14) hx hb hts (fun w h => .tail _ (wl_X0 w h)) tyX0 tyX0_ok nmX0 hown hK hP hD hS 1 rfl rfl 7 (by decide) (hts _ (.tail _ wd_59)) (fun _ h9 => h9) rfl (by decide +kernel) rfl rfl (Nat.le_of_ble_eq_true rfl) dX0_newHandle_32 (fun H locs hP hD hS => ?_)
    have hP : va_P G vwCl (cw cL cZ Q A (Hs.slh z ((Hs.lh z) + 1))) H := hP
    have hD : va_D _ (cw cL cZ Q A (Hs.slh z ((Hs.lh z) + 1))) := hD
    refine lv_aload_n hx hb dX0_newHandle_35 rfl (lv_at hl 0 rfl) ?_
    refine va_get (D := G) (ci := 0) (v := .int ((Hs.lh z) + 1)) (C := RX0) (T := TX0) (N := 14) hx hb hts (fun w h => .tail _ (wl_X0 w h)) hown hK hP 1 rfl rfl 7 (by decide) (hts _ (.tail _ wd_59)) (fun _ h9 => h9) rfl dX0_newHandle_36 ?_
    refine lv_aload_n hx hb dX0_newHandle_39 rfl (lv_at hl 0 rfl) ?_
    refine va_get (D := G) (ci := 0) (v := .ref (A 6)) (C := RX0) (T := TX0) (N := 14) hx hb hts (fun w h => .tail _ (wl_X0 w h)) hown hK hP 1 rfl rfl 3 (by decide) (hts _ (.tail _ wd_3)) (fun _ h9 => h9) rfl dX0_newHandle_40 ?_
    refine va_alen hx hb hK hP 6 0 rfl rfl (v := (Int32.ofNat (Hs.nst z))) rfl dX0_newHandle_43 ?_
    refine lv_icmp_lt (tgt := 51) hx hb dX0_newHandle_44 (by decide) (fun c2 => ?_) (fun c2 => ?_)
    · have hf := (if_pos c2).symm.trans hf
      refine lv_aload_n hx hb dX0_newHandle_51 rfl (lv_at hl 0 rfl) ?_
      refine va_get (D := G) (ci := 0) (v := .int ((Hs.lh z) + 1)) (C := RX0) (T := TX0) (N := 14) hx hb hts (fun w h => .tail _ (wl_X0 w h)) hown hK hP 1 rfl rfl 7 (by decide) (hts _ (.tail _ wd_59)) (fun _ h9 => h9) rfl dX0_newHandle_52 ?_
      obtain ⟨hc0, hj0⟩ := of_some2 hf
      subst hj0
      exact grWi hx hb hr hlocks hP hK hD hS dX0_newHandle_55 (by omega) (by omega)
    · have hf := (if_neg c2).symm.trans hf
      refine lv_aload_n hx hb dX0_newHandle_47 rfl (lv_at hl 0 rfl) ?_
      obtain ⟨k3, z3, o9, d3, ho3, hf, ek3⟩ := of_bcw hf
      refine gcWv (gV FX [] (c_hp_extendHandles l G cL cZ Q A (Hs.slh z ((Hs.lh z) + 1)) _  k3 _ ho3) (cwV 0 hts (gi_V wd_88 wd_89 wd_90 wd_7 wd_91) rfl rfl rfl hdV_X0_extendHandles ⟨Nat.le_of_ble_eq_true rfl, Nat.le_of_ble_eq_true rfl⟩) hK hP hD 1 rfl rfl rfl hl.1 (Nat.le_of_ble_eq_true rfl) dX0_newHandle_48 ⟨by show _ ≤ 3; omega, by show _ ≤ 0 + c0; omega⟩) hS hD hA (fun A H locs hP hD hS => ?_)
      refine lv_aload_n hx hb dX0_newHandle_51 rfl (lv_at hl 0 rfl) ?_
      refine va_get (D := G) (ci := 0) (v := .int (Hs.lh z3)) (C := RX0) (T := TX0) (N := 14) hx hb hts (fun w h => .tail _ (wl_X0 w h)) hown hK hP 1 rfl rfl 7 (by decide) (hts _ (.tail _ wd_59)) (fun _ h9 => h9) rfl dX0_newHandle_52 ?_
      obtain ⟨hc0, hj0⟩ := of_some2 hf
      subst hj0
      exact grWi hx hb hr hlocks hP hK hD hS dX0_newHandle_55 (by omega) (by omega)
  · have hf := (if_neg c1).symm.trans hf
    refine lv_aload_n hx hb dX0_newHandle_7 rfl (lv_at hl 0 rfl) ?_
    refine va_get (D := G) (ci := 0) (v := .int (Hs.fh z)) (C := RX0) (T := TX0) (N := 14) hx hb hts (fun w h => .tail _ (wl_X0 w h)) hown hK hP 1 rfl rfl 8 (by decide) (hts _ (.tail _ wd_47)) (fun _ h9 => h9) rfl dX0_newHandle_8 ?_
    refine lv_istore_n (lv' := [(1, .int (Hs.fh z)), (0, .ref (Q 1))]) hx hb dX0_newHandle_11 rfl hl (by decide) rfl (fun ls hl => ?_)
    refine lv_aload_n hx hb dX0_newHandle_12 rfl (lv_at hl 1 rfl) ?_
    refine lv_aload_n hx hb dX0_newHandle_13 rfl (lv_at hl 1 rfl) ?_
    refine va_get (D := G) (ci := 0) (v := .ref (A 6)) (C := RX0) (T := TX0) (N := 14) hx hb hts (fun w h => .tail _ (wl_X0 w h)) hown hK hP 1 rfl rfl 3 (by decide) (hts _ (.tail _ wd_3)) (fun _ h9 => h9) rfl dX0_newHandle_14 ?_
    refine lv_iload_n hx hb dX0_newHandle_17 rfl (lv_at hl 0 rfl) ?_
    obtain ⟨hg4, hf⟩ := of_gd hf
    refine va_lald (f := (Hs.ast z)) (n := (Hs.nst z)) hx hb hK hP 6 0 rfl rfl (inb_in hg4) dX0_newHandle_18 ?_
    refine lv_l2i hx hb dX0_newHandle_19 rfl ?_
    refine va_put (D := G) (ci := 0) (v := .int (((Hs.ast z) (Hs.fh z).toNatClampNeg).toInt32)) (ty := .int) (C := RX0) (T := TX0) (N := 14) hx hb hts (fun w h => .tail _ (wl_X0 w h)) tyX0 tyX0_ok nmX0 hown hK hP hD hS 1 rfl rfl 8 (by decide) (hts _ (.tail _ wd_47)) (fun _ h9 => h9) rfl (by decide +kernel) rfl rfl (Nat.le_of_ble_eq_true rfl) dX0_newHandle_20 (fun H locs hP hD hS => ?_)
    have hP : va_P G vwCl (cw cL cZ Q A (Hs.sfh z (((Hs.ast z) (Hs.fh z).toNatClampNeg).toInt32))) H := hP
    have hD : va_D _ (cw cL cZ Q A (Hs.sfh z (((Hs.ast z) (Hs.fh z).toNatClampNeg).toInt32))) := hD
    refine lv_iload_n hx hb dX0_newHandle_23 rfl (lv_at hl 0 rfl) ?_
    obtain ⟨hc0, hj0⟩ := of_some2 hf
    subst hj0
    exact grWi hx hb hr hlocks hP hK hD hS dX0_newHandle_24 (by omega) (by omega)
