set_option maxHeartbeats 4000000 in
set_option maxRecDepth 100000 in
theorem c_md_bytesOf (l : Launch) (G : va_G) (cI cL cZ cB : ClassId) (q : Nat) (A : Nat → Nat) (z : Ms) (sz : Nat) (p0 : Int32) (O0 : Int32) (hf : md_bytesOf z p0 = some O0) : Met l yX4_bytesOf vX4_bytesOf { frames := 0, cells := 0, slots := 0, locals := 0 } (gPc G vwCl (mt cI cL cZ cB) [.ref q, .int p0] (mw cI cL cZ cB q A z) sz) (qRi G vwCl (mt cI cL cZ cB) (mw cI cL cZ cB q A z) sz O0) 0 0 (va_A (mw cI cL cZ cB q A z) sz) := by
  refine gMet (by decide) rfl (Nat.le_of_ble_eq_true rfl) ?_
  intro p e s m below meth c ls C hK hP hD hsz hl
  subst hsz
  obtain ⟨hx, hb, hr, hml, hown, hts, hlocks⟩ := id C
  have FX : CallFix p m c cX4_bytesOf 2 s _ vX4_bytesOf RX4 := ⟨hx, hb, hml, hown, hts⟩
  have hA : ∀ q9 : Nat, s.heap.size ≤ q9 → va_A (mw cI cL cZ cB q A z) s.heap.size q9 := fun q9 h => Or.inr h
  have hS : va_S (va_A (mw cI cL cZ cB q A z) s.heap.size) s.heap s.heap [] := va_S.rf
  have hl : lv_has ls 2 [(0, .ref q), (1, .int p0)] := hl
  unfold md_bytesOf at hf
  refine lv_iload_n hx hb dX4_bytesOf_0 rfl (lv_at hl 1 rfl) ?_
  refine lv_if_le (tgt := 13) hx hb dX4_bytesOf_1 (by decide) (fun c1 => ?_) (fun c1 => ?_)
  · have hf := (if_pos c1).symm.trans hf
    refine lv_iconst (v := 0) hx hb dX4_bytesOf_13 (by decide) ?_
    obtain rfl := Option.some.inj hf
    exact grRi hx hb hr hlocks hP hK hD hS dX4_bytesOf_14 (by omega) (by omega)
  · have hf := (if_neg c1).symm.trans hf
    refine lv_aload_n hx hb dX4_bytesOf_4 rfl (lv_at hl 0 rfl) ?_
    refine va_get (D := G) (ci := 4) (v := .ref (A 4)) (C := RX4) (T := TX4) (N := 32) hx hb hts (fun w h => .tail _ (wl_X4 w h)) hown hK hP 0 rfl rfl 11 (by decide) (hts _ (.tail _ wm_17)) (fun _ h9 => h9) rfl dX4_bytesOf_5 ?_
    refine lv_iload_n hx hb dX4_bytesOf_8 rfl (lv_at hl 1 rfl) ?_
    obtain ⟨hg2, hf⟩ := of_gd hf
    refine va_iald (f := (Ms.asi z)) (n := (Ms.nsi z)) hx hb hK hP 4 0 rfl rfl (inb_in hg2) dX4_bytesOf_9 ?_
    refine lv_goto (tgt := 14) hx hb dX4_bytesOf_10 (by decide) ?_
    obtain rfl := Option.some.inj hf
    exact grRi hx hb hr hlocks hP hK hD hS dX4_bytesOf_14 (by omega) (by omega)
set_option maxHeartbeats 4000000 in
set_option maxRecDepth 100000 in
theorem c_md_byteOf (l : Launch) (G : va_G) (cI cL cZ cB : ClassId) (q : Nat) (A : Nat → Nat) (z : Ms) (sz : Nat) (p0 : Int32) (p1 : Int32) (O0 : Int32) (hf : md_byteOf z p0 p1 = some O0) : Met l yX4_byteOf vX4_byteOf { frames := 0, cells := 0, slots := 0, locals := 0 } (gPc G vwCl (mt cI cL cZ cB) [.ref q, .int p0, .int p1] (mw cI cL cZ cB q A z) sz) (qRi G vwCl (mt cI cL cZ cB) (mw cI cL cZ cB q A z) sz O0) 0 0 (va_A (mw cI cL cZ cB q A z) sz) := by
  refine gMet (by decide) rfl (Nat.le_of_ble_eq_true rfl) ?_
  intro p e s m below meth c ls C hK hP hD hsz hl
  subst hsz
  obtain ⟨hx, hb, hr, hml, hown, hts, hlocks⟩ := id C
  have FX : CallFix p m c cX4_byteOf 3 s _ vX4_byteOf RX4 := ⟨hx, hb, hml, hown, hts⟩
  have hA : ∀ q9 : Nat, s.heap.size ≤ q9 → va_A (mw cI cL cZ cB q A z) s.heap.size q9 := fun q9 h => Or.inr h
  have hS : va_S (va_A (mw cI cL cZ cB q A z) s.heap.size) s.heap s.heap [] := va_S.rf
  have hl : lv_has ls 3 [(0, .ref q), (1, .int p0), (2, .int p1)] := hl
  unfold md_byteOf at hf
  refine lv_aload_n hx hb dX4_byteOf_0 rfl (lv_at hl 0 rfl) ?_
  refine va_get (D := G) (ci := 4) (v := .ref (A 17)) (C := RX4) (T := TX4) (N := 32) hx hb hts (fun w h => .tail _ (wl_X4 w h)) hown hK hP 0 rfl rfl 25 (by decide) (hts _ (.tail _ wm_38)) (fun _ h9 => h9) rfl dX4_byteOf_1 ?_
  refine lv_aload_n hx hb dX4_byteOf_4 rfl (lv_at hl 0 rfl) ?_
  refine va_get (D := G) (ci := 4) (v := .ref (A 5)) (C := RX4) (T := TX4) (N := 32) hx hb hts (fun w h => .tail _ (wl_X4 w h)) hown hK hP 0 rfl rfl 12 (by decide) (hts _ (.tail _ wm_27)) (fun _ h9 => h9) rfl dX4_byteOf_5 ?_
  refine lv_iload_n hx hb dX4_byteOf_8 rfl (lv_at hl 1 rfl) ?_
  obtain ⟨hg1, hf⟩ := of_gd hf
  refine va_iald (f := (Ms.asr z)) (n := (Ms.nsr z)) hx hb hK hP 5 0 rfl rfl (inb_in hg1) dX4_byteOf_9 ?_
  refine lv_iload_n hx hb dX4_byteOf_10 rfl (lv_at hl 2 rfl) ?_
  refine lv_iadd hx hb dX4_byteOf_11 ?_
  obtain ⟨hg2, hf⟩ := of_gd hf
  refine va_bald (f := (Ms.aby z)) (n := (Ms.nby z)) hx hb hK hP 17 3 rfl rfl (inb_in hg2) dX4_byteOf_12 ?_
  refine lv_sipush (v := 255) hx hb dX4_byteOf_13 (by decide) ?_
  refine lv_iand hx hb dX4_byteOf_16 ?_
  obtain rfl := Option.some.inj hf
  exact grRi hx hb hr hlocks hP hK hD hS dX4_byteOf_17 (by omega) (by omega)
def At_md_join_l179 (l : Launch) (G : va_G) (cI cL cZ cB : ClassId) (q : Nat) (w : va_W) (p : Program) (e : Env) (s : State) (m : MethodId) (args : Array Value) (below : List Frame) (meth : Method) (c : Code) (O0 : Ms × Int32) (mcT msT : Nat) (F : Int32 → Int32 → Int32 → Int32 → Int32 → Int32 → Ms → Option (Nat × Ms × Int32)) : Prop := ∀ (A : Nat → Nat) (z : Ms) (x1 : Int32) (x4 : Int32) (x5 : Int32) (x6 : Int32) (x8 : Int32) (x9 : Int32) (d0 : Nat) (H : Heap) (locs : List Loc) (ls : Array Slot) (cells slots : Nat), va_P G vwCl (mw cI cL cZ cB q A z) H → va_D (va_A w s.heap.size) (mw cI cL cZ cB q A z) → va_S (va_A w s.heap.size) s.heap H locs → lv_has ls 10 [(0, .ref q), (1, .int x1), (4, .int x4), (5, .int x5), (6, .int x6), (8, .int x8), (9, .int x9)] → F x1 x4 x5 x6 x8 x9 z = some (d0, O0) → cells + (0 + d0 / 64) ≤ mcT → slots + (0 + d0) ≤ msT → W p l e { frames := 4, cells := mcT, slots := msT, locals := 93 } s m args below meth c H locs cells slots (MQ below (qWi G vwCl (mt cI cL cZ cB) w s.heap.size (mw cI cL cZ cB q) O0) args s mcT msT (va_A w s.heap.size)) (F0 m 179 ls [])
def At_md_join_j158 (l : Launch) (G : va_G) (cI cL cZ cB : ClassId) (q : Nat) (w : va_W) (p : Program) (e : Env) (s : State) (m : MethodId) (args : Array Value) (below : List Frame) (meth : Method) (c : Code) (O0 : Ms × Int32) (mcT msT : Nat) (F : Int32 → Int32 → Int32 → Int32 → Int32 → Int32 → Ms → Option (Nat × Ms × Int32)) : Prop := ∀ (A : Nat → Nat) (z : Ms) (x1 : Int32) (x4 : Int32) (x5 : Int32) (x6 : Int32) (x7 : Int32) (t0 : Int32) (d0 : Nat) (H : Heap) (locs : List Loc) (ls : Array Slot) (cells slots : Nat), va_P G vwCl (mw cI cL cZ cB q A z) H → va_D (va_A w s.heap.size) (mw cI cL cZ cB q A z) → va_S (va_A w s.heap.size) s.heap H locs → lv_has ls 10 [(0, .ref q), (1, .int x1), (4, .int x4), (5, .int x5), (6, .int x6), (7, .int x7)] → F x1 x4 x5 x6 x7 t0 z = some (d0, O0) → cells + (0 + d0 / 64) ≤ mcT → slots + (0 + d0) ≤ msT → W p l e { frames := 4, cells := mcT, slots := msT, locals := 93 } s m args below meth c H locs cells slots (MQ below (qWi G vwCl (mt cI cL cZ cB) w s.heap.size (mw cI cL cZ cB q) O0) args s mcT msT (va_A w s.heap.size)) (F0 m 158 ls [.int t0, .ref q])
def At_md_join_j87 (l : Launch) (G : va_G) (cI cL cZ cB : ClassId) (q : Nat) (w : va_W) (p : Program) (e : Env) (s : State) (m : MethodId) (args : Array Value) (below : List Frame) (meth : Method) (c : Code) (O0 : Ms × Int32) (mcT msT : Nat) (F : Int32 → Int32 → Int32 → Int32 → Ms → Option (Nat × Ms × Int32)) : Prop := ∀ (A : Nat → Nat) (z : Ms) (x1 : Int32) (x2 : Int32) (x3 : Int32) (t0 : Int32) (d0 : Nat) (H : Heap) (locs : List Loc) (ls : Array Slot) (cells slots : Nat), va_P G vwCl (mw cI cL cZ cB q A z) H → va_D (va_A w s.heap.size) (mw cI cL cZ cB q A z) → va_S (va_A w s.heap.size) s.heap H locs → lv_has ls 10 [(0, .ref q), (1, .int x1), (2, .int x2), (3, .int x3)] → F x1 x2 x3 t0 z = some (d0, O0) → cells + (0 + d0 / 64) ≤ mcT → slots + (0 + d0) ≤ msT → W p l e { frames := 4, cells := mcT, slots := msT, locals := 93 } s m args below meth c H locs cells slots (MQ below (qWi G vwCl (mt cI cL cZ cB) w s.heap.size (mw cI cL cZ cB q) O0) args s mcT msT (va_A w s.heap.size)) (F0 m 87 ls [.int t0, .ref q])
def At_md_join_j82 (l : Launch) (G : va_G) (cI cL cZ cB : ClassId) (q : Nat) (w : va_W) (p : Program) (e : Env) (s : State) (m : MethodId) (args : Array Value) (below : List Frame) (meth : Method) (c : Code) (O0 : Ms × Int32) (mcT msT : Nat) (F : Int32 → Int32 → Int32 → Ms → Option (Nat × Ms × Int32)) : Prop := ∀ (A : Nat → Nat) (z : Ms) (x1 : Int32) (x2 : Int32) (x3 : Int32) (d0 : Nat) (H : Heap) (locs : List Loc) (ls : Array Slot) (cells slots : Nat), va_P G vwCl (mw cI cL cZ cB q A z) H → va_D (va_A w s.heap.size) (mw cI cL cZ cB q A z) → va_S (va_A w s.heap.size) s.heap H locs → lv_has ls 10 [(0, .ref q), (1, .int x1), (2, .int x2), (3, .int x3)] → F x1 x2 x3 z = some (d0, O0) → cells + (0 + d0 / 64) ≤ mcT → slots + (0 + d0) ≤ msT → W p l e { frames := 4, cells := mcT, slots := msT, locals := 93 } s m args below meth c H locs cells slots (MQ below (qWi G vwCl (mt cI cL cZ cB) w s.heap.size (mw cI cL cZ cB q) O0) args s mcT msT (va_A w s.heap.size)) (F0 m 82 ls [.ref q])
def At_md_join_j27 (l : Launch) (G : va_G) (cI cL cZ cB : ClassId) (q : Nat) (w : va_W) (p : Program) (e : Env) (s : State) (m : MethodId) (args : Array Value) (below : List Frame) (meth : Method) (c : Code) (O0 : Ms × Int32) (mcT msT : Nat) (F : Int32 → Int32 → Int32 → Int32 → Ms → Option (Nat × Ms × Int32)) : Prop := ∀ (A : Nat → Nat) (z : Ms) (x1 : Int32) (x2 : Int32) (x3 : Int32) (t0 : Int32) (d0 : Nat) (H : Heap) (locs : List Loc) (ls : Array Slot) (cells slots : Nat), va_P G vwCl (mw cI cL cZ cB q A z) H → va_D (va_A w s.heap.size) (mw cI cL cZ cB q A z) → va_S (va_A w s.heap.size) s.heap H locs → lv_has ls 10 [(0, .ref q), (1, .int x1), (2, .int x2), (3, .int x3)] → F x1 x2 x3 t0 z = some (d0, O0) → cells + (0 + d0 / 64) ≤ mcT → slots + (0 + d0) ≤ msT → W p l e { frames := 4, cells := mcT, slots := msT, locals := 93 } s m args below meth c H locs cells slots (MQ below (qWi G vwCl (mt cI cL cZ cB) w s.heap.size (mw cI cL cZ cB q) O0) args s mcT msT (va_A w s.heap.size)) (F0 m 27 ls [.int t0, .ref q])
def At_md_join_j22 (l : Launch) (G : va_G) (cI cL cZ cB : ClassId) (q : Nat) (w : va_W) (p : Program) (e : Env) (s : State) (m : MethodId) (args : Array Value) (below : List Frame) (meth : Method) (c : Code) (O0 : Ms × Int32) (mcT msT : Nat) (F : Int32 → Int32 → Int32 → Ms → Option (Nat × Ms × Int32)) : Prop := ∀ (A : Nat → Nat) (z : Ms) (x1 : Int32) (x2 : Int32) (x3 : Int32) (d0 : Nat) (H : Heap) (locs : List Loc) (ls : Array Slot) (cells slots : Nat), va_P G vwCl (mw cI cL cZ cB q A z) H → va_D (va_A w s.heap.size) (mw cI cL cZ cB q A z) → va_S (va_A w s.heap.size) s.heap H locs → lv_has ls 10 [(0, .ref q), (1, .int x1), (2, .int x2), (3, .int x3)] → F x1 x2 x3 z = some (d0, O0) → cells + (0 + d0 / 64) ≤ mcT → slots + (0 + d0) ≤ msT → W p l e { frames := 4, cells := mcT, slots := msT, locals := 93 } s m args below meth c H locs cells slots (MQ below (qWi G vwCl (mt cI cL cZ cB) w s.heap.size (mw cI cL cZ cB q) O0) args s mcT msT (va_A w s.heap.size)) (F0 m 22 ls [.ref q])
set_option maxHeartbeats 4000000 in
set_option maxRecDepth 100000 in
theorem L_md_join_l179 (l : Launch) (G : va_G) (cI cL cZ cB : ClassId) (q : Nat) (w : va_W) (p : Program) (e : Env) (s : State) (m : MethodId) (args : Array Value) (below : List Frame) (meth : Method) (c : Code) (O0 : Ms × Int32) (mcT msT : Nat) (C : MC p s m args meth c cX4_join 10 (some .int) RX4 vX4_join) (hK : va_K G vwCl (mt cI cL cZ cB) s) : ∀ n : Nat, At_md_join_l179 l G cI cL cZ cB q w p e s m args below meth c O0 mcT msT (md_join_l179 n) := by
  obtain ⟨hx, hb, hr, hml, hown, hts, hlocks⟩ := id C
  have FX : CallFix p m c cX4_join 10 s args vX4_join RX4 := ⟨hx, hb, hml, hown, hts⟩
  have hA : ∀ q9 : Nat, s.heap.size ≤ q9 → va_A w s.heap.size q9 := fun q9 h => Or.inr h
  intro n
  induction n with
  | zero =>
    intro A z x1 x4 x5 x6 x8 x9 d0 H locs ls cells slots hP hD hS hl hf hcc hss
    exact nomatch (show none = some _ from hf)
  | succ n ih =>
    intro A z x1 x4 x5 x6 x8 x9 d0 H locs ls cells slots hP hD hS hl hf hcc hss
    rw [md_join_l179] at hf
    refine lv_iload hx hb dX4_join_179 (lv_at hl 6 rfl) ?_
    refine lv_iload hx hb dX4_join_181 (lv_at hl 4 rfl) ?_
    refine lv_icmp_ge (tgt := 245) hx hb dX4_join_183 (by decide) (fun c27 => ?_) (fun c27 => ?_)
    · have hf := (if_pos c27).symm.trans hf
      refine lv_aload_n hx hb dX4_join_245 rfl (lv_at hl 0 rfl) ?_
      refine lv_iload_n hx hb dX4_join_246 rfl (lv_at hl 1 rfl) ?_
      refine lv_iload hx hb dX4_join_247 (lv_at hl 5 rfl) ?_
      refine lv_lconst (v := 0) hx hb dX4_join_249 (by decide) ?_
      obtain ⟨z28, o9, ho28, hf⟩ := of_bw hf
      refine gcWv (gV FX [.int x1, .int x8, .long 0] (c_md_set l G cI cL cZ cB q A z _ x1 x8 0 _ ho28) (cwV 3 hts (gi_V wm_82 wm_83 wm_84 wm_6 wm_85) rfl rfl rfl hdV_X4_set ⟨Nat.le_of_ble_eq_true rfl, Nat.le_of_ble_eq_true rfl⟩) hK hP hD 0 rfl rfl rfl hl.1 (Nat.le_of_ble_eq_true rfl) dX4_join_250 ⟨by show _ ≤ mcT; omega, by show _ ≤ msT; omega⟩) hS hD hA (fun A H locs hP hD hS => ?_)
      refine lv_iload hx hb dX4_join_253 (lv_at hl 5 rfl) ?_
      obtain ⟨hc0, hj0⟩ := of_some2 hf
      subst hj0
      exact grWi hx hb hr hlocks hP hK hD hS dX4_join_255 (by omega) (by omega)
    · have hf := (if_neg c27).symm.trans hf
      refine lv_aload_n hx hb dX4_join_186 rfl (lv_at hl 0 rfl) ?_
      refine va_get (D := G) (ci := 4) (v := .ref (A 17)) (C := RX4) (T := TX4) (N := 32) hx hb hts (fun w h => .tail _ (wl_X4 w h)) hown hK hP 0 rfl rfl 25 (by decide) (hts _ (.tail _ wm_38)) (fun _ h9 => h9) rfl dX4_join_187 ?_
      refine lv_aload_n hx hb dX4_join_190 rfl (lv_at hl 0 rfl) ?_
      refine va_get (D := G) (ci := 4) (v := .ref (A 5)) (C := RX4) (T := TX4) (N := 32) hx hb hts (fun w h => .tail _ (wl_X4 w h)) hown hK hP 0 rfl rfl 12 (by decide) (hts _ (.tail _ wm_27)) (fun _ h9 => h9) rfl dX4_join_191 ?_
      refine lv_iload hx hb dX4_join_194 (lv_at hl 5 rfl) ?_
      obtain ⟨hg29, hf⟩ := of_gd hf
      refine va_iald (f := (Ms.asr z)) (n := (Ms.nsr z)) hx hb hK hP 5 0 rfl rfl (inb_in hg29) dX4_join_196 ?_
      refine lv_iload hx hb dX4_join_197 (lv_at hl 6 rfl) ?_
      refine lv_iadd hx hb dX4_join_199 ?_
      refine lv_iload hx hb dX4_join_200 (lv_at hl 6 rfl) ?_
      refine lv_aload_n hx hb dX4_join_202 rfl (lv_at hl 0 rfl) ?_
      refine lv_iload hx hb dX4_join_203 (lv_at hl 2 rfl) ?_
      obtain ⟨r30, ho30, hf⟩ := of_b0 hf
      refine gcRi (gV FX [.int x4] (c_md_bytesOf l G cI cL cZ cB q A z _ x4 _ ho30) (cwV 1 hts (gi_V wm_106 wm_107 wm_108 wm_6 wm_109) rfl rfl rfl hdV_X4_bytesOf ⟨Nat.le_of_ble_eq_true rfl, Nat.le_of_ble_eq_true rfl⟩) hK hP hD 0 rfl rfl rfl hl.1 (Nat.le_of_ble_eq_true rfl) dX4_join_205 ⟨by show _ ≤ mcT; omega, by show _ ≤ msT; omega⟩) hS hD hA (fun H locs hP hS => ?_)
      refine lv_icmp_ge (tgt := 222) hx hb dX4_join_208 (by decide) (fun c31 => ?_) (fun c31 => ?_)
      · have hf := (if_pos c31).symm.trans hf
        refine lv_aload_n hx hb dX4_join_222 rfl (lv_at hl 0 rfl) ?_
        refine lv_iload hx hb dX4_join_223 (lv_at hl 3 rfl) ?_
        refine lv_iload hx hb dX4_join_225 (lv_at hl 6 rfl) ?_
        refine lv_aload_n hx hb dX4_join_227 rfl (lv_at hl 0 rfl) ?_
        refine lv_iload hx hb dX4_join_228 (lv_at hl 2 rfl) ?_
        obtain ⟨r32, ho32, hf⟩ := of_b0 hf
        refine gcRi (gV FX [.int x4] (c_md_bytesOf l G cI cL cZ cB q A z _ x4 _ ho32) (cwV 1 hts (gi_V wm_106 wm_107 wm_108 wm_6 wm_109) rfl rfl rfl hdV_X4_bytesOf ⟨Nat.le_of_ble_eq_true rfl, Nat.le_of_ble_eq_true rfl⟩) hK hP hD 0 rfl rfl rfl hl.1 (Nat.le_of_ble_eq_true rfl) dX4_join_230 ⟨by show _ ≤ mcT; omega, by show _ ≤ msT; omega⟩) hS hD hA (fun H locs hP hS => ?_)
        refine lv_isub hx hb dX4_join_233 ?_
        obtain ⟨r33, ho33, hf⟩ := of_b0 hf
        refine gcRi (gV FX [.int x5, .int (x9 - r32)] (c_md_byteOf l G cI cL cZ cB q A z _ x5 (x9 - r32) _ ho33) (cwV 2 hts (gi_V wm_114 wm_115 wm_116 wm_6 wm_117) rfl rfl rfl hdV_X4_byteOf ⟨Nat.le_of_ble_eq_true rfl, Nat.le_of_ble_eq_true rfl⟩) hK hP hD 0 rfl rfl rfl hl.1 (Nat.le_of_ble_eq_true rfl) dX4_join_234 ⟨by show _ ≤ mcT; omega, by show _ ≤ msT; omega⟩) hS hD hA (fun H locs hP hS => ?_)
        refine lv_i2b hx hb dX4_join_237 rfl ?_
        obtain ⟨hg34, hf⟩ := of_gd hf
        refine va_bast (f := (Ms.aby z)) (n := (Ms.nby z)) hx hb hK hP hD hS 17 3 rfl rfl (inb_in hg34) dX4_join_238 (fun H locs hP hD hS => ?_)
        have hP : va_P G vwCl (mw cI cL cZ cB q A (Ms.wby z (upd (Ms.aby z) ((((Ms.asr z) x8.toNatClampNeg) + x9).toNatClampNeg) (vp_nar .byte (r33.toInt8.toInt32))))) H := hP
        have hD : va_D _ (mw cI cL cZ cB q A (Ms.wby z (upd (Ms.aby z) ((((Ms.asr z) x8.toNatClampNeg) + x9).toNatClampNeg) (vp_nar .byte (r33.toInt8.toInt32))))) := hD
        refine lv_iinc (v := (x9 + 1)) (lv' := [(9, .int (x9 + 1)), (0, .ref q), (1, .int x1), (4, .int x4), (5, .int x5), (6, .int x6), (8, .int x8)]) hx hb dX4_join_239 hl (k := 6) rfl rfl (by decide) rfl (fun ls hl => ?_)
        refine lv_goto (tgt := 179) hx hb dX4_join_242 (by decide) ?_
        exact ih _ _ _ _ _ _ _ _ _ _ _ _ _ _ hP hD hS (lv_sub hl [1, 2, 3, 4, 5, 6, 0] rfl) hf (by omega) (by omega)
      · have hf := (if_neg c31).symm.trans hf
        refine lv_aload_n hx hb dX4_join_211 rfl (lv_at hl 0 rfl) ?_
        refine lv_iload hx hb dX4_join_212 (lv_at hl 2 rfl) ?_
        refine lv_iload hx hb dX4_join_214 (lv_at hl 6 rfl) ?_
        obtain ⟨r35, ho35, hf⟩ := of_b0 hf
        refine gcRi (gV FX [.int x4, .int x9] (c_md_byteOf l G cI cL cZ cB q A z _ x4 x9 _ ho35) (cwV 2 hts (gi_V wm_114 wm_115 wm_116 wm_6 wm_117) rfl rfl rfl hdV_X4_byteOf ⟨Nat.le_of_ble_eq_true rfl, Nat.le_of_ble_eq_true rfl⟩) hK hP hD 0 rfl rfl rfl hl.1 (Nat.le_of_ble_eq_true rfl) dX4_join_216 ⟨by show _ ≤ mcT; omega, by show _ ≤ msT; omega⟩) hS hD hA (fun H locs hP hS => ?_)
        refine lv_goto (tgt := 237) hx hb dX4_join_219 (by decide) ?_
        refine lv_i2b hx hb dX4_join_237 rfl ?_
        obtain ⟨hg36, hf⟩ := of_gd hf
        refine va_bast (f := (Ms.aby z)) (n := (Ms.nby z)) hx hb hK hP hD hS 17 3 rfl rfl (inb_in hg36) dX4_join_238 (fun H locs hP hD hS => ?_)
        have hP : va_P G vwCl (mw cI cL cZ cB q A (Ms.wby z (upd (Ms.aby z) ((((Ms.asr z) x8.toNatClampNeg) + x9).toNatClampNeg) (vp_nar .byte (r35.toInt8.toInt32))))) H := hP
        have hD : va_D _ (mw cI cL cZ cB q A (Ms.wby z (upd (Ms.aby z) ((((Ms.asr z) x8.toNatClampNeg) + x9).toNatClampNeg) (vp_nar .byte (r35.toInt8.toInt32))))) := hD
        refine lv_iinc (v := (x9 + 1)) (lv' := [(9, .int (x9 + 1)), (0, .ref q), (1, .int x1), (4, .int x4), (5, .int x5), (6, .int x6), (8, .int x8)]) hx hb dX4_join_239 hl (k := 6) rfl rfl (by decide) rfl (fun ls hl => ?_)
        refine lv_goto (tgt := 179) hx hb dX4_join_242 (by decide) ?_
        exact ih _ _ _ _ _ _ _ _ _ _ _ _ _ _ hP hD hS (lv_sub hl [1, 2, 3, 4, 5, 6, 0] rfl) hf (by omega) (by omega)
set_option maxHeartbeats 4000000 in
set_option maxRecDepth 100000 in
theorem L_md_join_j158 (l : Launch) (G : va_G) (cI cL cZ cB : ClassId) (q : Nat) (w : va_W) (p : Program) (e : Env) (s : State) (m : MethodId) (args : Array Value) (below : List Frame) (meth : Method) (c : Code) (O0 : Ms × Int32) (mcT msT : Nat) (C : MC p s m args meth c cX4_join 10 (some .int) RX4 vX4_join) (hK : va_K G vwCl (mt cI cL cZ cB) s) : At_md_join_j158 l G cI cL cZ cB q w p e s m args below meth c O0 mcT msT md_join_j158 := by
  obtain ⟨hx, hb, hr, hml, hown, hts, hlocks⟩ := id C
  have FX : CallFix p m c cX4_join 10 s args vX4_join RX4 := ⟨hx, hb, hml, hown, hts⟩
  have hA : ∀ q9 : Nat, s.heap.size ≤ q9 → va_A w s.heap.size q9 := fun q9 h => Or.inr h
  intro A z x1 x4 x5 x6 x7 t0 d0 H locs ls cells slots hP hD hS hl hf hcc hss
  unfold md_join_j158 at hf
  refine va_put (D := G) (ci := 4) (v := .int t0) (ty := .int) (C := RX4) (T := TX4) (N := 32) hx hb hts (fun w h => .tail _ (wl_X4 w h)) tyX4 tyX4_ok nmX4 hown hK hP hD hS 0 rfl rfl 0 (by decide) (hts _ (.tail _ wm_0)) (fun _ h9 => h9) rfl (by decide +kernel) rfl rfl (Nat.le_of_ble_eq_true rfl) dX4_join_158 (fun H locs hP hD hS => ?_)
  have hP : va_P G vwCl (mw cI cL cZ cB q A (Ms.sthr z t0)) H := hP
  have hD : va_D _ (mw cI cL cZ cB q A (Ms.sthr z t0)) := hD
  refine lv_iload hx hb dX4_join_161 (lv_at hl 5 rfl) ?_
  refine lv_if_ne (tgt := 168) hx hb dX4_join_163 (by decide) (fun c25 => ?_) (fun c25 => ?_)
  · have hf := (if_neg c25).symm.trans hf
    refine lv_aload_n hx hb dX4_join_168 rfl (lv_at hl 0 rfl) ?_
    refine lv_iload hx hb dX4_join_169 (lv_at hl 4 rfl) ?_
    obtain ⟨k26, z26, r26, d26, ho26, hf, ek26⟩ := of_bcw hf
    refine gcWi (gV FX [.int x6] (c_md_beginText l G cI cL cZ cB q A (Ms.sthr z t0) _ x6 k26 _ ho26) (cwV 1 hts (gi_V wm_101 wm_102 wm_103 wm_6 wm_104) rfl rfl rfl hdV_X4_beginText ⟨Nat.le_of_ble_eq_true rfl, Nat.le_of_ble_eq_true rfl⟩) hK hP hD 0 rfl rfl rfl hl.1 (Nat.le_of_ble_eq_true rfl) dX4_join_171 ⟨by show _ ≤ mcT; omega, by show _ ≤ msT; omega⟩) hS hD hA (fun A H locs hP hD hS => ?_)
    refine lv_istore (lv' := [(8, .int r26), (0, .ref q), (1, .int x1), (4, .int x4), (5, .int x5), (6, .int x6), (7, .int x7)]) hx hb dX4_join_174 hl (by decide) rfl (fun ls hl => ?_)
    refine lv_iconst (v := 0) hx hb dX4_join_176 (by decide) ?_
    refine lv_istore (lv' := [(9, .int 0), (8, .int r26), (0, .ref q), (1, .int x1), (4, .int x4), (5, .int x5), (6, .int x6), (7, .int x7)]) hx hb dX4_join_177 hl (by decide) rfl (fun ls hl => ?_)
    exact L_md_join_l179 _ _ _ _ _ _ _ _ _ _ _ _ _ _ _ _ _ _ _ C hK FU _ _ _ _ _ _ _ _ _ _ _ _ _ _ hP hD hS (lv_sub hl [2, 3, 4, 5, 6, 1, 0] rfl) hf (by omega) (by omega)
  · have hf := (if_pos c25).symm.trans hf
    refine lv_iconst (v := 0) hx hb dX4_join_166 (by decide) ?_
    obtain ⟨hc0, hj0⟩ := of_some2 hf
    subst hj0
    exact grWi hx hb hr hlocks hP hK hD hS dX4_join_167 (by omega) (by omega)
set_option maxHeartbeats 4000000 in
set_option maxRecDepth 100000 in
theorem L_md_join_j87 (l : Launch) (G : va_G) (cI cL cZ cB : ClassId) (q : Nat) (w : va_W) (p : Program) (e : Env) (s : State) (m : MethodId) (args : Array Value) (below : List Frame) (meth : Method) (c : Code) (O0 : Ms × Int32) (mcT msT : Nat) (C : MC p s m args meth c cX4_join 10 (some .int) RX4 vX4_join) (hK : va_K G vwCl (mt cI cL cZ cB) s) : At_md_join_j87 l G cI cL cZ cB q w p e s m args below meth c O0 mcT msT md_join_j87 := by
  obtain ⟨hx, hb, hr, hml, hown, hts, hlocks⟩ := id C
  have FX : CallFix p m c cX4_join 10 s args vX4_join RX4 := ⟨hx, hb, hml, hown, hts⟩
  have hA : ∀ q9 : Nat, s.heap.size ≤ q9 → va_A w s.heap.size q9 := fun q9 h => Or.inr h
  intro A z x1 x2 x3 t0 d0 H locs ls cells slots hP hD hS hl hf hcc hss
  unfold md_join_j87 at hf
  refine va_put (D := G) (ci := 4) (v := .int t0) (ty := .int) (C := RX4) (T := TX4) (N := 32) hx hb hts (fun w h => .tail _ (wl_X4 w h)) tyX4 tyX4_ok nmX4 hown hK hP hD hS 0 rfl rfl 0 (by decide) (hts _ (.tail _ wm_0)) (fun _ h9 => h9) rfl (by decide +kernel) rfl rfl (Nat.le_of_ble_eq_true rfl) dX4_join_87 (fun H locs hP hD hS => ?_)
  have hP : va_P G vwCl (mw cI cL cZ cB q A (Ms.sthr z t0)) H := hP
  have hD : va_D _ (mw cI cL cZ cB q A (Ms.sthr z t0)) := hD
  refine lv_aload_n hx hb dX4_join_90 rfl (lv_at hl 0 rfl) ?_
  refine va_get (D := G) (ci := 4) (v := .int t0) (C := RX4) (T := TX4) (N := 32) hx hb hts (fun w h => .tail _ (wl_X4 w h)) hown hK hP 0 rfl rfl 0 (by decide) (hts _ (.tail _ wm_0)) (fun _ h9 => h9) rfl dX4_join_91 ?_
  refine lv_if_le (tgt := 99) hx hb dX4_join_94 (by decide) (fun c17 => ?_) (fun c17 => ?_)
  · have hf := (if_pos c17).symm.trans hf
    refine lv_aload_n hx hb dX4_join_99 rfl (lv_at hl 0 rfl) ?_
    refine va_get (D := G) (ci := 4) (v := .ref (A 1)) (C := RX4) (T := TX4) (N := 32) hx hb hts (fun w h => .tail _ (wl_X4 w h)) hown hK hP 0 rfl rfl 7 (by decide) (hts _ (.tail _ wm_1)) (fun _ h9 => h9) rfl dX4_join_100 ?_
    refine lv_iload_n hx hb dX4_join_103 rfl (lv_at hl 2 rfl) ?_
    obtain ⟨hg18, hf⟩ := of_gd hf
    refine va_iald (f := (Ms.atg z)) (n := (Ms.ntg z)) hx hb hK hP 1 0 rfl rfl (inb_in hg18) dX4_join_104 ?_
    refine lv_istore (lv' := [(4, .int ((Ms.atg z) x2.toNatClampNeg)), (0, .ref q), (1, .int x1), (2, .int x2), (3, .int x3)]) hx hb dX4_join_105 hl (by decide) rfl (fun ls hl => ?_)
    refine lv_aload_n hx hb dX4_join_107 rfl (lv_at hl 1 rfl) ?_
    refine va_get (D := G) (ci := 4) (v := .ref (A 1)) (C := RX4) (T := TX4) (N := 32) hx hb hts (fun w h => .tail _ (wl_X4 w h)) hown hK hP 0 rfl rfl 7 (by decide) (hts _ (.tail _ wm_1)) (fun _ h9 => h9) rfl dX4_join_108 ?_
    refine lv_iload_n hx hb dX4_join_111 rfl (lv_at hl 4 rfl) ?_
    obtain ⟨hg19, hf⟩ := of_gd hf
    refine va_iald (f := (Ms.atg z)) (n := (Ms.ntg z)) hx hb hK hP 1 0 rfl rfl (inb_in hg19) dX4_join_112 ?_
    refine lv_istore (lv' := [(5, .int ((Ms.atg z) x3.toNatClampNeg)), (4, .int ((Ms.atg z) x2.toNatClampNeg)), (0, .ref q), (1, .int x1), (2, .int x2), (3, .int x3)]) hx hb dX4_join_113 hl (by decide) rfl (fun ls hl => ?_)
    refine lv_aload_n hx hb dX4_join_115 rfl (lv_at hl 2 rfl) ?_
    refine lv_iload hx hb dX4_join_116 (lv_at hl 1 rfl) ?_
    obtain ⟨r20, ho20, hf⟩ := of_b0 hf
    refine gcRi (gV FX [.int ((Ms.atg z) x2.toNatClampNeg)] (c_md_bytesOf l G cI cL cZ cB q A (Ms.sthr z t0) _ ((Ms.atg z) x2.toNatClampNeg) _ ho20) (cwV 1 hts (gi_V wm_106 wm_107 wm_108 wm_6 wm_109) rfl rfl rfl hdV_X4_bytesOf ⟨Nat.le_of_ble_eq_true rfl, Nat.le_of_ble_eq_true rfl⟩) hK hP hD 0 rfl rfl rfl hl.1 (Nat.le_of_ble_eq_true rfl) dX4_join_118 ⟨by show _ ≤ mcT; omega, by show _ ≤ msT; omega⟩) hS hD hA (fun H locs hP hS => ?_)
    refine lv_aload_n hx hb dX4_join_121 rfl (lv_at hl 2 rfl) ?_
    refine lv_iload hx hb dX4_join_122 (lv_at hl 0 rfl) ?_
    obtain ⟨r21, ho21, hf⟩ := of_b0 hf
    refine gcRi (gV FX [.int ((Ms.atg z) x3.toNatClampNeg)] (c_md_bytesOf l G cI cL cZ cB q A (Ms.sthr z t0) _ ((Ms.atg z) x3.toNatClampNeg) _ ho21) (cwV 1 hts (gi_V wm_106 wm_107 wm_108 wm_6 wm_109) rfl rfl rfl hdV_X4_bytesOf ⟨Nat.le_of_ble_eq_true rfl, Nat.le_of_ble_eq_true rfl⟩) hK hP hD 0 rfl rfl rfl hl.1 (Nat.le_of_ble_eq_true rfl) dX4_join_124 ⟨by show _ ≤ mcT; omega, by show _ ≤ msT; omega⟩) hS hD hA (fun H locs hP hS => ?_)
    refine lv_iadd hx hb dX4_join_127 ?_
    refine lv_istore (lv' := [(6, .int (r20 + r21)), (5, .int ((Ms.atg z) x3.toNatClampNeg)), (4, .int ((Ms.atg z) x2.toNatClampNeg)), (0, .ref q), (1, .int x1), (2, .int x2), (3, .int x3)]) hx hb dX4_join_128 hl (by decide) rfl (fun ls hl => ?_)
    refine lv_aload_n hx hb dX4_join_130 rfl (lv_at hl 3 rfl) ?_
    refine lv_iload hx hb dX4_join_131 (lv_at hl 0 rfl) ?_
    refine lv_bipush (v := 7) hx hb dX4_join_133 (by decide) ?_
    refine lv_iadd hx hb dX4_join_135 ?_
    refine lv_bipush (v := 8) hx hb dX4_join_136 (by decide) ?_
    obtain ⟨hg22, hf⟩ := of_gd hf
    refine lv_idiv hx hb dX4_join_138 (nzb_ne hg22) ?_
    refine lv_i2l hx hb dX4_join_139 rfl ?_
    refine lv_lconst (v := 1) hx hb dX4_join_140 (by decide) ?_
    refine lv_ladd hx hb dX4_join_141 ?_
    obtain ⟨z23, r23, ho23, hf⟩ := of_bw hf
    refine gcWi (gV FX [.long (((((r20 + r21) + 7) / 8).toInt64) + 1)] (c_md_hasRoom l G cI cL cZ cB q A (Ms.sthr z t0) _ (((((r20 + r21) + 7) / 8).toInt64) + 1) _ ho23) (cwV 1 hts (gi_V wm_92 wm_93 wm_94 wm_6 wm_95) rfl rfl rfl hdV_X4_hasRoom ⟨Nat.le_of_ble_eq_true rfl, Nat.le_of_ble_eq_true rfl⟩) hK hP hD 0 rfl rfl rfl hl.1 (Nat.le_of_ble_eq_true rfl) dX4_join_142 ⟨by show _ ≤ mcT; omega, by show _ ≤ msT; omega⟩) hS hD hA (fun A H locs hP hD hS => ?_)
    refine lv_istore (lv' := [(7, .int r23), (6, .int (r20 + r21)), (5, .int ((Ms.atg z) x3.toNatClampNeg)), (4, .int ((Ms.atg z) x2.toNatClampNeg)), (0, .ref q), (1, .int x1), (2, .int x2), (3, .int x3)]) hx hb dX4_join_145 hl (by decide) rfl (fun ls hl => ?_)
    refine lv_aload_n hx hb dX4_join_147 rfl (lv_at hl 4 rfl) ?_
    refine lv_iload hx hb dX4_join_148 (lv_at hl 0 rfl) ?_
    refine lv_if_eq (tgt := 157) hx hb dX4_join_150 (by decide) (fun c24 => ?_) (fun c24 => ?_)
    · have hf := (if_pos c24).symm.trans hf
      refine lv_iconst (v := 3) hx hb dX4_join_157 (by decide) ?_
      exact L_md_join_j158 _ _ _ _ _ _ _ _ _ _ _ _ _ _ _ _ _ _ _ C hK _ _ _ _ _ _ _ _ _ _ _ _ _ _ hP hD hS (lv_sub hl [4, 5, 3, 2, 1, 0] rfl) hf (by omega) (by omega)
    · have hf := (if_neg c24).symm.trans hf
      refine lv_iconst (v := 0) hx hb dX4_join_153 (by decide) ?_
      refine lv_goto (tgt := 158) hx hb dX4_join_154 (by decide) ?_
      exact L_md_join_j158 _ _ _ _ _ _ _ _ _ _ _ _ _ _ _ _ _ _ _ C hK _ _ _ _ _ _ _ _ _ _ _ _ _ _ hP hD hS (lv_sub hl [4, 5, 3, 2, 1, 0] rfl) hf (by omega) (by omega)
  · have hf := (if_neg c17).symm.trans hf
    refine lv_iconst (v := 0) hx hb dX4_join_97 (by decide) ?_
    obtain ⟨hc0, hj0⟩ := of_some2 hf
    subst hj0
    exact grWi hx hb hr hlocks hP hK hD hS dX4_join_98 (by omega) (by omega)
set_option maxHeartbeats 4000000 in
set_option maxRecDepth 100000 in
theorem L_md_join_j82 (l : Launch) (G : va_G) (cI cL cZ cB : ClassId) (q : Nat) (w : va_W) (p : Program) (e : Env) (s : State) (m : MethodId) (args : Array Value) (below : List Frame) (meth : Method) (c : Code) (O0 : Ms × Int32) (mcT msT : Nat) (C : MC p s m args meth c cX4_join 10 (some .int) RX4 vX4_join) (hK : va_K G vwCl (mt cI cL cZ cB) s) : At_md_join_j82 l G cI cL cZ cB q w p e s m args below meth c O0 mcT msT md_join_j82 := by
  obtain ⟨hx, hb, hr, hml, hown, hts, hlocks⟩ := id C
  have FX : CallFix p m c cX4_join 10 s args vX4_join RX4 := ⟨hx, hb, hml, hown, hts⟩
  have hA : ∀ q9 : Nat, s.heap.size ≤ q9 → va_A w s.heap.size q9 := fun q9 h => Or.inr h
  intro A z x1 x2 x3 d0 H locs ls cells slots hP hD hS hl hf hcc hss
  unfold md_join_j82 at hf
  refine lv_iconst (v := 2) hx hb dX4_join_82 (by decide) ?_
  refine lv_goto (tgt := 87) hx hb dX4_join_83 (by decide) ?_
  exact L_md_join_j87 _ _ _ _ _ _ _ _ _ _ _ _ _ _ _ _ _ _ _ C hK _ _ _ _ _ _ _ _ _ _ _ _ hP hD hS (lv_sub hl [0, 1, 2, 3] rfl) hf (by omega) (by omega)
set_option maxHeartbeats 4000000 in
set_option maxRecDepth 100000 in
theorem L_md_join_j27 (l : Launch) (G : va_G) (cI cL cZ cB : ClassId) (q : Nat) (w : va_W) (p : Program) (e : Env) (s : State) (m : MethodId) (args : Array Value) (below : List Frame) (meth : Method) (c : Code) (O0 : Ms × Int32) (mcT msT : Nat) (C : MC p s m args meth c cX4_join 10 (some .int) RX4 vX4_join) (hK : va_K G vwCl (mt cI cL cZ cB) s) : At_md_join_j27 l G cI cL cZ cB q w p e s m args below meth c O0 mcT msT md_join_j27 := by
  obtain ⟨hx, hb, hr, hml, hown, hts, hlocks⟩ := id C
  have FX : CallFix p m c cX4_join 10 s args vX4_join RX4 := ⟨hx, hb, hml, hown, hts⟩
  have hA : ∀ q9 : Nat, s.heap.size ≤ q9 → va_A w s.heap.size q9 := fun q9 h => Or.inr h
  intro A z x1 x2 x3 t0 d0 H locs ls cells slots hP hD hS hl hf hcc hss
  unfold md_join_j27 at hf
  refine va_put (D := G) (ci := 4) (v := .int t0) (ty := .int) (C := RX4) (T := TX4) (N := 32) hx hb hts (fun w h => .tail _ (wl_X4 w h)) tyX4 tyX4_ok nmX4 hown hK hP hD hS 0 rfl rfl 0 (by decide) (hts _ (.tail _ wm_0)) (fun _ h9 => h9) rfl (by decide +kernel) rfl rfl (Nat.le_of_ble_eq_true rfl) dX4_join_27 (fun H locs hP hD hS => ?_)
  have hP : va_P G vwCl (mw cI cL cZ cB q A (Ms.sthr z t0)) H := hP
  have hD : va_D _ (mw cI cL cZ cB q A (Ms.sthr z t0)) := hD
  refine lv_aload_n hx hb dX4_join_30 rfl (lv_at hl 0 rfl) ?_
  refine va_get (D := G) (ci := 4) (v := .int t0) (C := RX4) (T := TX4) (N := 32) hx hb hts (fun w h => .tail _ (wl_X4 w h)) hown hK hP 0 rfl rfl 0 (by decide) (hts _ (.tail _ wm_0)) (fun _ h9 => h9) rfl dX4_join_31 ?_
  refine lv_if_le (tgt := 39) hx hb dX4_join_34 (by decide) (fun c7 => ?_) (fun c7 => ?_)
  · have hf := (if_pos c7).symm.trans hf
    refine lv_aload_n hx hb dX4_join_39 rfl (lv_at hl 0 rfl) ?_
    refine lv_aload_n hx hb dX4_join_40 rfl (lv_at hl 0 rfl) ?_
    refine lv_iload_n hx hb dX4_join_41 rfl (lv_at hl 2 rfl) ?_
    obtain ⟨r8, ho8, hf⟩ := of_b0 hf
    refine gcRi (gV FX [.int x2] (c_md_isText l G cI cL cZ cB q A (Ms.sthr z t0) _ x2 _ ho8) (cwV 1 hts (gi_V wm_110 wm_111 wm_112 wm_6 wm_113) rfl rfl rfl hdV_X4_isText ⟨Nat.le_of_ble_eq_true rfl, Nat.le_of_ble_eq_true rfl⟩) hK hP hD 0 rfl rfl rfl hl.1 (Nat.le_of_ble_eq_true rfl) dX4_join_42 ⟨by show _ ≤ mcT; omega, by show _ ≤ msT; omega⟩) hS hD hA (fun H locs hP hS => ?_)
    refine lv_if_eq (tgt := 82) hx hb dX4_join_45 (by decide) (fun c9 => ?_) (fun c9 => ?_)
    · have hf := (if_pos c9).symm.trans hf
      exact L_md_join_j82 _ _ _ _ _ _ _ _ _ _ _ _ _ _ _ _ _ _ _ C hK _ _ _ _ _ _ _ _ _ _ _ hP hD hS (lv_sub hl [0, 1, 2, 3] rfl) hf (by omega) (by omega)
    · have hf := (if_neg c9).symm.trans hf
      refine lv_aload_n hx hb dX4_join_48 rfl (lv_at hl 0 rfl) ?_
      refine lv_iload_n hx hb dX4_join_49 rfl (lv_at hl 3 rfl) ?_
      obtain ⟨r10, ho10, hf⟩ := of_b0 hf
      refine gcRi (gV FX [.int x3] (c_md_isText l G cI cL cZ cB q A (Ms.sthr z t0) _ x3 _ ho10) (cwV 1 hts (gi_V wm_110 wm_111 wm_112 wm_6 wm_113) rfl rfl rfl hdV_X4_isText ⟨Nat.le_of_ble_eq_true rfl, Nat.le_of_ble_eq_true rfl⟩) hK hP hD 0 rfl rfl rfl hl.1 (Nat.le_of_ble_eq_true rfl) dX4_join_50 ⟨by show _ ≤ mcT; omega, by show _ ≤ msT; omega⟩) hS hD hA (fun H locs hP hS => ?_)
      refine lv_if_eq (tgt := 82) hx hb dX4_join_53 (by decide) (fun c11 => ?_) (fun c11 => ?_)
      · have hf := (if_pos c11).symm.trans hf
        exact L_md_join_j82 _ _ _ _ _ _ _ _ _ _ _ _ _ _ _ _ _ _ _ C hK _ _ _ _ _ _ _ _ _ _ _ hP hD hS (lv_sub hl [0, 1, 2, 3] rfl) hf (by omega) (by omega)
      · have hf := (if_neg c11).symm.trans hf
        refine lv_aload_n hx hb dX4_join_56 rfl (lv_at hl 0 rfl) ?_
        refine lv_aload_n hx hb dX4_join_57 rfl (lv_at hl 0 rfl) ?_
        refine va_get (D := G) (ci := 4) (v := .ref (A 1)) (C := RX4) (T := TX4) (N := 32) hx hb hts (fun w h => .tail _ (wl_X4 w h)) hown hK hP 0 rfl rfl 7 (by decide) (hts _ (.tail _ wm_1)) (fun _ h9 => h9) rfl dX4_join_58 ?_
        refine lv_iload_n hx hb dX4_join_61 rfl (lv_at hl 2 rfl) ?_
        obtain ⟨hg12, hf⟩ := of_gd hf
        refine va_iald (f := (Ms.atg z)) (n := (Ms.ntg z)) hx hb hK hP 1 0 rfl rfl (inb_in hg12) dX4_join_62 ?_
        obtain ⟨r13, ho13, hf⟩ := of_b0 hf
        refine gcRi (gV FX [.int ((Ms.atg z) x2.toNatClampNeg)] (c_md_bytesOf l G cI cL cZ cB q A (Ms.sthr z t0) _ ((Ms.atg z) x2.toNatClampNeg) _ ho13) (cwV 1 hts (gi_V wm_106 wm_107 wm_108 wm_6 wm_109) rfl rfl rfl hdV_X4_bytesOf ⟨Nat.le_of_ble_eq_true rfl, Nat.le_of_ble_eq_true rfl⟩) hK hP hD 0 rfl rfl rfl hl.1 (Nat.le_of_ble_eq_true rfl) dX4_join_63 ⟨by show _ ≤ mcT; omega, by show _ ≤ msT; omega⟩) hS hD hA (fun H locs hP hS => ?_)
        refine lv_aload_n hx hb dX4_join_66 rfl (lv_at hl 0 rfl) ?_
        refine lv_aload_n hx hb dX4_join_67 rfl (lv_at hl 0 rfl) ?_
        refine va_get (D := G) (ci := 4) (v := .ref (A 1)) (C := RX4) (T := TX4) (N := 32) hx hb hts (fun w h => .tail _ (wl_X4 w h)) hown hK hP 0 rfl rfl 7 (by decide) (hts _ (.tail _ wm_1)) (fun _ h9 => h9) rfl dX4_join_68 ?_
        refine lv_iload_n hx hb dX4_join_71 rfl (lv_at hl 3 rfl) ?_
        obtain ⟨hg14, hf⟩ := of_gd hf
        refine va_iald (f := (Ms.atg z)) (n := (Ms.ntg z)) hx hb hK hP 1 0 rfl rfl (inb_in hg14) dX4_join_72 ?_
        obtain ⟨r15, ho15, hf⟩ := of_b0 hf
        refine gcRi (gV FX [.int ((Ms.atg z) x3.toNatClampNeg)] (c_md_bytesOf l G cI cL cZ cB q A (Ms.sthr z t0) _ ((Ms.atg z) x3.toNatClampNeg) _ ho15) (cwV 1 hts (gi_V wm_106 wm_107 wm_108 wm_6 wm_109) rfl rfl rfl hdV_X4_bytesOf ⟨Nat.le_of_ble_eq_true rfl, Nat.le_of_ble_eq_true rfl⟩) hK hP hD 0 rfl rfl rfl hl.1 (Nat.le_of_ble_eq_true rfl) dX4_join_73 ⟨by show _ ≤ mcT; omega, by show _ ≤ msT; omega⟩) hS hD hA (fun H locs hP hS => ?_)
        refine lv_iadd hx hb dX4_join_76 ?_
        refine lv_ldc (v := 32768) hx hb hown (hts _ (.tail _ wm_100)) dX4_join_77 ?_
        refine lv_icmp_le (tgt := 86) hx hb dX4_join_79 (by decide) (fun c16 => ?_) (fun c16 => ?_)
        · have hf := (if_pos c16).symm.trans hf
          refine lv_iconst (v := 0) hx hb dX4_join_86 (by decide) ?_
          exact L_md_join_j87 _ _ _ _ _ _ _ _ _ _ _ _ _ _ _ _ _ _ _ C hK _ _ _ _ _ _ _ _ _ _ _ _ hP hD hS (lv_sub hl [0, 1, 2, 3] rfl) hf (by omega) (by omega)
        · have hf := (if_neg c16).symm.trans hf
          exact L_md_join_j82 _ _ _ _ _ _ _ _ _ _ _ _ _ _ _ _ _ _ _ C hK _ _ _ _ _ _ _ _ _ _ _ hP hD hS (lv_sub hl [0, 1, 2, 3] rfl) hf (by omega) (by omega)
  · have hf := (if_neg c7).symm.trans hf
    refine lv_iconst (v := 0) hx hb dX4_join_37 (by decide) ?_
    obtain ⟨hc0, hj0⟩ := of_some2 hf
    subst hj0
    exact grWi hx hb hr hlocks hP hK hD hS dX4_join_38 (by omega) (by omega)
set_option maxHeartbeats 4000000 in
set_option maxRecDepth 100000 in
theorem L_md_join_j22 (l : Launch) (G : va_G) (cI cL cZ cB : ClassId) (q : Nat) (w : va_W) (p : Program) (e : Env) (s : State) (m : MethodId) (args : Array Value) (below : List Frame) (meth : Method) (c : Code) (O0 : Ms × Int32) (mcT msT : Nat) (C : MC p s m args meth c cX4_join 10 (some .int) RX4 vX4_join) (hK : va_K G vwCl (mt cI cL cZ cB) s) : At_md_join_j22 l G cI cL cZ cB q w p e s m args below meth c O0 mcT msT md_join_j22 := by
  obtain ⟨hx, hb, hr, hml, hown, hts, hlocks⟩ := id C
  have FX : CallFix p m c cX4_join 10 s args vX4_join RX4 := ⟨hx, hb, hml, hown, hts⟩
  have hA : ∀ q9 : Nat, s.heap.size ≤ q9 → va_A w s.heap.size q9 := fun q9 h => Or.inr h
  intro A z x1 x2 x3 d0 H locs ls cells slots hP hD hS hl hf hcc hss
  unfold md_join_j22 at hf
  refine lv_iconst (v := 1) hx hb dX4_join_22 (by decide) ?_
  refine lv_goto (tgt := 27) hx hb dX4_join_23 (by decide) ?_
  exact L_md_join_j27 _ _ _ _ _ _ _ _ _ _ _ _ _ _ _ _ _ _ _ C hK _ _ _ _ _ _ _ _ _ _ _ _ hP hD hS (lv_sub hl [0, 1, 2, 3] rfl) hf (by omega) (by omega)
set_option maxHeartbeats 4000000 in
set_option maxRecDepth 100000 in
theorem c_md_join (l : Launch) (G : va_G) (cI cL cZ cB : ClassId) (q : Nat) (A : Nat → Nat) (z : Ms) (sz : Nat) (p0 : Int32) (p1 : Int32) (p2 : Int32) (c0 : Nat) (O0 : Ms × Int32) (hf : md_join z p0 p1 p2 = some (c0, O0)) : Met l yX4_join vX4_join { frames := 4, cells := 0 + c0 / 64, slots := 0 + c0, locals := 93 } (gPc G vwCl (mt cI cL cZ cB) [.ref q, .int p0, .int p1, .int p2] (mw cI cL cZ cB q A z) sz) (qWi G vwCl (mt cI cL cZ cB) (mw cI cL cZ cB q A z) sz (mw cI cL cZ cB q) O0) (0 + c0 / 64) (0 + c0) (va_A (mw cI cL cZ cB q A z) sz) := by
  refine gMet (by decide) rfl (Nat.le_of_ble_eq_true rfl) ?_
  intro p e s m below meth c ls C hK hP hD hsz hl
  subst hsz
  obtain ⟨hx, hb, hr, hml, hown, hts, hlocks⟩ := id C
  have FX : CallFix p m c cX4_join 10 s _ vX4_join RX4 := ⟨hx, hb, hml, hown, hts⟩
  have hA : ∀ q9 : Nat, s.heap.size ≤ q9 → va_A (mw cI cL cZ cB q A z) s.heap.size q9 := fun q9 h => Or.inr h
  have hS : va_S (va_A (mw cI cL cZ cB q A z) s.heap.size) s.heap s.heap [] := va_S.rf
  have hl : lv_has ls 10 [(0, .ref q), (1, .int p0), (2, .int p1), (3, .int p2)] := hl
  unfold md_join at hf
  refine lv_aload_n hx hb dX4_join_0 rfl (lv_at hl 0 rfl) ?_
  refine lv_iload_n hx hb dX4_join_1 rfl (lv_at hl 1 rfl) ?_
  obtain ⟨r1, ho1, hf⟩ := of_b0 hf
  refine gcRi (gS FX [.int p0] (c_md_isRegister l G cI cL cZ cB q A z _ p0 _ ho1) (cwS 1 hts (gi_S wm_79 wm_80 wm_6 wm_81) rfl rfl rfl hdS_X4_isRegister ⟨Nat.le_of_ble_eq_true rfl, Nat.le_of_ble_eq_true rfl⟩) hK hP hD rfl hl.1 (Nat.le_of_ble_eq_true rfl) dX4_join_2 ⟨by show _ ≤ 0 + c0 / 64; omega, by show _ ≤ 0 + c0; omega⟩) hS hD hA (fun H locs hP hS => ?_)
  refine lv_if_eq (tgt := 22) hx hb dX4_join_5 (by decide) (fun c2 => ?_) (fun c2 => ?_)
  · have hf := (if_pos c2).symm.trans hf
    exact L_md_join_j22 _ _ _ _ _ _ _ _ _ _ _ _ _ _ _ _ _ _ _ C hK _ _ _ _ _ _ _ _ _ _ _ hP hD hS (lv_sub hl [0, 1, 2, 3] rfl) hf (by omega) (by omega)
  · have hf := (if_neg c2).symm.trans hf
    refine lv_iload_n hx hb dX4_join_8 rfl (lv_at hl 2 rfl) ?_
    obtain ⟨r3, ho3, hf⟩ := of_b0 hf
    refine gcRi (gS FX [.int p1] (c_md_isRegister l G cI cL cZ cB q A z _ p1 _ ho3) (cwS 1 hts (gi_S wm_79 wm_80 wm_6 wm_81) rfl rfl rfl hdS_X4_isRegister ⟨Nat.le_of_ble_eq_true rfl, Nat.le_of_ble_eq_true rfl⟩) hK hP hD rfl hl.1 (Nat.le_of_ble_eq_true rfl) dX4_join_9 ⟨by show _ ≤ 0 + c0 / 64; omega, by show _ ≤ 0 + c0; omega⟩) hS hD hA (fun H locs hP hS => ?_)
    refine lv_if_eq (tgt := 22) hx hb dX4_join_12 (by decide) (fun c4 => ?_) (fun c4 => ?_)
    · have hf := (if_pos c4).symm.trans hf
      exact L_md_join_j22 _ _ _ _ _ _ _ _ _ _ _ _ _ _ _ _ _ _ _ C hK _ _ _ _ _ _ _ _ _ _ _ hP hD hS (lv_sub hl [0, 1, 2, 3] rfl) hf (by omega) (by omega)
    · have hf := (if_neg c4).symm.trans hf
      refine lv_iload_n hx hb dX4_join_15 rfl (lv_at hl 3 rfl) ?_
      obtain ⟨r5, ho5, hf⟩ := of_b0 hf
      refine gcRi (gS FX [.int p2] (c_md_isRegister l G cI cL cZ cB q A z _ p2 _ ho5) (cwS 1 hts (gi_S wm_79 wm_80 wm_6 wm_81) rfl rfl rfl hdS_X4_isRegister ⟨Nat.le_of_ble_eq_true rfl, Nat.le_of_ble_eq_true rfl⟩) hK hP hD rfl hl.1 (Nat.le_of_ble_eq_true rfl) dX4_join_16 ⟨by show _ ≤ 0 + c0 / 64; omega, by show _ ≤ 0 + c0; omega⟩) hS hD hA (fun H locs hP hS => ?_)
      refine lv_if_ne (tgt := 26) hx hb dX4_join_19 (by decide) (fun c6 => ?_) (fun c6 => ?_)
      · have hf := (if_neg c6).symm.trans hf
        refine lv_iconst (v := 0) hx hb dX4_join_26 (by decide) ?_
        exact L_md_join_j27 _ _ _ _ _ _ _ _ _ _ _ _ _ _ _ _ _ _ _ C hK _ _ _ _ _ _ _ _ _ _ _ _ hP hD hS (lv_sub hl [0, 1, 2, 3] rfl) hf (by omega) (by omega)
      · have hf := (if_pos c6).symm.trans hf
        exact L_md_join_j22 _ _ _ _ _ _ _ _ _ _ _ _ _ _ _ _ _ _ _ C hK _ _ _ _ _ _ _ _ _ _ _ hP hD hS (lv_sub hl [0, 1, 2, 3] rfl) hf (by omega) (by omega)
def At_md_part_l148 (l : Launch) (G : va_G) (cI cL cZ cB : ClassId) (q : Nat) (w : va_W) (p : Program) (e : Env) (s : State) (m : MethodId) (args : Array Value) (below : List Frame) (meth : Method) (c : Code) (O0 : Ms × Int32) (mcT msT : Nat) (F : Int32 → Int32 → Int32 → Int32 → Int32 → Int32 → Ms → Option (Nat × Ms × Int32)) : Prop := ∀ (A : Nat → Nat) (z : Ms) (x1 : Int32) (x3 : Int32) (x4 : Int32) (x5 : Int32) (x7 : Int32) (x8 : Int32) (d0 : Nat) (H : Heap) (locs : List Loc) (ls : Array Slot) (cells slots : Nat), va_P G vwCl (mw cI cL cZ cB q A z) H → va_D (va_A w s.heap.size) (mw cI cL cZ cB q A z) → va_S (va_A w s.heap.size) s.heap H locs → lv_has ls 9 [(0, .ref q), (1, .int x1), (3, .int x3), (4, .int x4), (5, .int x5), (7, .int x7), (8, .int x8)] → F x1 x3 x4 x5 x7 x8 z = some (d0, O0) → cells + (0 + d0 / 64) ≤ mcT → slots + (0 + d0) ≤ msT → W p l e { frames := 4, cells := mcT, slots := msT, locals := 93 } s m args below meth c H locs cells slots (MQ below (qWi G vwCl (mt cI cL cZ cB) w s.heap.size (mw cI cL cZ cB q) O0) args s mcT msT (va_A w s.heap.size)) (F0 m 148 ls [])
def At_md_part_j125 (l : Launch) (G : va_G) (cI cL cZ cB : ClassId) (q : Nat) (w : va_W) (p : Program) (e : Env) (s : State) (m : MethodId) (args : Array Value) (below : List Frame) (meth : Method) (c : Code) (O0 : Ms × Int32) (mcT msT : Nat) (F : Int32 → Int32 → Int32 → Int32 → Int32 → Int32 → Ms → Option (Nat × Ms × Int32)) : Prop := ∀ (A : Nat → Nat) (z : Ms) (x1 : Int32) (x3 : Int32) (x4 : Int32) (x5 : Int32) (x6 : Int32) (t0 : Int32) (d0 : Nat) (H : Heap) (locs : List Loc) (ls : Array Slot) (cells slots : Nat), va_P G vwCl (mw cI cL cZ cB q A z) H → va_D (va_A w s.heap.size) (mw cI cL cZ cB q A z) → va_S (va_A w s.heap.size) s.heap H locs → lv_has ls 9 [(0, .ref q), (1, .int x1), (3, .int x3), (4, .int x4), (5, .int x5), (6, .int x6)] → F x1 x3 x4 x5 x6 t0 z = some (d0, O0) → cells + (0 + d0 / 64) ≤ mcT → slots + (0 + d0) ≤ msT → W p l e { frames := 4, cells := mcT, slots := msT, locals := 93 } s m args below meth c H locs cells slots (MQ below (qWi G vwCl (mt cI cL cZ cB) w s.heap.size (mw cI cL cZ cB q) O0) args s mcT msT (va_A w s.heap.size)) (F0 m 125 ls [.int t0, .ref q])
def At_md_part_j75 (l : Launch) (G : va_G) (cI cL cZ cB : ClassId) (q : Nat) (w : va_W) (p : Program) (e : Env) (s : State) (m : MethodId) (args : Array Value) (below : List Frame) (meth : Method) (c : Code) (O0 : Ms × Int32) (mcT msT : Nat) (F : Int32 → Int32 → Int32 → Int32 → Int32 → Ms → Option (Nat × Ms × Int32)) : Prop := ∀ (A : Nat → Nat) (z : Ms) (x1 : Int32) (x2 : Int32) (x3 : Int32) (x4 : Int32) (t0 : Int32) (d0 : Nat) (H : Heap) (locs : List Loc) (ls : Array Slot) (cells slots : Nat), va_P G vwCl (mw cI cL cZ cB q A z) H → va_D (va_A w s.heap.size) (mw cI cL cZ cB q A z) → va_S (va_A w s.heap.size) s.heap H locs → lv_has ls 9 [(0, .ref q), (1, .int x1), (2, .int x2), (3, .int x3), (4, .int x4)] → F x1 x2 x3 x4 t0 z = some (d0, O0) → cells + (0 + d0 / 64) ≤ mcT → slots + (0 + d0) ≤ msT → W p l e { frames := 4, cells := mcT, slots := msT, locals := 93 } s m args below meth c H locs cells slots (MQ below (qWi G vwCl (mt cI cL cZ cB) w s.heap.size (mw cI cL cZ cB q) O0) args s mcT msT (va_A w s.heap.size)) (F0 m 75 ls [.int t0, .ref q])
def At_md_part_j70 (l : Launch) (G : va_G) (cI cL cZ cB : ClassId) (q : Nat) (w : va_W) (p : Program) (e : Env) (s : State) (m : MethodId) (args : Array Value) (below : List Frame) (meth : Method) (c : Code) (O0 : Ms × Int32) (mcT msT : Nat) (F : Int32 → Int32 → Int32 → Int32 → Ms → Option (Nat × Ms × Int32)) : Prop := ∀ (A : Nat → Nat) (z : Ms) (x1 : Int32) (x2 : Int32) (x3 : Int32) (x4 : Int32) (d0 : Nat) (H : Heap) (locs : List Loc) (ls : Array Slot) (cells slots : Nat), va_P G vwCl (mw cI cL cZ cB q A z) H → va_D (va_A w s.heap.size) (mw cI cL cZ cB q A z) → va_S (va_A w s.heap.size) s.heap H locs → lv_has ls 9 [(0, .ref q), (1, .int x1), (2, .int x2), (3, .int x3), (4, .int x4)] → F x1 x2 x3 x4 z = some (d0, O0) → cells + (0 + d0 / 64) ≤ mcT → slots + (0 + d0) ≤ msT → W p l e { frames := 4, cells := mcT, slots := msT, locals := 93 } s m args below meth c H locs cells slots (MQ below (qWi G vwCl (mt cI cL cZ cB) w s.heap.size (mw cI cL cZ cB q) O0) args s mcT msT (va_A w s.heap.size)) (F0 m 70 ls [.ref q])
def At_md_part_j20 (l : Launch) (G : va_G) (cI cL cZ cB : ClassId) (q : Nat) (w : va_W) (p : Program) (e : Env) (s : State) (m : MethodId) (args : Array Value) (below : List Frame) (meth : Method) (c : Code) (O0 : Ms × Int32) (mcT msT : Nat) (F : Int32 → Int32 → Int32 → Int32 → Int32 → Ms → Option (Nat × Ms × Int32)) : Prop := ∀ (A : Nat → Nat) (z : Ms) (x1 : Int32) (x2 : Int32) (x3 : Int32) (x4 : Int32) (t0 : Int32) (d0 : Nat) (H : Heap) (locs : List Loc) (ls : Array Slot) (cells slots : Nat), va_P G vwCl (mw cI cL cZ cB q A z) H → va_D (va_A w s.heap.size) (mw cI cL cZ cB q A z) → va_S (va_A w s.heap.size) s.heap H locs → lv_has ls 9 [(0, .ref q), (1, .int x1), (2, .int x2), (3, .int x3), (4, .int x4)] → F x1 x2 x3 x4 t0 z = some (d0, O0) → cells + (0 + d0 / 64) ≤ mcT → slots + (0 + d0) ≤ msT → W p l e { frames := 4, cells := mcT, slots := msT, locals := 93 } s m args below meth c H locs cells slots (MQ below (qWi G vwCl (mt cI cL cZ cB) w s.heap.size (mw cI cL cZ cB q) O0) args s mcT msT (va_A w s.heap.size)) (F0 m 20 ls [.int t0, .ref q])
def At_md_part_j15 (l : Launch) (G : va_G) (cI cL cZ cB : ClassId) (q : Nat) (w : va_W) (p : Program) (e : Env) (s : State) (m : MethodId) (args : Array Value) (below : List Frame) (meth : Method) (c : Code) (O0 : Ms × Int32) (mcT msT : Nat) (F : Int32 → Int32 → Int32 → Int32 → Ms → Option (Nat × Ms × Int32)) : Prop := ∀ (A : Nat → Nat) (z : Ms) (x1 : Int32) (x2 : Int32) (x3 : Int32) (x4 : Int32) (d0 : Nat) (H : Heap) (locs : List Loc) (ls : Array Slot) (cells slots : Nat), va_P G vwCl (mw cI cL cZ cB q A z) H → va_D (va_A w s.heap.size) (mw cI cL cZ cB q A z) → va_S (va_A w s.heap.size) s.heap H locs → lv_has ls 9 [(0, .ref q), (1, .int x1), (2, .int x2), (3, .int x3), (4, .int x4)] → F x1 x2 x3 x4 z = some (d0, O0) → cells + (0 + d0 / 64) ≤ mcT → slots + (0 + d0) ≤ msT → W p l e { frames := 4, cells := mcT, slots := msT, locals := 93 } s m args below meth c H locs cells slots (MQ below (qWi G vwCl (mt cI cL cZ cB) w s.heap.size (mw cI cL cZ cB q) O0) args s mcT msT (va_A w s.heap.size)) (F0 m 15 ls [.ref q])
set_option maxHeartbeats 4000000 in
set_option maxRecDepth 100000 in
theorem L_md_part_l148 (l : Launch) (G : va_G) (cI cL cZ cB : ClassId) (q : Nat) (w : va_W) (p : Program) (e : Env) (s : State) (m : MethodId) (args : Array Value) (below : List Frame) (meth : Method) (c : Code) (O0 : Ms × Int32) (mcT msT : Nat) (C : MC p s m args meth c cX4_part 9 (some .int) RX4 vX4_part) (hK : va_K G vwCl (mt cI cL cZ cB) s) : ∀ n : Nat, At_md_part_l148 l G cI cL cZ cB q w p e s m args below meth c O0 mcT msT (md_part_l148 n) := by
  obtain ⟨hx, hb, hr, hml, hown, hts, hlocks⟩ := id C
  have FX : CallFix p m c cX4_part 9 s args vX4_part RX4 := ⟨hx, hb, hml, hown, hts⟩
  have hA : ∀ q9 : Nat, s.heap.size ≤ q9 → va_A w s.heap.size q9 := fun q9 h => Or.inr h
  intro n
  induction n with
  | zero =>
    intro A z x1 x3 x4 x5 x7 x8 d0 H locs ls cells slots hP hD hS hl hf hcc hss
    exact nomatch (show none = some _ from hf)
  | succ n ih =>
    intro A z x1 x3 x4 x5 x7 x8 d0 H locs ls cells slots hP hD hS hl hf hcc hss
    rw [md_part_l148] at hf
    refine lv_iload hx hb dX4_part_148 (lv_at hl 6 rfl) ?_
    refine lv_iload hx hb dX4_part_150 (lv_at hl 3 rfl) ?_
    refine lv_icmp_ge (tgt := 187) hx hb dX4_part_152 (by decide) (fun c20 => ?_) (fun c20 => ?_)
    · have hf := (if_pos c20).symm.trans hf
      refine lv_aload_n hx hb dX4_part_187 rfl (lv_at hl 0 rfl) ?_
      refine lv_iload_n hx hb dX4_part_188 rfl (lv_at hl 1 rfl) ?_
      refine lv_iload hx hb dX4_part_189 (lv_at hl 5 rfl) ?_
      refine lv_lconst (v := 0) hx hb dX4_part_191 (by decide) ?_
      obtain ⟨z21, o9, ho21, hf⟩ := of_bw hf
      refine gcWv (gV FX [.int x1, .int x7, .long 0] (c_md_set l G cI cL cZ cB q A z _ x1 x7 0 _ ho21) (cwV 3 hts (gi_V wm_82 wm_83 wm_84 wm_6 wm_85) rfl rfl rfl hdV_X4_set ⟨Nat.le_of_ble_eq_true rfl, Nat.le_of_ble_eq_true rfl⟩) hK hP hD 0 rfl rfl rfl hl.1 (Nat.le_of_ble_eq_true rfl) dX4_part_192 ⟨by show _ ≤ mcT; omega, by show _ ≤ msT; omega⟩) hS hD hA (fun A H locs hP hD hS => ?_)
      refine lv_iload hx hb dX4_part_195 (lv_at hl 5 rfl) ?_
      obtain ⟨hc0, hj0⟩ := of_some2 hf
      subst hj0
      exact grWi hx hb hr hlocks hP hK hD hS dX4_part_197 (by omega) (by omega)
    · have hf := (if_neg c20).symm.trans hf
      refine lv_aload_n hx hb dX4_part_155 rfl (lv_at hl 0 rfl) ?_
      refine va_get (D := G) (ci := 4) (v := .ref (A 17)) (C := RX4) (T := TX4) (N := 32) hx hb hts (fun w h => .tail _ (wl_X4 w h)) hown hK hP 0 rfl rfl 25 (by decide) (hts _ (.tail _ wm_38)) (fun _ h9 => h9) rfl dX4_part_156 ?_
      refine lv_aload_n hx hb dX4_part_159 rfl (lv_at hl 0 rfl) ?_
      refine va_get (D := G) (ci := 4) (v := .ref (A 5)) (C := RX4) (T := TX4) (N := 32) hx hb hts (fun w h => .tail _ (wl_X4 w h)) hown hK hP 0 rfl rfl 12 (by decide) (hts _ (.tail _ wm_27)) (fun _ h9 => h9) rfl dX4_part_160 ?_
      refine lv_iload hx hb dX4_part_163 (lv_at hl 5 rfl) ?_
      obtain ⟨hg22, hf⟩ := of_gd hf
      refine va_iald (f := (Ms.asr z)) (n := (Ms.nsr z)) hx hb hK hP 5 0 rfl rfl (inb_in hg22) dX4_part_165 ?_
      refine lv_iload hx hb dX4_part_166 (lv_at hl 6 rfl) ?_
      refine lv_iadd hx hb dX4_part_168 ?_
      refine lv_iload_n hx hb dX4_part_169 rfl (lv_at hl 2 rfl) ?_
      refine lv_isub hx hb dX4_part_170 ?_
      refine lv_aload_n hx hb dX4_part_171 rfl (lv_at hl 0 rfl) ?_
      refine lv_iload hx hb dX4_part_172 (lv_at hl 4 rfl) ?_
      refine lv_iload hx hb dX4_part_174 (lv_at hl 6 rfl) ?_
      obtain ⟨r23, ho23, hf⟩ := of_b0 hf
      refine gcRi (gV FX [.int x5, .int x8] (c_md_byteOf l G cI cL cZ cB q A z _ x5 x8 _ ho23) (cwV 2 hts (gi_V wm_114 wm_115 wm_116 wm_6 wm_117) rfl rfl rfl hdV_X4_byteOf ⟨Nat.le_of_ble_eq_true rfl, Nat.le_of_ble_eq_true rfl⟩) hK hP hD 0 rfl rfl rfl hl.1 (Nat.le_of_ble_eq_true rfl) dX4_part_176 ⟨by show _ ≤ mcT; omega, by show _ ≤ msT; omega⟩) hS hD hA (fun H locs hP hS => ?_)
      refine lv_i2b hx hb dX4_part_179 rfl ?_
      obtain ⟨hg24, hf⟩ := of_gd hf
      refine va_bast (f := (Ms.aby z)) (n := (Ms.nby z)) hx hb hK hP hD hS 17 3 rfl rfl (inb_in hg24) dX4_part_180 (fun H locs hP hD hS => ?_)
      have hP : va_P G vwCl (mw cI cL cZ cB q A (Ms.wby z (upd (Ms.aby z) (((((Ms.asr z) x7.toNatClampNeg) + x8) - x3).toNatClampNeg) (vp_nar .byte (r23.toInt8.toInt32))))) H := hP
      have hD : va_D _ (mw cI cL cZ cB q A (Ms.wby z (upd (Ms.aby z) (((((Ms.asr z) x7.toNatClampNeg) + x8) - x3).toNatClampNeg) (vp_nar .byte (r23.toInt8.toInt32))))) := hD
      refine lv_iinc (v := (x8 + 1)) (lv' := [(8, .int (x8 + 1)), (0, .ref q), (1, .int x1), (3, .int x3), (4, .int x4), (5, .int x5), (7, .int x7)]) hx hb dX4_part_181 hl (k := 6) rfl rfl (by decide) rfl (fun ls hl => ?_)
      refine lv_goto (tgt := 148) hx hb dX4_part_184 (by decide) ?_
      exact ih _ _ _ _ _ _ _ _ _ _ _ _ _ _ hP hD hS (lv_sub hl [1, 2, 3, 4, 5, 6, 0] rfl) hf (by omega) (by omega)
set_option maxHeartbeats 4000000 in
set_option maxRecDepth 100000 in
theorem L_md_part_j125 (l : Launch) (G : va_G) (cI cL cZ cB : ClassId) (q : Nat) (w : va_W) (p : Program) (e : Env) (s : State) (m : MethodId) (args : Array Value) (below : List Frame) (meth : Method) (c : Code) (O0 : Ms × Int32) (mcT msT : Nat) (C : MC p s m args meth c cX4_part 9 (some .int) RX4 vX4_part) (hK : va_K G vwCl (mt cI cL cZ cB) s) : At_md_part_j125 l G cI cL cZ cB q w p e s m args below meth c O0 mcT msT md_part_j125 := by
  obtain ⟨hx, hb, hr, hml, hown, hts, hlocks⟩ := id C
  have FX : CallFix p m c cX4_part 9 s args vX4_part RX4 := ⟨hx, hb, hml, hown, hts⟩
  have hA : ∀ q9 : Nat, s.heap.size ≤ q9 → va_A w s.heap.size q9 := fun q9 h => Or.inr h
  intro A z x1 x3 x4 x5 x6 t0 d0 H locs ls cells slots hP hD hS hl hf hcc hss
  unfold md_part_j125 at hf
  refine va_put (D := G) (ci := 4) (v := .int t0) (ty := .int) (C := RX4) (T := TX4) (N := 32) hx hb hts (fun w h => .tail _ (wl_X4 w h)) tyX4 tyX4_ok nmX4 hown hK hP hD hS 0 rfl rfl 0 (by decide) (hts _ (.tail _ wm_0)) (fun _ h9 => h9) rfl (by decide +kernel) rfl rfl (Nat.le_of_ble_eq_true rfl) dX4_part_125 (fun H locs hP hD hS => ?_)
  have hP : va_P G vwCl (mw cI cL cZ cB q A (Ms.sthr z t0)) H := hP
  have hD : va_D _ (mw cI cL cZ cB q A (Ms.sthr z t0)) := hD
  refine lv_iload hx hb dX4_part_128 (lv_at hl 5 rfl) ?_
  refine lv_if_ne (tgt := 135) hx hb dX4_part_130 (by decide) (fun c18 => ?_) (fun c18 => ?_)
  · have hf := (if_neg c18).symm.trans hf
    refine lv_aload_n hx hb dX4_part_135 rfl (lv_at hl 0 rfl) ?_
    refine lv_iload hx hb dX4_part_136 (lv_at hl 3 rfl) ?_
    refine lv_iload_n hx hb dX4_part_138 rfl (lv_at hl 2 rfl) ?_
    refine lv_isub hx hb dX4_part_139 ?_
    obtain ⟨k19, z19, r19, d19, ho19, hf, ek19⟩ := of_bcw hf
    refine gcWi (gV FX [.int (x4 - x3)] (c_md_beginText l G cI cL cZ cB q A (Ms.sthr z t0) _ (x4 - x3) k19 _ ho19) (cwV 1 hts (gi_V wm_101 wm_102 wm_103 wm_6 wm_104) rfl rfl rfl hdV_X4_beginText ⟨Nat.le_of_ble_eq_true rfl, Nat.le_of_ble_eq_true rfl⟩) hK hP hD 0 rfl rfl rfl hl.1 (Nat.le_of_ble_eq_true rfl) dX4_part_140 ⟨by show _ ≤ mcT; omega, by show _ ≤ msT; omega⟩) hS hD hA (fun A H locs hP hD hS => ?_)
    refine lv_istore (lv' := [(7, .int r19), (0, .ref q), (1, .int x1), (3, .int x3), (4, .int x4), (5, .int x5), (6, .int x6)]) hx hb dX4_part_143 hl (by decide) rfl (fun ls hl => ?_)
    refine lv_iload_n hx hb dX4_part_145 rfl (lv_at hl 3 rfl) ?_
    refine lv_istore (lv' := [(8, .int x3), (7, .int r19), (0, .ref q), (1, .int x1), (3, .int x3), (4, .int x4), (5, .int x5), (6, .int x6)]) hx hb dX4_part_146 hl (by decide) rfl (fun ls hl => ?_)
    exact L_md_part_l148 _ _ _ _ _ _ _ _ _ _ _ _ _ _ _ _ _ _ _ C hK FU _ _ _ _ _ _ _ _ _ _ _ _ _ _ hP hD hS (lv_sub hl [2, 3, 4, 5, 6, 1, 0] rfl) hf (by omega) (by omega)
  · have hf := (if_pos c18).symm.trans hf
    refine lv_iconst (v := 0) hx hb dX4_part_133 (by decide) ?_
    obtain ⟨hc0, hj0⟩ := of_some2 hf
    subst hj0
    exact grWi hx hb hr hlocks hP hK hD hS dX4_part_134 (by omega) (by omega)
set_option maxHeartbeats 4000000 in
set_option maxRecDepth 100000 in
theorem L_md_part_j75 (l : Launch) (G : va_G) (cI cL cZ cB : ClassId) (q : Nat) (w : va_W) (p : Program) (e : Env) (s : State) (m : MethodId) (args : Array Value) (below : List Frame) (meth : Method) (c : Code) (O0 : Ms × Int32) (mcT msT : Nat) (C : MC p s m args meth c cX4_part 9 (some .int) RX4 vX4_part) (hK : va_K G vwCl (mt cI cL cZ cB) s) : At_md_part_j75 l G cI cL cZ cB q w p e s m args below meth c O0 mcT msT md_part_j75 := by
  obtain ⟨hx, hb, hr, hml, hown, hts, hlocks⟩ := id C
  have FX : CallFix p m c cX4_part 9 s args vX4_part RX4 := ⟨hx, hb, hml, hown, hts⟩
  have hA : ∀ q9 : Nat, s.heap.size ≤ q9 → va_A w s.heap.size q9 := fun q9 h => Or.inr h
  intro A z x1 x2 x3 x4 t0 d0 H locs ls cells slots hP hD hS hl hf hcc hss
  unfold md_part_j75 at hf
  refine va_put (D := G) (ci := 4) (v := .int t0) (ty := .int) (C := RX4) (T := TX4) (N := 32) hx hb hts (fun w h => .tail _ (wl_X4 w h)) tyX4 tyX4_ok nmX4 hown hK hP hD hS 0 rfl rfl 0 (by decide) (hts _ (.tail _ wm_0)) (fun _ h9 => h9) rfl (by decide +kernel) rfl rfl (Nat.le_of_ble_eq_true rfl) dX4_part_75 (fun H locs hP hD hS => ?_)
  have hP : va_P G vwCl (mw cI cL cZ cB q A (Ms.sthr z t0)) H := hP
  have hD : va_D _ (mw cI cL cZ cB q A (Ms.sthr z t0)) := hD
  refine lv_aload_n hx hb dX4_part_78 rfl (lv_at hl 0 rfl) ?_
  refine va_get (D := G) (ci := 4) (v := .int t0) (C := RX4) (T := TX4) (N := 32) hx hb hts (fun w h => .tail _ (wl_X4 w h)) hown hK hP 0 rfl rfl 0 (by decide) (hts _ (.tail _ wm_0)) (fun _ h9 => h9) rfl dX4_part_79 ?_
  refine lv_if_le (tgt := 87) hx hb dX4_part_82 (by decide) (fun c13 => ?_) (fun c13 => ?_)
  · have hf := (if_pos c13).symm.trans hf
    refine lv_aload_n hx hb dX4_part_87 rfl (lv_at hl 0 rfl) ?_
    refine va_get (D := G) (ci := 4) (v := .ref (A 1)) (C := RX4) (T := TX4) (N := 32) hx hb hts (fun w h => .tail _ (wl_X4 w h)) hown hK hP 0 rfl rfl 7 (by decide) (hts _ (.tail _ wm_1)) (fun _ h9 => h9) rfl dX4_part_88 ?_
    refine lv_iload_n hx hb dX4_part_91 rfl (lv_at hl 2 rfl) ?_
    obtain ⟨hg14, hf⟩ := of_gd hf
    refine va_iald (f := (Ms.atg z)) (n := (Ms.ntg z)) hx hb hK hP 1 0 rfl rfl (inb_in hg14) dX4_part_92 ?_
    refine lv_istore (lv' := [(5, .int ((Ms.atg z) x2.toNatClampNeg)), (0, .ref q), (1, .int x1), (2, .int x2), (3, .int x3), (4, .int x4)]) hx hb dX4_part_93 hl (by decide) rfl (fun ls hl => ?_)
    refine lv_aload_n hx hb dX4_part_95 rfl (lv_at hl 1 rfl) ?_
    refine lv_iload hx hb dX4_part_96 (lv_at hl 5 rfl) ?_
    refine lv_iload_n hx hb dX4_part_98 rfl (lv_at hl 4 rfl) ?_
    refine lv_isub hx hb dX4_part_99 ?_
    refine lv_bipush (v := 7) hx hb dX4_part_100 (by decide) ?_
    refine lv_iadd hx hb dX4_part_102 ?_
    refine lv_bipush (v := 8) hx hb dX4_part_103 (by decide) ?_
    obtain ⟨hg15, hf⟩ := of_gd hf
    refine lv_idiv hx hb dX4_part_105 (nzb_ne hg15) ?_
    refine lv_i2l hx hb dX4_part_106 rfl ?_
    refine lv_lconst (v := 1) hx hb dX4_part_107 (by decide) ?_
    refine lv_ladd hx hb dX4_part_108 ?_
    obtain ⟨z16, r16, ho16, hf⟩ := of_bw hf
    refine gcWi (gV FX [.long (((((x4 - x3) + 7) / 8).toInt64) + 1)] (c_md_hasRoom l G cI cL cZ cB q A (Ms.sthr z t0) _ (((((x4 - x3) + 7) / 8).toInt64) + 1) _ ho16) (cwV 1 hts (gi_V wm_92 wm_93 wm_94 wm_6 wm_95) rfl rfl rfl hdV_X4_hasRoom ⟨Nat.le_of_ble_eq_true rfl, Nat.le_of_ble_eq_true rfl⟩) hK hP hD 0 rfl rfl rfl hl.1 (Nat.le_of_ble_eq_true rfl) dX4_part_109 ⟨by show _ ≤ mcT; omega, by show _ ≤ msT; omega⟩) hS hD hA (fun A H locs hP hD hS => ?_)
    refine lv_istore (lv' := [(6, .int r16), (5, .int ((Ms.atg z) x2.toNatClampNeg)), (0, .ref q), (1, .int x1), (2, .int x2), (3, .int x3), (4, .int x4)]) hx hb dX4_part_112 hl (by decide) rfl (fun ls hl => ?_)
    refine lv_aload_n hx hb dX4_part_114 rfl (lv_at hl 2 rfl) ?_
    refine lv_iload hx hb dX4_part_115 (lv_at hl 0 rfl) ?_
    refine lv_if_eq (tgt := 124) hx hb dX4_part_117 (by decide) (fun c17 => ?_) (fun c17 => ?_)
    · have hf := (if_pos c17).symm.trans hf
      refine lv_iconst (v := 4) hx hb dX4_part_124 (by decide) ?_
      exact L_md_part_j125 _ _ _ _ _ _ _ _ _ _ _ _ _ _ _ _ _ _ _ C hK _ _ _ _ _ _ _ _ _ _ _ _ _ _ hP hD hS (lv_sub hl [2, 3, 5, 6, 1, 0] rfl) hf (by omega) (by omega)
    · have hf := (if_neg c17).symm.trans hf
      refine lv_iconst (v := 0) hx hb dX4_part_120 (by decide) ?_
      refine lv_goto (tgt := 125) hx hb dX4_part_121 (by decide) ?_
      exact L_md_part_j125 _ _ _ _ _ _ _ _ _ _ _ _ _ _ _ _ _ _ _ C hK _ _ _ _ _ _ _ _ _ _ _ _ _ _ hP hD hS (lv_sub hl [2, 3, 5, 6, 1, 0] rfl) hf (by omega) (by omega)
  · have hf := (if_neg c13).symm.trans hf
    refine lv_iconst (v := 0) hx hb dX4_part_85 (by decide) ?_
    obtain ⟨hc0, hj0⟩ := of_some2 hf
    subst hj0
    exact grWi hx hb hr hlocks hP hK hD hS dX4_part_86 (by omega) (by omega)
set_option maxHeartbeats 4000000 in
set_option maxRecDepth 100000 in
theorem L_md_part_j70 (l : Launch) (G : va_G) (cI cL cZ cB : ClassId) (q : Nat) (w : va_W) (p : Program) (e : Env) (s : State) (m : MethodId) (args : Array Value) (below : List Frame) (meth : Method) (c : Code) (O0 : Ms × Int32) (mcT msT : Nat) (C : MC p s m args meth c cX4_part 9 (some .int) RX4 vX4_part) (hK : va_K G vwCl (mt cI cL cZ cB) s) : At_md_part_j70 l G cI cL cZ cB q w p e s m args below meth c O0 mcT msT md_part_j70 := by
  obtain ⟨hx, hb, hr, hml, hown, hts, hlocks⟩ := id C
  have FX : CallFix p m c cX4_part 9 s args vX4_part RX4 := ⟨hx, hb, hml, hown, hts⟩
  have hA : ∀ q9 : Nat, s.heap.size ≤ q9 → va_A w s.heap.size q9 := fun q9 h => Or.inr h
  intro A z x1 x2 x3 x4 d0 H locs ls cells slots hP hD hS hl hf hcc hss
  unfold md_part_j70 at hf
  refine lv_iconst (v := 3) hx hb dX4_part_70 (by decide) ?_
  refine lv_goto (tgt := 75) hx hb dX4_part_71 (by decide) ?_
  exact L_md_part_j75 _ _ _ _ _ _ _ _ _ _ _ _ _ _ _ _ _ _ _ C hK _ _ _ _ _ _ _ _ _ _ _ _ _ hP hD hS (lv_sub hl [0, 1, 2, 3, 4] rfl) hf (by omega) (by omega)
set_option maxHeartbeats 4000000 in
set_option maxRecDepth 100000 in
theorem L_md_part_j20 (l : Launch) (G : va_G) (cI cL cZ cB : ClassId) (q : Nat) (w : va_W) (p : Program) (e : Env) (s : State) (m : MethodId) (args : Array Value) (below : List Frame) (meth : Method) (c : Code) (O0 : Ms × Int32) (mcT msT : Nat) (C : MC p s m args meth c cX4_part 9 (some .int) RX4 vX4_part) (hK : va_K G vwCl (mt cI cL cZ cB) s) : At_md_part_j20 l G cI cL cZ cB q w p e s m args below meth c O0 mcT msT md_part_j20 := by
  obtain ⟨hx, hb, hr, hml, hown, hts, hlocks⟩ := id C
  have FX : CallFix p m c cX4_part 9 s args vX4_part RX4 := ⟨hx, hb, hml, hown, hts⟩
  have hA : ∀ q9 : Nat, s.heap.size ≤ q9 → va_A w s.heap.size q9 := fun q9 h => Or.inr h
  intro A z x1 x2 x3 x4 t0 d0 H locs ls cells slots hP hD hS hl hf hcc hss
  unfold md_part_j20 at hf
  refine va_put (D := G) (ci := 4) (v := .int t0) (ty := .int) (C := RX4) (T := TX4) (N := 32) hx hb hts (fun w h => .tail _ (wl_X4 w h)) tyX4 tyX4_ok nmX4 hown hK hP hD hS 0 rfl rfl 0 (by decide) (hts _ (.tail _ wm_0)) (fun _ h9 => h9) rfl (by decide +kernel) rfl rfl (Nat.le_of_ble_eq_true rfl) dX4_part_20 (fun H locs hP hD hS => ?_)
  have hP : va_P G vwCl (mw cI cL cZ cB q A (Ms.sthr z t0)) H := hP
  have hD : va_D _ (mw cI cL cZ cB q A (Ms.sthr z t0)) := hD
  refine lv_aload_n hx hb dX4_part_23 rfl (lv_at hl 0 rfl) ?_
  refine va_get (D := G) (ci := 4) (v := .int t0) (C := RX4) (T := TX4) (N := 32) hx hb hts (fun w h => .tail _ (wl_X4 w h)) hown hK hP 0 rfl rfl 0 (by decide) (hts _ (.tail _ wm_0)) (fun _ h9 => h9) rfl dX4_part_24 ?_
  refine lv_if_le (tgt := 32) hx hb dX4_part_27 (by decide) (fun c5 => ?_) (fun c5 => ?_)
  · have hf := (if_pos c5).symm.trans hf
    refine lv_aload_n hx hb dX4_part_32 rfl (lv_at hl 0 rfl) ?_
    refine lv_aload_n hx hb dX4_part_33 rfl (lv_at hl 0 rfl) ?_
    refine lv_iload_n hx hb dX4_part_34 rfl (lv_at hl 2 rfl) ?_
    obtain ⟨r6, ho6, hf⟩ := of_b0 hf
    refine gcRi (gV FX [.int x2] (c_md_isText l G cI cL cZ cB q A (Ms.sthr z t0) _ x2 _ ho6) (cwV 1 hts (gi_V wm_110 wm_111 wm_112 wm_6 wm_113) rfl rfl rfl hdV_X4_isText ⟨Nat.le_of_ble_eq_true rfl, Nat.le_of_ble_eq_true rfl⟩) hK hP hD 0 rfl rfl rfl hl.1 (Nat.le_of_ble_eq_true rfl) dX4_part_35 ⟨by show _ ≤ mcT; omega, by show _ ≤ msT; omega⟩) hS hD hA (fun H locs hP hS => ?_)
    refine lv_if_ne (tgt := 45) hx hb dX4_part_38 (by decide) (fun c7 => ?_) (fun c7 => ?_)
    · have hf := (if_neg c7).symm.trans hf
      refine lv_iload_n hx hb dX4_part_45 rfl (lv_at hl 3 rfl) ?_
      refine lv_if_lt (tgt := 70) hx hb dX4_part_46 (by decide) (fun c8 => ?_) (fun c8 => ?_)
      · have hf := (if_pos c8).symm.trans hf
        exact L_md_part_j70 _ _ _ _ _ _ _ _ _ _ _ _ _ _ _ _ _ _ _ C hK _ _ _ _ _ _ _ _ _ _ _ _ hP hD hS (lv_sub hl [0, 1, 2, 3, 4] rfl) hf (by omega) (by omega)
      · have hf := (if_neg c8).symm.trans hf
        refine lv_iload_n hx hb dX4_part_49 rfl (lv_at hl 3 rfl) ?_
        refine lv_iload hx hb dX4_part_50 (lv_at hl 4 rfl) ?_
        refine lv_icmp_gt (tgt := 70) hx hb dX4_part_52 (by decide) (fun c9 => ?_) (fun c9 => ?_)
        · have hf := (if_pos c9).symm.trans hf
          exact L_md_part_j70 _ _ _ _ _ _ _ _ _ _ _ _ _ _ _ _ _ _ _ C hK _ _ _ _ _ _ _ _ _ _ _ _ hP hD hS (lv_sub hl [0, 1, 2, 3, 4] rfl) hf (by omega) (by omega)
        · have hf := (if_neg c9).symm.trans hf
          refine lv_iload hx hb dX4_part_55 (lv_at hl 4 rfl) ?_
          refine lv_aload_n hx hb dX4_part_57 rfl (lv_at hl 0 rfl) ?_
          refine lv_aload_n hx hb dX4_part_58 rfl (lv_at hl 0 rfl) ?_
          refine va_get (D := G) (ci := 4) (v := .ref (A 1)) (C := RX4) (T := TX4) (N := 32) hx hb hts (fun w h => .tail _ (wl_X4 w h)) hown hK hP 0 rfl rfl 7 (by decide) (hts _ (.tail _ wm_1)) (fun _ h9 => h9) rfl dX4_part_59 ?_
          refine lv_iload_n hx hb dX4_part_62 rfl (lv_at hl 2 rfl) ?_
          obtain ⟨hg10, hf⟩ := of_gd hf
          refine va_iald (f := (Ms.atg z)) (n := (Ms.ntg z)) hx hb hK hP 1 0 rfl rfl (inb_in hg10) dX4_part_63 ?_
          obtain ⟨r11, ho11, hf⟩ := of_b0 hf
          refine gcRi (gV FX [.int ((Ms.atg z) x2.toNatClampNeg)] (c_md_bytesOf l G cI cL cZ cB q A (Ms.sthr z t0) _ ((Ms.atg z) x2.toNatClampNeg) _ ho11) (cwV 1 hts (gi_V wm_106 wm_107 wm_108 wm_6 wm_109) rfl rfl rfl hdV_X4_bytesOf ⟨Nat.le_of_ble_eq_true rfl, Nat.le_of_ble_eq_true rfl⟩) hK hP hD 0 rfl rfl rfl hl.1 (Nat.le_of_ble_eq_true rfl) dX4_part_64 ⟨by show _ ≤ mcT; omega, by show _ ≤ msT; omega⟩) hS hD hA (fun H locs hP hS => ?_)
          refine lv_icmp_le (tgt := 74) hx hb dX4_part_67 (by decide) (fun c12 => ?_) (fun c12 => ?_)
          · have hf := (if_pos c12).symm.trans hf
            refine lv_iconst (v := 0) hx hb dX4_part_74 (by decide) ?_
            exact L_md_part_j75 _ _ _ _ _ _ _ _ _ _ _ _ _ _ _ _ _ _ _ C hK _ _ _ _ _ _ _ _ _ _ _ _ _ hP hD hS (lv_sub hl [0, 1, 2, 3, 4] rfl) hf (by omega) (by omega)
          · have hf := (if_neg c12).symm.trans hf
            exact L_md_part_j70 _ _ _ _ _ _ _ _ _ _ _ _ _ _ _ _ _ _ _ C hK _ _ _ _ _ _ _ _ _ _ _ _ hP hD hS (lv_sub hl [0, 1, 2, 3, 4] rfl) hf (by omega) (by omega)
    · have hf := (if_pos c7).symm.trans hf
      refine lv_iconst (v := 2) hx hb dX4_part_41 (by decide) ?_
      refine lv_goto (tgt := 75) hx hb dX4_part_42 (by decide) ?_
      exact L_md_part_j75 _ _ _ _ _ _ _ _ _ _ _ _ _ _ _ _ _ _ _ C hK _ _ _ _ _ _ _ _ _ _ _ _ _ hP hD hS (lv_sub hl [0, 1, 2, 3, 4] rfl) hf (by omega) (by omega)
  · have hf := (if_neg c5).symm.trans hf
    refine lv_iconst (v := 0) hx hb dX4_part_30 (by decide) ?_
    obtain ⟨hc0, hj0⟩ := of_some2 hf
    subst hj0
    exact grWi hx hb hr hlocks hP hK hD hS dX4_part_31 (by omega) (by omega)
set_option maxHeartbeats 4000000 in
set_option maxRecDepth 100000 in
theorem L_md_part_j15 (l : Launch) (G : va_G) (cI cL cZ cB : ClassId) (q : Nat) (w : va_W) (p : Program) (e : Env) (s : State) (m : MethodId) (args : Array Value) (below : List Frame) (meth : Method) (c : Code) (O0 : Ms × Int32) (mcT msT : Nat) (C : MC p s m args meth c cX4_part 9 (some .int) RX4 vX4_part) (hK : va_K G vwCl (mt cI cL cZ cB) s) : At_md_part_j15 l G cI cL cZ cB q w p e s m args below meth c O0 mcT msT md_part_j15 := by
  obtain ⟨hx, hb, hr, hml, hown, hts, hlocks⟩ := id C
  have FX : CallFix p m c cX4_part 9 s args vX4_part RX4 := ⟨hx, hb, hml, hown, hts⟩
  have hA : ∀ q9 : Nat, s.heap.size ≤ q9 → va_A w s.heap.size q9 := fun q9 h => Or.inr h
  intro A z x1 x2 x3 x4 d0 H locs ls cells slots hP hD hS hl hf hcc hss
  unfold md_part_j15 at hf
  refine lv_iconst (v := 1) hx hb dX4_part_15 (by decide) ?_
  refine lv_goto (tgt := 20) hx hb dX4_part_16 (by decide) ?_
  exact L_md_part_j20 _ _ _ _ _ _ _ _ _ _ _ _ _ _ _ _ _ _ _ C hK _ _ _ _ _ _ _ _ _ _ _ _ _ hP hD hS (lv_sub hl [0, 1, 2, 3, 4] rfl) hf (by omega) (by omega)
set_option maxHeartbeats 4000000 in
set_option maxRecDepth 100000 in
theorem c_md_part (l : Launch) (G : va_G) (cI cL cZ cB : ClassId) (q : Nat) (A : Nat → Nat) (z : Ms) (sz : Nat) (p0 : Int32) (p1 : Int32) (p2 : Int32) (p3 : Int32) (c0 : Nat) (O0 : Ms × Int32) (hf : md_part z p0 p1 p2 p3 = some (c0, O0)) : Met l yX4_part vX4_part { frames := 4, cells := 0 + c0 / 64, slots := 0 + c0, locals := 93 } (gPc G vwCl (mt cI cL cZ cB) [.ref q, .int p0, .int p1, .int p2, .int p3] (mw cI cL cZ cB q A z) sz) (qWi G vwCl (mt cI cL cZ cB) (mw cI cL cZ cB q A z) sz (mw cI cL cZ cB q) O0) (0 + c0 / 64) (0 + c0) (va_A (mw cI cL cZ cB q A z) sz) := by
  refine gMet (by decide) rfl (Nat.le_of_ble_eq_true rfl) ?_
  intro p e s m below meth c ls C hK hP hD hsz hl
  subst hsz
  obtain ⟨hx, hb, hr, hml, hown, hts, hlocks⟩ := id C
  have FX : CallFix p m c cX4_part 9 s _ vX4_part RX4 := ⟨hx, hb, hml, hown, hts⟩
  have hA : ∀ q9 : Nat, s.heap.size ≤ q9 → va_A (mw cI cL cZ cB q A z) s.heap.size q9 := fun q9 h => Or.inr h
  have hS : va_S (va_A (mw cI cL cZ cB q A z) s.heap.size) s.heap s.heap [] := va_S.rf
  have hl : lv_has ls 9 [(0, .ref q), (1, .int p0), (2, .int p1), (3, .int p2), (4, .int p3)] := hl
  unfold md_part at hf
  refine lv_aload_n hx hb dX4_part_0 rfl (lv_at hl 0 rfl) ?_
  refine lv_iload_n hx hb dX4_part_1 rfl (lv_at hl 1 rfl) ?_
  obtain ⟨r1, ho1, hf⟩ := of_b0 hf
  refine gcRi (gS FX [.int p0] (c_md_isRegister l G cI cL cZ cB q A z _ p0 _ ho1) (cwS 1 hts (gi_S wm_79 wm_80 wm_6 wm_81) rfl rfl rfl hdS_X4_isRegister ⟨Nat.le_of_ble_eq_true rfl, Nat.le_of_ble_eq_true rfl⟩) hK hP hD rfl hl.1 (Nat.le_of_ble_eq_true rfl) dX4_part_2 ⟨by show _ ≤ 0 + c0 / 64; omega, by show _ ≤ 0 + c0; omega⟩) hS hD hA (fun H locs hP hS => ?_)
  refine lv_if_eq (tgt := 15) hx hb dX4_part_5 (by decide) (fun c2 => ?_) (fun c2 => ?_)
  · have hf := (if_pos c2).symm.trans hf
    exact L_md_part_j15 _ _ _ _ _ _ _ _ _ _ _ _ _ _ _ _ _ _ _ C hK _ _ _ _ _ _ _ _ _ _ _ _ hP hD hS (lv_sub hl [0, 1, 2, 3, 4] rfl) hf (by omega) (by omega)
  · have hf := (if_neg c2).symm.trans hf
    refine lv_iload_n hx hb dX4_part_8 rfl (lv_at hl 2 rfl) ?_
    obtain ⟨r3, ho3, hf⟩ := of_b0 hf
    refine gcRi (gS FX [.int p1] (c_md_isRegister l G cI cL cZ cB q A z _ p1 _ ho3) (cwS 1 hts (gi_S wm_79 wm_80 wm_6 wm_81) rfl rfl rfl hdS_X4_isRegister ⟨Nat.le_of_ble_eq_true rfl, Nat.le_of_ble_eq_true rfl⟩) hK hP hD rfl hl.1 (Nat.le_of_ble_eq_true rfl) dX4_part_9 ⟨by show _ ≤ 0 + c0 / 64; omega, by show _ ≤ 0 + c0; omega⟩) hS hD hA (fun H locs hP hS => ?_)
    refine lv_if_ne (tgt := 19) hx hb dX4_part_12 (by decide) (fun c4 => ?_) (fun c4 => ?_)
    · have hf := (if_neg c4).symm.trans hf
      refine lv_iconst (v := 0) hx hb dX4_part_19 (by decide) ?_
      exact L_md_part_j20 _ _ _ _ _ _ _ _ _ _ _ _ _ _ _ _ _ _ _ C hK _ _ _ _ _ _ _ _ _ _ _ _ _ hP hD hS (lv_sub hl [0, 1, 2, 3, 4] rfl) hf (by omega) (by omega)
    · have hf := (if_pos c4).symm.trans hf
      exact L_md_part_j15 _ _ _ _ _ _ _ _ _ _ _ _ _ _ _ _ _ _ _ C hK _ _ _ _ _ _ _ _ _ _ _ _ hP hD hS (lv_sub hl [0, 1, 2, 3, 4] rfl) hf (by omega) (by omega)
def At_md_order_j62 (l : Launch) (G : va_G) (cI cL cZ cB : ClassId) (q : Nat) (A : Nat → Nat) (z : Ms) (p : Program) (e : Env) (s : State) (m : MethodId) (args : Array Value) (below : List Frame) (meth : Method) (c : Code) (O0 : Int32) (mcT msT : Nat) (F : Int32 → Int32 → Ms → Option (Int32)) : Prop := ∀ (x1 : Int32) (x2 : Int32) (H : Heap) (locs : List Loc) (ls : Array Slot) (cells slots : Nat), va_P G vwCl (mw cI cL cZ cB q A z) H → va_D (va_A (mw cI cL cZ cB q A z) s.heap.size) (mw cI cL cZ cB q A z) → va_S (va_A (mw cI cL cZ cB q A z) s.heap.size) s.heap H locs → lv_has ls 4 [(0, .ref q), (1, .int x1), (2, .int x2)] → F x1 x2 z = some O0 → cells + 0 ≤ mcT → slots + 0 ≤ msT → W p l e { frames := 1, cells := mcT, slots := msT, locals := 22 } s m args below meth c H locs cells slots (MQ below (qRi G vwCl (mt cI cL cZ cB) (mw cI cL cZ cB q A z) s.heap.size O0) args s mcT msT (va_A (mw cI cL cZ cB q A z) s.heap.size)) (F0 m 62 ls [])
def At_md_order_l2 (l : Launch) (G : va_G) (cI cL cZ cB : ClassId) (q : Nat) (A : Nat → Nat) (z : Ms) (p : Program) (e : Env) (s : State) (m : MethodId) (args : Array Value) (below : List Frame) (meth : Method) (c : Code) (O0 : Int32) (mcT msT : Nat) (F : Int32 → Int32 → Int32 → Ms → Option (Int32)) : Prop := ∀ (x1 : Int32) (x2 : Int32) (x3 : Int32) (H : Heap) (locs : List Loc) (ls : Array Slot) (cells slots : Nat), va_P G vwCl (mw cI cL cZ cB q A z) H → va_D (va_A (mw cI cL cZ cB q A z) s.heap.size) (mw cI cL cZ cB q A z) → va_S (va_A (mw cI cL cZ cB q A z) s.heap.size) s.heap H locs → lv_has ls 4 [(0, .ref q), (1, .int x1), (2, .int x2), (3, .int x3)] → F x1 x2 x3 z = some O0 → cells + 0 ≤ mcT → slots + 0 ≤ msT → W p l e { frames := 1, cells := mcT, slots := msT, locals := 22 } s m args below meth c H locs cells slots (MQ below (qRi G vwCl (mt cI cL cZ cB) (mw cI cL cZ cB q A z) s.heap.size O0) args s mcT msT (va_A (mw cI cL cZ cB q A z) s.heap.size)) (F0 m 2 ls [])
set_option maxHeartbeats 4000000 in
set_option maxRecDepth 100000 in
theorem L_md_order_j62 (l : Launch) (G : va_G) (cI cL cZ cB : ClassId) (q : Nat) (A : Nat → Nat) (z : Ms) (p : Program) (e : Env) (s : State) (m : MethodId) (args : Array Value) (below : List Frame) (meth : Method) (c : Code) (O0 : Int32) (mcT msT : Nat) (C : MC p s m args meth c cX4_order 4 (some .int) RX4 vX4_order) (hK : va_K G vwCl (mt cI cL cZ cB) s) : At_md_order_j62 l G cI cL cZ cB q A z p e s m args below meth c O0 mcT msT md_order_j62 := by
  obtain ⟨hx, hb, hr, hml, hown, hts, hlocks⟩ := id C
  have FX : CallFix p m c cX4_order 4 s args vX4_order RX4 := ⟨hx, hb, hml, hown, hts⟩
  have hA : ∀ q9 : Nat, s.heap.size ≤ q9 → va_A (mw cI cL cZ cB q A z) s.heap.size q9 := fun q9 h => Or.inr h
  intro x1 x2 H locs ls cells slots hP hD hS hl hf hcc hss
  unfold md_order_j62 at hf
  refine lv_aload_n hx hb dX4_order_62 rfl (lv_at hl 0 rfl) ?_
  refine lv_iload_n hx hb dX4_order_63 rfl (lv_at hl 1 rfl) ?_
  obtain ⟨r11, ho11, hf⟩ := of_b0 hf
  refine gcRi (gV FX [.int x1] (c_md_bytesOf l G cI cL cZ cB q A z _ x1 _ ho11) (cwV 1 hts (gi_V wm_106 wm_107 wm_108 wm_6 wm_109) rfl rfl rfl hdV_X4_bytesOf ⟨Nat.le_of_ble_eq_true rfl, Nat.le_of_ble_eq_true rfl⟩) hK hP hD 0 rfl rfl rfl hl.1 (Nat.le_of_ble_eq_true rfl) dX4_order_64 ⟨by show _ ≤ mcT; omega, by show _ ≤ msT; omega⟩) hS hD hA (fun H locs hP hS => ?_)
  refine lv_aload_n hx hb dX4_order_67 rfl (lv_at hl 0 rfl) ?_
  refine lv_iload_n hx hb dX4_order_68 rfl (lv_at hl 2 rfl) ?_
  obtain ⟨r12, ho12, hf⟩ := of_b0 hf
  refine gcRi (gV FX [.int x2] (c_md_bytesOf l G cI cL cZ cB q A z _ x2 _ ho12) (cwV 1 hts (gi_V wm_106 wm_107 wm_108 wm_6 wm_109) rfl rfl rfl hdV_X4_bytesOf ⟨Nat.le_of_ble_eq_true rfl, Nat.le_of_ble_eq_true rfl⟩) hK hP hD 0 rfl rfl rfl hl.1 (Nat.le_of_ble_eq_true rfl) dX4_order_69 ⟨by show _ ≤ mcT; omega, by show _ ≤ msT; omega⟩) hS hD hA (fun H locs hP hS => ?_)
  refine lv_icmp_ge (tgt := 79) hx hb dX4_order_72 (by decide) (fun c13 => ?_) (fun c13 => ?_)
  · have hf := (if_pos c13).symm.trans hf
    refine lv_aload_n hx hb dX4_order_79 rfl (lv_at hl 0 rfl) ?_
    refine lv_iload_n hx hb dX4_order_80 rfl (lv_at hl 1 rfl) ?_
    obtain ⟨r14, ho14, hf⟩ := of_b0 hf
    refine gcRi (gV FX [.int x1] (c_md_bytesOf l G cI cL cZ cB q A z _ x1 _ ho14) (cwV 1 hts (gi_V wm_106 wm_107 wm_108 wm_6 wm_109) rfl rfl rfl hdV_X4_bytesOf ⟨Nat.le_of_ble_eq_true rfl, Nat.le_of_ble_eq_true rfl⟩) hK hP hD 0 rfl rfl rfl hl.1 (Nat.le_of_ble_eq_true rfl) dX4_order_81 ⟨by show _ ≤ mcT; omega, by show _ ≤ msT; omega⟩) hS hD hA (fun H locs hP hS => ?_)
    refine lv_aload_n hx hb dX4_order_84 rfl (lv_at hl 0 rfl) ?_
    refine lv_iload_n hx hb dX4_order_85 rfl (lv_at hl 2 rfl) ?_
    obtain ⟨r15, ho15, hf⟩ := of_b0 hf
    refine gcRi (gV FX [.int x2] (c_md_bytesOf l G cI cL cZ cB q A z _ x2 _ ho15) (cwV 1 hts (gi_V wm_106 wm_107 wm_108 wm_6 wm_109) rfl rfl rfl hdV_X4_bytesOf ⟨Nat.le_of_ble_eq_true rfl, Nat.le_of_ble_eq_true rfl⟩) hK hP hD 0 rfl rfl rfl hl.1 (Nat.le_of_ble_eq_true rfl) dX4_order_86 ⟨by show _ ≤ mcT; omega, by show _ ≤ msT; omega⟩) hS hD hA (fun H locs hP hS => ?_)
    refine lv_icmp_le (tgt := 96) hx hb dX4_order_89 (by decide) (fun c16 => ?_) (fun c16 => ?_)
    · have hf := (if_pos c16).symm.trans hf
      refine lv_iconst (v := 0) hx hb dX4_order_96 (by decide) ?_
      obtain rfl := Option.some.inj hf
      exact grRi hx hb hr hlocks hP hK hD hS dX4_order_97 (by omega) (by omega)
    · have hf := (if_neg c16).symm.trans hf
      refine lv_iconst (v := 1) hx hb dX4_order_92 (by decide) ?_
      refine lv_goto (tgt := 97) hx hb dX4_order_93 (by decide) ?_
      obtain rfl := Option.some.inj hf
      exact grRi hx hb hr hlocks hP hK hD hS dX4_order_97 (by omega) (by omega)
  · have hf := (if_neg c13).symm.trans hf
    refine lv_iconst (v := (-1)) hx hb dX4_order_75 (by decide) ?_
    refine lv_goto (tgt := 97) hx hb dX4_order_76 (by decide) ?_
    obtain rfl := Option.some.inj hf
    exact grRi hx hb hr hlocks hP hK hD hS dX4_order_97 (by omega) (by omega)
set_option maxHeartbeats 4000000 in
set_option maxRecDepth 100000 in
theorem L_md_order_l2 (l : Launch) (G : va_G) (cI cL cZ cB : ClassId) (q : Nat) (A : Nat → Nat) (z : Ms) (p : Program) (e : Env) (s : State) (m : MethodId) (args : Array Value) (below : List Frame) (meth : Method) (c : Code) (O0 : Int32) (mcT msT : Nat) (C : MC p s m args meth c cX4_order 4 (some .int) RX4 vX4_order) (hK : va_K G vwCl (mt cI cL cZ cB) s) : ∀ n : Nat, At_md_order_l2 l G cI cL cZ cB q A z p e s m args below meth c O0 mcT msT (md_order_l2 n) := by
  obtain ⟨hx, hb, hr, hml, hown, hts, hlocks⟩ := id C
  have FX : CallFix p m c cX4_order 4 s args vX4_order RX4 := ⟨hx, hb, hml, hown, hts⟩
  have hA : ∀ q9 : Nat, s.heap.size ≤ q9 → va_A (mw cI cL cZ cB q A z) s.heap.size q9 := fun q9 h => Or.inr h
  intro n
  induction n with
  | zero =>
    intro x1 x2 x3 H locs ls cells slots hP hD hS hl hf hcc hss
    exact nomatch (show none = some _ from hf)
  | succ n ih =>
    intro x1 x2 x3 H locs ls cells slots hP hD hS hl hf hcc hss
    rw [md_order_l2] at hf
    refine lv_iload_n hx hb dX4_order_2 rfl (lv_at hl 3 rfl) ?_
    refine lv_aload_n hx hb dX4_order_3 rfl (lv_at hl 0 rfl) ?_
    refine lv_iload_n hx hb dX4_order_4 rfl (lv_at hl 1 rfl) ?_
    obtain ⟨r1, ho1, hf⟩ := of_b0 hf
    refine gcRi (gV FX [.int x1] (c_md_bytesOf l G cI cL cZ cB q A z _ x1 _ ho1) (cwV 1 hts (gi_V wm_106 wm_107 wm_108 wm_6 wm_109) rfl rfl rfl hdV_X4_bytesOf ⟨Nat.le_of_ble_eq_true rfl, Nat.le_of_ble_eq_true rfl⟩) hK hP hD 0 rfl rfl rfl hl.1 (Nat.le_of_ble_eq_true rfl) dX4_order_5 ⟨by show _ ≤ mcT; omega, by show _ ≤ msT; omega⟩) hS hD hA (fun H locs hP hS => ?_)
    refine lv_icmp_ge (tgt := 62) hx hb dX4_order_8 (by decide) (fun c2 => ?_) (fun c2 => ?_)
    · have hf := (if_pos c2).symm.trans hf
      exact L_md_order_j62 _ _ _ _ _ _ _ _ _ _ _ _ _ _ _ _ _ _ _ _ C hK _ _ _ _ _ _ _ hP hD hS (lv_sub hl [0, 1, 2] rfl) hf (by omega) (by omega)
    · have hf := (if_neg c2).symm.trans hf
      refine lv_iload_n hx hb dX4_order_11 rfl (lv_at hl 3 rfl) ?_
      refine lv_aload_n hx hb dX4_order_12 rfl (lv_at hl 0 rfl) ?_
      refine lv_iload_n hx hb dX4_order_13 rfl (lv_at hl 2 rfl) ?_
      obtain ⟨r3, ho3, hf⟩ := of_b0 hf
      refine gcRi (gV FX [.int x2] (c_md_bytesOf l G cI cL cZ cB q A z _ x2 _ ho3) (cwV 1 hts (gi_V wm_106 wm_107 wm_108 wm_6 wm_109) rfl rfl rfl hdV_X4_bytesOf ⟨Nat.le_of_ble_eq_true rfl, Nat.le_of_ble_eq_true rfl⟩) hK hP hD 0 rfl rfl rfl hl.1 (Nat.le_of_ble_eq_true rfl) dX4_order_14 ⟨by show _ ≤ mcT; omega, by show _ ≤ msT; omega⟩) hS hD hA (fun H locs hP hS => ?_)
      refine lv_icmp_ge (tgt := 62) hx hb dX4_order_17 (by decide) (fun c4 => ?_) (fun c4 => ?_)
      · have hf := (if_pos c4).symm.trans hf
        exact L_md_order_j62 _ _ _ _ _ _ _ _ _ _ _ _ _ _ _ _ _ _ _ _ C hK _ _ _ _ _ _ _ hP hD hS (lv_sub hl [0, 1, 2] rfl) hf (by omega) (by omega)
      · have hf := (if_neg c4).symm.trans hf
        refine lv_aload_n hx hb dX4_order_20 rfl (lv_at hl 0 rfl) ?_
        refine lv_iload_n hx hb dX4_order_21 rfl (lv_at hl 1 rfl) ?_
        refine lv_iload_n hx hb dX4_order_22 rfl (lv_at hl 3 rfl) ?_
        obtain ⟨r5, ho5, hf⟩ := of_b0 hf
        refine gcRi (gV FX [.int x1, .int x3] (c_md_byteOf l G cI cL cZ cB q A z _ x1 x3 _ ho5) (cwV 2 hts (gi_V wm_114 wm_115 wm_116 wm_6 wm_117) rfl rfl rfl hdV_X4_byteOf ⟨Nat.le_of_ble_eq_true rfl, Nat.le_of_ble_eq_true rfl⟩) hK hP hD 0 rfl rfl rfl hl.1 (Nat.le_of_ble_eq_true rfl) dX4_order_23 ⟨by show _ ≤ mcT; omega, by show _ ≤ msT; omega⟩) hS hD hA (fun H locs hP hS => ?_)
        refine lv_aload_n hx hb dX4_order_26 rfl (lv_at hl 0 rfl) ?_
        refine lv_iload_n hx hb dX4_order_27 rfl (lv_at hl 2 rfl) ?_
        refine lv_iload_n hx hb dX4_order_28 rfl (lv_at hl 3 rfl) ?_
        obtain ⟨r6, ho6, hf⟩ := of_b0 hf
        refine gcRi (gV FX [.int x2, .int x3] (c_md_byteOf l G cI cL cZ cB q A z _ x2 x3 _ ho6) (cwV 2 hts (gi_V wm_114 wm_115 wm_116 wm_6 wm_117) rfl rfl rfl hdV_X4_byteOf ⟨Nat.le_of_ble_eq_true rfl, Nat.le_of_ble_eq_true rfl⟩) hK hP hD 0 rfl rfl rfl hl.1 (Nat.le_of_ble_eq_true rfl) dX4_order_29 ⟨by show _ ≤ mcT; omega, by show _ ≤ msT; omega⟩) hS hD hA (fun H locs hP hS => ?_)
        refine lv_icmp_eq (tgt := 56) hx hb dX4_order_32 (by decide) (fun c7 => ?_) (fun c7 => ?_)
        · have hf := (if_pos c7).symm.trans hf
          refine lv_iinc (v := (x3 + 1)) (lv' := [(3, .int (x3 + 1)), (0, .ref q), (1, .int x1), (2, .int x2)]) hx hb dX4_order_56 hl (k := 3) rfl rfl (by decide) rfl (fun ls hl => ?_)
          refine lv_goto (tgt := 2) hx hb dX4_order_59 (by decide) ?_
          exact ih _ _ _ _ _ _ _ _ hP hD hS (lv_sub hl [1, 2, 3, 0] rfl) hf (by omega) (by omega)
        · have hf := (if_neg c7).symm.trans hf
          refine lv_aload_n hx hb dX4_order_35 rfl (lv_at hl 0 rfl) ?_
          refine lv_iload_n hx hb dX4_order_36 rfl (lv_at hl 1 rfl) ?_
          refine lv_iload_n hx hb dX4_order_37 rfl (lv_at hl 3 rfl) ?_
          obtain ⟨r8, ho8, hf⟩ := of_b0 hf
          refine gcRi (gV FX [.int x1, .int x3] (c_md_byteOf l G cI cL cZ cB q A z _ x1 x3 _ ho8) (cwV 2 hts (gi_V wm_114 wm_115 wm_116 wm_6 wm_117) rfl rfl rfl hdV_X4_byteOf ⟨Nat.le_of_ble_eq_true rfl, Nat.le_of_ble_eq_true rfl⟩) hK hP hD 0 rfl rfl rfl hl.1 (Nat.le_of_ble_eq_true rfl) dX4_order_38 ⟨by show _ ≤ mcT; omega, by show _ ≤ msT; omega⟩) hS hD hA (fun H locs hP hS => ?_)
          refine lv_aload_n hx hb dX4_order_41 rfl (lv_at hl 0 rfl) ?_
          refine lv_iload_n hx hb dX4_order_42 rfl (lv_at hl 2 rfl) ?_
          refine lv_iload_n hx hb dX4_order_43 rfl (lv_at hl 3 rfl) ?_
          obtain ⟨r9, ho9, hf⟩ := of_b0 hf
          refine gcRi (gV FX [.int x2, .int x3] (c_md_byteOf l G cI cL cZ cB q A z _ x2 x3 _ ho9) (cwV 2 hts (gi_V wm_114 wm_115 wm_116 wm_6 wm_117) rfl rfl rfl hdV_X4_byteOf ⟨Nat.le_of_ble_eq_true rfl, Nat.le_of_ble_eq_true rfl⟩) hK hP hD 0 rfl rfl rfl hl.1 (Nat.le_of_ble_eq_true rfl) dX4_order_44 ⟨by show _ ≤ mcT; omega, by show _ ≤ msT; omega⟩) hS hD hA (fun H locs hP hS => ?_)
          refine lv_icmp_ge (tgt := 54) hx hb dX4_order_47 (by decide) (fun c10 => ?_) (fun c10 => ?_)
          · have hf := (if_pos c10).symm.trans hf
            refine lv_iconst (v := 1) hx hb dX4_order_54 (by decide) ?_
            obtain rfl := Option.some.inj hf
            exact grRi hx hb hr hlocks hP hK hD hS dX4_order_55 (by omega) (by omega)
          · have hf := (if_neg c10).symm.trans hf
            refine lv_iconst (v := (-1)) hx hb dX4_order_50 (by decide) ?_
            refine lv_goto (tgt := 55) hx hb dX4_order_51 (by decide) ?_
            obtain rfl := Option.some.inj hf
            exact grRi hx hb hr hlocks hP hK hD hS dX4_order_55 (by omega) (by omega)
set_option maxHeartbeats 4000000 in
set_option maxRecDepth 100000 in
theorem c_md_order (l : Launch) (G : va_G) (cI cL cZ cB : ClassId) (q : Nat) (A : Nat → Nat) (z : Ms) (sz : Nat) (p0 : Int32) (p1 : Int32) (O0 : Int32) (hf : md_order z p0 p1 = some O0) : Met l yX4_order vX4_order { frames := 1, cells := 0, slots := 0, locals := 22 } (gPc G vwCl (mt cI cL cZ cB) [.ref q, .int p0, .int p1] (mw cI cL cZ cB q A z) sz) (qRi G vwCl (mt cI cL cZ cB) (mw cI cL cZ cB q A z) sz O0) 0 0 (va_A (mw cI cL cZ cB q A z) sz) := by
  refine gMet (by decide) rfl (Nat.le_of_ble_eq_true rfl) ?_
  intro p e s m below meth c ls C hK hP hD hsz hl
  subst hsz
  obtain ⟨hx, hb, hr, hml, hown, hts, hlocks⟩ := id C
  have FX : CallFix p m c cX4_order 4 s _ vX4_order RX4 := ⟨hx, hb, hml, hown, hts⟩
  have hA : ∀ q9 : Nat, s.heap.size ≤ q9 → va_A (mw cI cL cZ cB q A z) s.heap.size q9 := fun q9 h => Or.inr h
  have hS : va_S (va_A (mw cI cL cZ cB q A z) s.heap.size) s.heap s.heap [] := va_S.rf
  have hl : lv_has ls 4 [(0, .ref q), (1, .int p0), (2, .int p1)] := hl
  unfold md_order at hf
  refine lv_iconst (v := 0) hx hb dX4_order_0 (by decide) ?_
  refine lv_istore_n (lv' := [(3, .int 0), (0, .ref q), (1, .int p0), (2, .int p1)]) hx hb dX4_order_1 rfl hl (by decide) rfl (fun ls hl => ?_)
  exact L_md_order_l2 _ _ _ _ _ _ _ _ _ _ _ _ _ _ _ _ _ _ _ _ C hK FU _ _ _ _ _ _ _ _ hP hD hS (lv_sub hl [1, 2, 3, 0] rfl) hf (by omega) (by omega)
