def At_md_moveEntry_l26 (l : Launch) (G : va_G) (cI cL cZ cB : ClassId) (q : Nat) (w : va_W) (p : Program) (e : Env) (s : State) (m : MethodId) (args : Array Value) (below : List Frame) (meth : Method) (c : Code) (O0 : Ms × Unit) (mcT msT : Nat) (F : Int32 → Int32 → Int32 → Ms → Option (Ms × Unit)) : Prop := ∀ (A : Nat → Nat) (z : Ms) (x1 : Int32) (x2 : Int32) (x3 : Int32) (H : Heap) (locs : List Loc) (ls : Array Slot) (cells slots : Nat), va_P G vwCl (mw cI cL cZ cB q A z) H → va_D (va_A w s.heap.size) (mw cI cL cZ cB q A z) → va_S (va_A w s.heap.size) s.heap H locs → lv_has ls 4 [(0, .ref q), (1, .int x1), (2, .int x2), (3, .int x3)] → F x1 x2 x3 z = some O0 → cells + 0 ≤ mcT → slots + 0 ≤ msT → W p l e { frames := 0, cells := mcT, slots := msT, locals := 0 } s m args below meth c H locs cells slots (MQ below (qWv G vwCl (mt cI cL cZ cB) w s.heap.size (mw cI cL cZ cB q) O0) args s mcT msT (va_A w s.heap.size)) (F0 m 26 ls [])
set_option maxHeartbeats 4000000 in
set_option maxRecDepth 100000 in
theorem L_md_moveEntry_l26 (l : Launch) (G : va_G) (cI cL cZ cB : ClassId) (q : Nat) (w : va_W) (p : Program) (e : Env) (s : State) (m : MethodId) (args : Array Value) (below : List Frame) (meth : Method) (c : Code) (O0 : Ms × Unit) (mcT msT : Nat) (C : MC p s m args meth c cX4_moveEntry 4 (none) RX4 vX4_moveEntry) (hK : va_K G vwCl (mt cI cL cZ cB) s) : ∀ n : Nat, At_md_moveEntry_l26 l G cI cL cZ cB q w p e s m args below meth c O0 mcT msT (md_moveEntry_l26 n) := by
  obtain ⟨hx, hb, hr, hml, hown, hts, hlocks⟩ := id C
  have FX : CallFix p m c cX4_moveEntry 4 s args vX4_moveEntry RX4 := ⟨hx, hb, hml, hown, hts⟩
  have hA : ∀ q9 : Nat, s.heap.size ≤ q9 → va_A w s.heap.size q9 := fun q9 h => Or.inr h
  intro n
  induction n with
  | zero =>
    intro A z x1 x2 x3 H locs ls cells slots hP hD hS hl hf hcc hss
    exact nomatch (show none = some _ from hf)
  | succ n ih =>
    intro A z x1 x2 x3 H locs ls cells slots hP hD hS hl hf hcc hss
    rw [md_moveEntry_l26] at hf
    refine lv_iload_n hx hb dX4_moveEntry_26 rfl (lv_at hl 3 rfl) ?_
    refine lv_bipush (v := 8) hx hb dX4_moveEntry_27 (by decide) ?_
    refine lv_icmp_ge (tgt := 82) hx hb dX4_moveEntry_29 (by decide) (fun c5 => ?_) (fun c5 => ?_)
    · have hf := (if_pos c5).symm.trans hf
      obtain rfl := Option.some.inj hf
      exact grWv hx hb hr hlocks hP hK hD hS dX4_moveEntry_82 (by omega) (by omega)
    · have hf := (if_neg c5).symm.trans hf
      refine lv_aload_n hx hb dX4_moveEntry_32 rfl (lv_at hl 0 rfl) ?_
      refine va_get (D := G) (ci := 4) (v := .ref (A 20)) (C := RX4) (T := TX4) (N := 32) hx hb hts (fun w h => .tail _ (wl_X4 w h)) hown hK hP 0 rfl rfl 29 (by decide) (hts _ (.tail _ wm_28)) (fun _ h9 => h9) rfl dX4_moveEntry_33 ?_
      refine lv_bipush (v := 8) hx hb dX4_moveEntry_36 (by decide) ?_
      refine lv_iload_n hx hb dX4_moveEntry_38 rfl (lv_at hl 2 rfl) ?_
      refine lv_imul hx hb dX4_moveEntry_39 ?_
      refine lv_iload_n hx hb dX4_moveEntry_40 rfl (lv_at hl 3 rfl) ?_
      refine lv_iadd hx hb dX4_moveEntry_41 ?_
      refine lv_aload_n hx hb dX4_moveEntry_42 rfl (lv_at hl 0 rfl) ?_
      refine va_get (D := G) (ci := 4) (v := .ref (A 20)) (C := RX4) (T := TX4) (N := 32) hx hb hts (fun w h => .tail _ (wl_X4 w h)) hown hK hP 0 rfl rfl 29 (by decide) (hts _ (.tail _ wm_28)) (fun _ h9 => h9) rfl dX4_moveEntry_43 ?_
      refine lv_bipush (v := 8) hx hb dX4_moveEntry_46 (by decide) ?_
      refine lv_iload_n hx hb dX4_moveEntry_48 rfl (lv_at hl 1 rfl) ?_
      refine lv_imul hx hb dX4_moveEntry_49 ?_
      refine lv_iload_n hx hb dX4_moveEntry_50 rfl (lv_at hl 3 rfl) ?_
      refine lv_iadd hx hb dX4_moveEntry_51 ?_
      obtain ⟨hg6, hf⟩ := of_gd hf
      refine va_iald (f := (Ms.aet z)) (n := (Ms.net z)) hx hb hK hP 20 0 rfl rfl (inb_in hg6) dX4_moveEntry_52 ?_
      obtain ⟨hg7, hf⟩ := of_gd hf
      refine va_iast (f := (Ms.aet z)) (n := (Ms.net z)) hx hb hK hP hD hS 20 0 rfl rfl (inb_in hg7) dX4_moveEntry_53 (fun H locs hP hD hS => ?_)
      have hP : va_P G vwCl (mw cI cL cZ cB q A (Ms.wet z (upd (Ms.aet z) (((8 * x2) + x3).toNatClampNeg) ((Ms.aet z) ((8 * x1) + x3).toNatClampNeg)))) H := hP
      have hD : va_D _ (mw cI cL cZ cB q A (Ms.wet z (upd (Ms.aet z) (((8 * x2) + x3).toNatClampNeg) ((Ms.aet z) ((8 * x1) + x3).toNatClampNeg)))) := hD
      refine lv_aload_n hx hb dX4_moveEntry_54 rfl (lv_at hl 0 rfl) ?_
      refine va_get (D := G) (ci := 4) (v := .ref (A 21)) (C := RX4) (T := TX4) (N := 32) hx hb hts (fun w h => .tail _ (wl_X4 w h)) hown hK hP 0 rfl rfl 30 (by decide) (hts _ (.tail _ wm_30)) (fun _ h9 => h9) rfl dX4_moveEntry_55 ?_
      refine lv_bipush (v := 8) hx hb dX4_moveEntry_58 (by decide) ?_
      refine lv_iload_n hx hb dX4_moveEntry_60 rfl (lv_at hl 2 rfl) ?_
      refine lv_imul hx hb dX4_moveEntry_61 ?_
      refine lv_iload_n hx hb dX4_moveEntry_62 rfl (lv_at hl 3 rfl) ?_
      refine lv_iadd hx hb dX4_moveEntry_63 ?_
      refine lv_aload_n hx hb dX4_moveEntry_64 rfl (lv_at hl 0 rfl) ?_
      refine va_get (D := G) (ci := 4) (v := .ref (A 21)) (C := RX4) (T := TX4) (N := 32) hx hb hts (fun w h => .tail _ (wl_X4 w h)) hown hK hP 0 rfl rfl 30 (by decide) (hts _ (.tail _ wm_30)) (fun _ h9 => h9) rfl dX4_moveEntry_65 ?_
      refine lv_bipush (v := 8) hx hb dX4_moveEntry_68 (by decide) ?_
      refine lv_iload_n hx hb dX4_moveEntry_70 rfl (lv_at hl 1 rfl) ?_
      refine lv_imul hx hb dX4_moveEntry_71 ?_
      refine lv_iload_n hx hb dX4_moveEntry_72 rfl (lv_at hl 3 rfl) ?_
      refine lv_iadd hx hb dX4_moveEntry_73 ?_
      obtain ⟨hg8, hf⟩ := of_gd hf
      refine va_lald (f := (Ms.aev z)) (n := (Ms.nev z)) hx hb hK hP 21 1 rfl rfl (inb_in hg8) dX4_moveEntry_74 ?_
      obtain ⟨hg9, hf⟩ := of_gd hf
      refine va_last (f := (Ms.aev z)) (n := (Ms.nev z)) hx hb hK hP hD hS 21 1 rfl rfl (inb_in hg9) dX4_moveEntry_75 (fun H locs hP hD hS => ?_)
      have hP : va_P G vwCl (mw cI cL cZ cB q A (Ms.wev (Ms.wet z (upd (Ms.aet z) (((8 * x2) + x3).toNatClampNeg) ((Ms.aet z) ((8 * x1) + x3).toNatClampNeg))) (vp_updL (Ms.aev z) (((8 * x2) + x3).toNatClampNeg) ((Ms.aev z) ((8 * x1) + x3).toNatClampNeg)))) H := hP
      have hD : va_D _ (mw cI cL cZ cB q A (Ms.wev (Ms.wet z (upd (Ms.aet z) (((8 * x2) + x3).toNatClampNeg) ((Ms.aet z) ((8 * x1) + x3).toNatClampNeg))) (vp_updL (Ms.aev z) (((8 * x2) + x3).toNatClampNeg) ((Ms.aev z) ((8 * x1) + x3).toNatClampNeg)))) := hD
      refine lv_iinc (v := (x3 + 1)) (lv' := [(3, .int (x3 + 1)), (0, .ref q), (1, .int x1), (2, .int x2)]) hx hb dX4_moveEntry_76 hl (k := 3) rfl rfl (by decide) rfl (fun ls hl => ?_)
      refine lv_goto (tgt := 26) hx hb dX4_moveEntry_79 (by decide) ?_
      exact ih _ _ _ _ _ _ _ _ _ _ hP hD hS (lv_sub hl [1, 2, 3, 0] rfl) hf (by omega) (by omega)
set_option maxHeartbeats 4000000 in
set_option maxRecDepth 100000 in
theorem c_md_moveEntry (l : Launch) (G : va_G) (cI cL cZ cB : ClassId) (q : Nat) (A : Nat → Nat) (z : Ms) (sz : Nat) (p0 : Int32) (p1 : Int32) (O0 : Ms × Unit) (hf : md_moveEntry z p0 p1 = some O0) : Met l yX4_moveEntry vX4_moveEntry { frames := 0, cells := 0, slots := 0, locals := 0 } (gPc G vwCl (mt cI cL cZ cB) [.ref q, .int p0, .int p1] (mw cI cL cZ cB q A z) sz) (qWv G vwCl (mt cI cL cZ cB) (mw cI cL cZ cB q A z) sz (mw cI cL cZ cB q) O0) 0 0 (va_A (mw cI cL cZ cB q A z) sz) := by
  refine gMet (by decide) rfl (Nat.le_of_ble_eq_true rfl) ?_
  intro p e s m below meth c ls C hK hP hD hsz hl
  subst hsz
  obtain ⟨hx, hb, hr, hml, hown, hts, hlocks⟩ := id C
  have FX : CallFix p m c cX4_moveEntry 4 s _ vX4_moveEntry RX4 := ⟨hx, hb, hml, hown, hts⟩
  have hA : ∀ q9 : Nat, s.heap.size ≤ q9 → va_A (mw cI cL cZ cB q A z) s.heap.size q9 := fun q9 h => Or.inr h
  have hS : va_S (va_A (mw cI cL cZ cB q A z) s.heap.size) s.heap s.heap [] := va_S.rf
  have hl : lv_has ls 4 [(0, .ref q), (1, .int p0), (2, .int p1)] := hl
  unfold md_moveEntry at hf
  refine lv_aload_n hx hb dX4_moveEntry_0 rfl (lv_at hl 0 rfl) ?_
  refine va_get (D := G) (ci := 4) (v := .ref (A 18)) (C := RX4) (T := TX4) (N := 32) hx hb hts (fun w h => .tail _ (wl_X4 w h)) hown hK hP 0 rfl rfl 27 (by decide) (hts _ (.tail _ wm_25)) (fun _ h9 => h9) rfl dX4_moveEntry_1 ?_
  refine lv_iload_n hx hb dX4_moveEntry_4 rfl (lv_at hl 2 rfl) ?_
  refine lv_aload_n hx hb dX4_moveEntry_5 rfl (lv_at hl 0 rfl) ?_
  refine va_get (D := G) (ci := 4) (v := .ref (A 18)) (C := RX4) (T := TX4) (N := 32) hx hb hts (fun w h => .tail _ (wl_X4 w h)) hown hK hP 0 rfl rfl 27 (by decide) (hts _ (.tail _ wm_25)) (fun _ h9 => h9) rfl dX4_moveEntry_6 ?_
  refine lv_iload_n hx hb dX4_moveEntry_9 rfl (lv_at hl 1 rfl) ?_
  obtain ⟨hg1, hf⟩ := of_gd hf
  refine va_iald (f := (Ms.aem z)) (n := (Ms.nem z)) hx hb hK hP 18 0 rfl rfl (inb_in hg1) dX4_moveEntry_10 ?_
  obtain ⟨hg2, hf⟩ := of_gd hf
  refine va_iast (f := (Ms.aem z)) (n := (Ms.nem z)) hx hb hK hP hD hS 18 0 rfl rfl (inb_in hg2) dX4_moveEntry_11 (fun H locs hP hD hS => ?_)
  have hP : va_P G vwCl (mw cI cL cZ cB q A (Ms.wem z (upd (Ms.aem z) (p1.toNatClampNeg) ((Ms.aem z) p0.toNatClampNeg)))) H := hP
  have hD : va_D _ (mw cI cL cZ cB q A (Ms.wem z (upd (Ms.aem z) (p1.toNatClampNeg) ((Ms.aem z) p0.toNatClampNeg)))) := hD
  refine lv_aload_n hx hb dX4_moveEntry_12 rfl (lv_at hl 0 rfl) ?_
  refine va_get (D := G) (ci := 4) (v := .ref (A 19)) (C := RX4) (T := TX4) (N := 32) hx hb hts (fun w h => .tail _ (wl_X4 w h)) hown hK hP 0 rfl rfl 28 (by decide) (hts _ (.tail _ wm_29)) (fun _ h9 => h9) rfl dX4_moveEntry_13 ?_
  refine lv_iload_n hx hb dX4_moveEntry_16 rfl (lv_at hl 2 rfl) ?_
  refine lv_aload_n hx hb dX4_moveEntry_17 rfl (lv_at hl 0 rfl) ?_
  refine va_get (D := G) (ci := 4) (v := .ref (A 19)) (C := RX4) (T := TX4) (N := 32) hx hb hts (fun w h => .tail _ (wl_X4 w h)) hown hK hP 0 rfl rfl 28 (by decide) (hts _ (.tail _ wm_29)) (fun _ h9 => h9) rfl dX4_moveEntry_18 ?_
  refine lv_iload_n hx hb dX4_moveEntry_21 rfl (lv_at hl 1 rfl) ?_
  obtain ⟨hg3, hf⟩ := of_gd hf
  refine va_iald (f := (Ms.aeo z)) (n := (Ms.neo z)) hx hb hK hP 19 0 rfl rfl (inb_in hg3) dX4_moveEntry_22 ?_
  obtain ⟨hg4, hf⟩ := of_gd hf
  refine va_iast (f := (Ms.aeo z)) (n := (Ms.neo z)) hx hb hK hP hD hS 19 0 rfl rfl (inb_in hg4) dX4_moveEntry_23 (fun H locs hP hD hS => ?_)
  have hP : va_P G vwCl (mw cI cL cZ cB q A (Ms.weo (Ms.wem z (upd (Ms.aem z) (p1.toNatClampNeg) ((Ms.aem z) p0.toNatClampNeg))) (upd (Ms.aeo z) (p1.toNatClampNeg) ((Ms.aeo z) p0.toNatClampNeg)))) H := hP
  have hD : va_D _ (mw cI cL cZ cB q A (Ms.weo (Ms.wem z (upd (Ms.aem z) (p1.toNatClampNeg) ((Ms.aem z) p0.toNatClampNeg))) (upd (Ms.aeo z) (p1.toNatClampNeg) ((Ms.aeo z) p0.toNatClampNeg)))) := hD
  refine lv_iconst (v := 0) hx hb dX4_moveEntry_24 (by decide) ?_
  refine lv_istore_n (lv' := [(3, .int 0), (0, .ref q), (1, .int p0), (2, .int p1)]) hx hb dX4_moveEntry_25 rfl hl (by decide) rfl (fun ls hl => ?_)
  exact L_md_moveEntry_l26 _ _ _ _ _ _ _ _ _ _ _ _ _ _ _ _ _ _ _ C hK FU _ _ _ _ _ _ _ _ _ _ hP hD hS (lv_sub hl [1, 2, 3, 0] rfl) hf (by omega) (by omega)
def At_md_push_l173 (l : Launch) (G : va_G) (cI cL cZ cB : ClassId) (q : Nat) (w : va_W) (p : Program) (e : Env) (s : State) (m : MethodId) (args : Array Value) (below : List Frame) (meth : Method) (c : Code) (O0 : Ms × Unit) (mcT msT : Nat) (F : Int32 → Int32 → Ms → Option (Ms × Unit)) : Prop := ∀ (A : Nat → Nat) (z : Ms) (x3 : Int32) (x4 : Int32) (H : Heap) (locs : List Loc) (ls : Array Slot) (cells slots : Nat), va_P G vwCl (mw cI cL cZ cB q A z) H → va_D (va_A w s.heap.size) (mw cI cL cZ cB q A z) → va_S (va_A w s.heap.size) s.heap H locs → lv_has ls 6 [(0, .ref q), (3, .int x3), (4, .int x4)] → F x3 x4 z = some O0 → cells + 0 ≤ mcT → slots + 0 ≤ msT → W p l e { frames := 1, cells := mcT, slots := msT, locals := 23 } s m args below meth c H locs cells slots (MQ below (qWv G vwCl (mt cI cL cZ cB) w s.heap.size (mw cI cL cZ cB q) O0) args s mcT msT (va_A w s.heap.size)) (F0 m 173 ls [])
def At_md_push_l68 (l : Launch) (G : va_G) (cI cL cZ cB : ClassId) (q : Nat) (w : va_W) (p : Program) (e : Env) (s : State) (m : MethodId) (args : Array Value) (below : List Frame) (meth : Method) (c : Code) (O0 : Ms × Unit) (mcT msT : Nat) (F : Int32 → Int32 → Int32 → Int32 → Int32 → Ms → Option (Ms × Unit)) : Prop := ∀ (A : Nat → Nat) (z : Ms) (x1 : Int32) (x2 : Int32) (x3 : Int32) (x4 : Int32) (x5 : Int32) (H : Heap) (locs : List Loc) (ls : Array Slot) (cells slots : Nat), va_P G vwCl (mw cI cL cZ cB q A z) H → va_D (va_A w s.heap.size) (mw cI cL cZ cB q A z) → va_S (va_A w s.heap.size) s.heap H locs → lv_has ls 6 [(0, .ref q), (1, .int x1), (2, .int x2), (3, .int x3), (4, .int x4), (5, .int x5)] → F x1 x2 x3 x4 x5 z = some O0 → cells + 0 ≤ mcT → slots + 0 ≤ msT → W p l e { frames := 1, cells := mcT, slots := msT, locals := 23 } s m args below meth c H locs cells slots (MQ below (qWv G vwCl (mt cI cL cZ cB) w s.heap.size (mw cI cL cZ cB q) O0) args s mcT msT (va_A w s.heap.size)) (F0 m 68 ls [])
def At_md_push_l6 (l : Launch) (G : va_G) (cI cL cZ cB : ClassId) (q : Nat) (w : va_W) (p : Program) (e : Env) (s : State) (m : MethodId) (args : Array Value) (below : List Frame) (meth : Method) (c : Code) (O0 : Ms × Unit) (mcT msT : Nat) (F : Int32 → Int32 → Int32 → Ms → Option (Ms × Unit)) : Prop := ∀ (A : Nat → Nat) (z : Ms) (x1 : Int32) (x2 : Int32) (x3 : Int32) (H : Heap) (locs : List Loc) (ls : Array Slot) (cells slots : Nat), va_P G vwCl (mw cI cL cZ cB q A z) H → va_D (va_A w s.heap.size) (mw cI cL cZ cB q A z) → va_S (va_A w s.heap.size) s.heap H locs → lv_has ls 6 [(0, .ref q), (1, .int x1), (2, .int x2), (3, .int x3)] → F x1 x2 x3 z = some O0 → cells + 0 ≤ mcT → slots + 0 ≤ msT → W p l e { frames := 1, cells := mcT, slots := msT, locals := 23 } s m args below meth c H locs cells slots (MQ below (qWv G vwCl (mt cI cL cZ cB) w s.heap.size (mw cI cL cZ cB q) O0) args s mcT msT (va_A w s.heap.size)) (F0 m 6 ls [])
set_option maxHeartbeats 4000000 in
set_option maxRecDepth 100000 in
theorem L_md_push_l173 (l : Launch) (G : va_G) (cI cL cZ cB : ClassId) (q : Nat) (w : va_W) (p : Program) (e : Env) (s : State) (m : MethodId) (args : Array Value) (below : List Frame) (meth : Method) (c : Code) (O0 : Ms × Unit) (mcT msT : Nat) (C : MC p s m args meth c cX4_push 6 (none) RX4 vX4_push) (hK : va_K G vwCl (mt cI cL cZ cB) s) : ∀ n : Nat, At_md_push_l173 l G cI cL cZ cB q w p e s m args below meth c O0 mcT msT (md_push_l173 n) := by
  obtain ⟨hx, hb, hr, hml, hown, hts, hlocks⟩ := id C
  have FX : CallFix p m c cX4_push 6 s args vX4_push RX4 := ⟨hx, hb, hml, hown, hts⟩
  have hA : ∀ q9 : Nat, s.heap.size ≤ q9 → va_A w s.heap.size q9 := fun q9 h => Or.inr h
  intro n
  induction n with
  | zero =>
    intro A z x3 x4 H locs ls cells slots hP hD hS hl hf hcc hss
    exact nomatch (show none = some _ from hf)
  | succ n ih =>
    intro A z x3 x4 H locs ls cells slots hP hD hS hl hf hcc hss
    rw [md_push_l173] at hf
    refine lv_iload hx hb dX4_push_173 (lv_at hl 2 rfl) ?_
    refine lv_aload_n hx hb dX4_push_175 rfl (lv_at hl 0 rfl) ?_
    refine va_get (D := G) (ci := 4) (v := .int (Ms.ent z)) (C := RX4) (T := TX4) (N := 32) hx hb hts (fun w h => .tail _ (wl_X4 w h)) hown hK hP 0 rfl rfl 31 (by decide) (hts _ (.tail _ wm_24)) (fun _ h9 => h9) rfl dX4_push_176 ?_
    refine lv_icmp_ge (tgt := 216) hx hb dX4_push_179 (by decide) (fun c11 => ?_) (fun c11 => ?_)
    · have hf := (if_pos c11).symm.trans hf
      refine lv_aload_n hx hb dX4_push_216 rfl (lv_at hl 0 rfl) ?_
      refine lv_iload_n hx hb dX4_push_217 rfl (lv_at hl 1 rfl) ?_
      refine va_put (D := G) (ci := 4) (v := .int x3) (ty := .int) (C := RX4) (T := TX4) (N := 32) hx hb hts (fun w h => .tail _ (wl_X4 w h)) tyX4 tyX4_ok nmX4 hown hK hP hD hS 0 rfl rfl 31 (by decide) (hts _ (.tail _ wm_24)) (fun _ h9 => h9) rfl (by decide +kernel) rfl rfl (Nat.le_of_ble_eq_true rfl) dX4_push_218 (fun H locs hP hD hS => ?_)
      have hP : va_P G vwCl (mw cI cL cZ cB q A (Ms.sent z x3)) H := hP
      have hD : va_D _ (mw cI cL cZ cB q A (Ms.sent z x3)) := hD
      obtain rfl := Option.some.inj hf
      exact grWv hx hb hr hlocks hP hK hD hS dX4_push_221 (by omega) (by omega)
    · have hf := (if_neg c11).symm.trans hf
      refine lv_aload_n hx hb dX4_push_182 rfl (lv_at hl 0 rfl) ?_
      refine va_get (D := G) (ci := 4) (v := .ref (A 12)) (C := RX4) (T := TX4) (N := 32) hx hb hts (fun w h => .tail _ (wl_X4 w h)) hown hK hP 0 rfl rfl 19 (by decide) (hts _ (.tail _ wm_33)) (fun _ h9 => h9) rfl dX4_push_183 ?_
      refine lv_aload_n hx hb dX4_push_186 rfl (lv_at hl 0 rfl) ?_
      refine va_get (D := G) (ci := 4) (v := .ref (A 18)) (C := RX4) (T := TX4) (N := 32) hx hb hts (fun w h => .tail _ (wl_X4 w h)) hown hK hP 0 rfl rfl 27 (by decide) (hts _ (.tail _ wm_25)) (fun _ h9 => h9) rfl dX4_push_187 ?_
      refine lv_iload hx hb dX4_push_190 (lv_at hl 2 rfl) ?_
      obtain ⟨hg12, hf⟩ := of_gd hf
      refine va_iald (f := (Ms.aem z)) (n := (Ms.nem z)) hx hb hK hP 18 0 rfl rfl (inb_in hg12) dX4_push_192 ?_
      obtain ⟨hg13, hf⟩ := of_gd hf
      refine va_zald (f := (Ms.ath z)) (n := (Ms.nth z)) hx hb hK hP 12 2 rfl rfl (inb_in hg13) dX4_push_193 ?_
      refine lv_if_ne (tgt := 200) hx hb dX4_push_194 (by decide) (fun c14 => ?_) (fun c14 => ?_)
      · have hf := (if_neg c14).symm.trans hf
        refine lv_aload_n hx hb dX4_push_200 rfl (lv_at hl 0 rfl) ?_
        refine lv_iload hx hb dX4_push_201 (lv_at hl 2 rfl) ?_
        refine lv_iload_n hx hb dX4_push_203 rfl (lv_at hl 1 rfl) ?_
        obtain ⟨z15, o9, ho15, hf⟩ := of_bw hf
        refine gcWv (gV FX [.int x4, .int x3] (c_md_moveEntry l G cI cL cZ cB q A z _ x4 x3 _ ho15) (cwV 2 hts (gi_V wm_34 wm_35 wm_36 wm_6 wm_37) rfl rfl rfl hdV_X4_moveEntry ⟨Nat.le_of_ble_eq_true rfl, Nat.le_of_ble_eq_true rfl⟩) hK hP hD 0 rfl rfl rfl hl.1 (Nat.le_of_ble_eq_true rfl) dX4_push_204 ⟨by show _ ≤ mcT; omega, by show _ ≤ msT; omega⟩) hS hD hA (fun A H locs hP hD hS => ?_)
        refine lv_iinc (v := (x3 + 1)) (lv' := [(3, .int (x3 + 1)), (0, .ref q), (4, .int x4)]) hx hb dX4_push_207 hl (k := 1) rfl rfl (by decide) rfl (fun ls hl => ?_)
        refine lv_iinc (v := (x4 + 1)) (lv' := [(4, .int (x4 + 1)), (3, .int (x3 + 1)), (0, .ref q)]) hx hb dX4_push_210 hl (k := 2) rfl rfl (by decide) rfl (fun ls hl => ?_)
        refine lv_goto (tgt := 173) hx hb dX4_push_213 (by decide) ?_
        exact ih _ _ _ _ _ _ _ _ _ hP hD hS (lv_sub hl [2, 1, 0] rfl) hf (by omega) (by omega)
      · have hf := (if_pos c14).symm.trans hf
        refine lv_goto (tgt := 210) hx hb dX4_push_197 (by decide) ?_
        refine lv_iinc (v := (x4 + 1)) (lv' := [(4, .int (x4 + 1)), (0, .ref q), (3, .int x3)]) hx hb dX4_push_210 hl (k := 2) rfl rfl (by decide) rfl (fun ls hl => ?_)
        refine lv_goto (tgt := 173) hx hb dX4_push_213 (by decide) ?_
        exact ih _ _ _ _ _ _ _ _ _ hP hD hS (lv_sub hl [1, 2, 0] rfl) hf (by omega) (by omega)
set_option maxHeartbeats 4000000 in
set_option maxRecDepth 100000 in
theorem L_md_push_l68 (l : Launch) (G : va_G) (cI cL cZ cB : ClassId) (q : Nat) (w : va_W) (p : Program) (e : Env) (s : State) (m : MethodId) (args : Array Value) (below : List Frame) (meth : Method) (c : Code) (O0 : Ms × Unit) (mcT msT : Nat) (C : MC p s m args meth c cX4_push 6 (none) RX4 vX4_push) (hK : va_K G vwCl (mt cI cL cZ cB) s) (K6 : Int32 → Int32 → Int32 → Ms → Option (Ms × Unit)) (hK6 : At_md_push_l6 l G cI cL cZ cB q w p e s m args below meth c O0 mcT msT K6) : ∀ n : Nat, At_md_push_l68 l G cI cL cZ cB q w p e s m args below meth c O0 mcT msT (md_push_l68 K6 n) := by
  obtain ⟨hx, hb, hr, hml, hown, hts, hlocks⟩ := id C
  have FX : CallFix p m c cX4_push 6 s args vX4_push RX4 := ⟨hx, hb, hml, hown, hts⟩
  have hA : ∀ q9 : Nat, s.heap.size ≤ q9 → va_A w s.heap.size q9 := fun q9 h => Or.inr h
  intro n
  induction n with
  | zero =>
    intro A z x1 x2 x3 x4 x5 H locs ls cells slots hP hD hS hl hf hcc hss
    exact nomatch (show none = some _ from hf)
  | succ n ih =>
    intro A z x1 x2 x3 x4 x5 H locs ls cells slots hP hD hS hl hf hcc hss
    rw [md_push_l68] at hf
    refine lv_iload hx hb dX4_push_68 (lv_at hl 5 rfl) ?_
    refine lv_aload_n hx hb dX4_push_70 rfl (lv_at hl 0 rfl) ?_
    refine va_get (D := G) (ci := 4) (v := .ref (A 4)) (C := RX4) (T := TX4) (N := 32) hx hb hts (fun w h => .tail _ (wl_X4 w h)) hown hK hP 0 rfl rfl 11 (by decide) (hts _ (.tail _ wm_17)) (fun _ h9 => h9) rfl dX4_push_71 ?_
    refine lv_iload_n hx hb dX4_push_74 rfl (lv_at hl 3 rfl) ?_
    obtain ⟨hg16, hf⟩ := of_gd hf
    refine va_iald (f := (Ms.asi z)) (n := (Ms.nsi z)) hx hb hK hP 4 0 rfl rfl (inb_in hg16) dX4_push_75 ?_
    refine lv_icmp_ge (tgt := 152) hx hb dX4_push_76 (by decide) (fun c17 => ?_) (fun c17 => ?_)
    · have hf := (if_pos c17).symm.trans hf
      refine lv_iinc (v := (x3 + 1)) (lv' := [(3, .int (x3 + 1)), (0, .ref q), (1, .int x1), (2, .int x2), (4, .int x4), (5, .int x5)]) hx hb dX4_push_152 hl (k := 3) rfl rfl (by decide) rfl (fun ls hl => ?_)
      refine lv_goto (tgt := 6) hx hb dX4_push_155 (by decide) ?_
      exact hK6 _ _ _ _ _ _ _ _ _ _ hP hD hS (lv_sub hl [1, 2, 3, 0] rfl) hf (by omega) (by omega)
    · have hf := (if_neg c17).symm.trans hf
      refine lv_aload_n hx hb dX4_push_79 rfl (lv_at hl 0 rfl) ?_
      refine va_get (D := G) (ci := 4) (v := .ref (A 3)) (C := RX4) (T := TX4) (N := 32) hx hb hts (fun w h => .tail _ (wl_X4 w h)) hown hK hP 0 rfl rfl 10 (by decide) (hts _ (.tail _ wm_2)) (fun _ h9 => h9) rfl dX4_push_80 ?_
      refine lv_iload_n hx hb dX4_push_83 rfl (lv_at hl 3 rfl) ?_
      obtain ⟨hg18, hf⟩ := of_gd hf
      refine va_iald (f := (Ms.aso z)) (n := (Ms.nso z)) hx hb hK hP 3 0 rfl rfl (inb_in hg18) dX4_push_84 ?_
      refine lv_iconst (v := 2) hx hb dX4_push_85 (by decide) ?_
      refine lv_icmp_ne (tgt := 127) hx hb dX4_push_86 (by decide) (fun c19 => ?_) (fun c19 => ?_)
      · have hf := (if_neg c19).symm.trans hf
        refine lv_aload_n hx hb dX4_push_127 rfl (lv_at hl 0 rfl) ?_
        refine va_get (D := G) (ci := 4) (v := .ref (A 17)) (C := RX4) (T := TX4) (N := 32) hx hb hts (fun w h => .tail _ (wl_X4 w h)) hown hK hP 0 rfl rfl 25 (by decide) (hts _ (.tail _ wm_38)) (fun _ h9 => h9) rfl dX4_push_128 ?_
        refine lv_iload_n hx hb dX4_push_131 rfl (lv_at hl 2 rfl) ?_
        refine lv_aload_n hx hb dX4_push_132 rfl (lv_at hl 0 rfl) ?_
        refine va_get (D := G) (ci := 4) (v := .ref (A 17)) (C := RX4) (T := TX4) (N := 32) hx hb hts (fun w h => .tail _ (wl_X4 w h)) hown hK hP 0 rfl rfl 25 (by decide) (hts _ (.tail _ wm_38)) (fun _ h9 => h9) rfl dX4_push_133 ?_
        refine lv_iload hx hb dX4_push_136 (lv_at hl 4 rfl) ?_
        refine lv_iload hx hb dX4_push_138 (lv_at hl 5 rfl) ?_
        refine lv_iadd hx hb dX4_push_140 ?_
        obtain ⟨hg20, hf⟩ := of_gd hf
        refine va_bald (f := (Ms.aby z)) (n := (Ms.nby z)) hx hb hK hP 17 3 rfl rfl (inb_in hg20) dX4_push_141 ?_
        obtain ⟨hg21, hf⟩ := of_gd hf
        refine va_bast (f := (Ms.aby z)) (n := (Ms.nby z)) hx hb hK hP hD hS 17 3 rfl rfl (inb_in hg21) dX4_push_142 (fun H locs hP hD hS => ?_)
        have hP : va_P G vwCl (mw cI cL cZ cB q A (Ms.wby z (upd (Ms.aby z) (x2.toNatClampNeg) (vp_nar .byte ((Ms.aby z) (x4 + x5).toNatClampNeg))))) H := hP
        have hD : va_D _ (mw cI cL cZ cB q A (Ms.wby z (upd (Ms.aby z) (x2.toNatClampNeg) (vp_nar .byte ((Ms.aby z) (x4 + x5).toNatClampNeg))))) := hD
        refine lv_iinc (v := (x2 + 1)) (lv' := [(2, .int (x2 + 1)), (0, .ref q), (1, .int x1), (3, .int x3), (4, .int x4), (5, .int x5)]) hx hb dX4_push_143 hl (k := 2) rfl rfl (by decide) rfl (fun ls hl => ?_)
        refine lv_iinc (v := (x5 + 1)) (lv' := [(5, .int (x5 + 1)), (2, .int (x2 + 1)), (0, .ref q), (1, .int x1), (3, .int x3), (4, .int x4)]) hx hb dX4_push_146 hl (k := 5) rfl rfl (by decide) rfl (fun ls hl => ?_)
        refine lv_goto (tgt := 68) hx hb dX4_push_149 (by decide) ?_
        exact ih _ _ _ _ _ _ _ _ _ _ _ _ hP hD hS (lv_sub hl [2, 3, 1, 4, 5, 0] rfl) hf (by omega) (by omega)
      · have hf := (if_pos c19).symm.trans hf
        refine lv_aload_n hx hb dX4_push_89 rfl (lv_at hl 0 rfl) ?_
        refine va_get (D := G) (ci := 4) (v := .ref (A 15)) (C := RX4) (T := TX4) (N := 32) hx hb hts (fun w h => .tail _ (wl_X4 w h)) hown hK hP 0 rfl rfl 22 (by decide) (hts _ (.tail _ wm_26)) (fun _ h9 => h9) rfl dX4_push_90 ?_
        refine lv_iload_n hx hb dX4_push_93 rfl (lv_at hl 1 rfl) ?_
        refine lv_aload_n hx hb dX4_push_94 rfl (lv_at hl 0 rfl) ?_
        refine va_get (D := G) (ci := 4) (v := .ref (A 15)) (C := RX4) (T := TX4) (N := 32) hx hb hts (fun w h => .tail _ (wl_X4 w h)) hown hK hP 0 rfl rfl 22 (by decide) (hts _ (.tail _ wm_26)) (fun _ h9 => h9) rfl dX4_push_95 ?_
        refine lv_iload hx hb dX4_push_98 (lv_at hl 4 rfl) ?_
        refine lv_iload hx hb dX4_push_100 (lv_at hl 5 rfl) ?_
        refine lv_iadd hx hb dX4_push_102 ?_
        obtain ⟨hg22, hf⟩ := of_gd hf
        refine va_iald (f := (Ms.awt z)) (n := (Ms.nwt z)) hx hb hK hP 15 0 rfl rfl (inb_in hg22) dX4_push_103 ?_
        obtain ⟨hg23, hf⟩ := of_gd hf
        refine va_iast (f := (Ms.awt z)) (n := (Ms.nwt z)) hx hb hK hP hD hS 15 0 rfl rfl (inb_in hg23) dX4_push_104 (fun H locs hP hD hS => ?_)
        have hP : va_P G vwCl (mw cI cL cZ cB q A (Ms.wwt z (upd (Ms.awt z) (x1.toNatClampNeg) ((Ms.awt z) (x4 + x5).toNatClampNeg)))) H := hP
        have hD : va_D _ (mw cI cL cZ cB q A (Ms.wwt z (upd (Ms.awt z) (x1.toNatClampNeg) ((Ms.awt z) (x4 + x5).toNatClampNeg)))) := hD
        refine lv_aload_n hx hb dX4_push_105 rfl (lv_at hl 0 rfl) ?_
        refine va_get (D := G) (ci := 4) (v := .ref (A 16)) (C := RX4) (T := TX4) (N := 32) hx hb hts (fun w h => .tail _ (wl_X4 w h)) hown hK hP 0 rfl rfl 23 (by decide) (hts _ (.tail _ wm_39)) (fun _ h9 => h9) rfl dX4_push_106 ?_
        refine lv_iload_n hx hb dX4_push_109 rfl (lv_at hl 1 rfl) ?_
        refine lv_aload_n hx hb dX4_push_110 rfl (lv_at hl 0 rfl) ?_
        refine va_get (D := G) (ci := 4) (v := .ref (A 16)) (C := RX4) (T := TX4) (N := 32) hx hb hts (fun w h => .tail _ (wl_X4 w h)) hown hK hP 0 rfl rfl 23 (by decide) (hts _ (.tail _ wm_39)) (fun _ h9 => h9) rfl dX4_push_111 ?_
        refine lv_iload hx hb dX4_push_114 (lv_at hl 4 rfl) ?_
        refine lv_iload hx hb dX4_push_116 (lv_at hl 5 rfl) ?_
        refine lv_iadd hx hb dX4_push_118 ?_
        obtain ⟨hg24, hf⟩ := of_gd hf
        refine va_lald (f := (Ms.awv z)) (n := (Ms.nwv z)) hx hb hK hP 16 1 rfl rfl (inb_in hg24) dX4_push_119 ?_
        obtain ⟨hg25, hf⟩ := of_gd hf
        refine va_last (f := (Ms.awv z)) (n := (Ms.nwv z)) hx hb hK hP hD hS 16 1 rfl rfl (inb_in hg25) dX4_push_120 (fun H locs hP hD hS => ?_)
        have hP : va_P G vwCl (mw cI cL cZ cB q A (Ms.wwv (Ms.wwt z (upd (Ms.awt z) (x1.toNatClampNeg) ((Ms.awt z) (x4 + x5).toNatClampNeg))) (vp_updL (Ms.awv z) (x1.toNatClampNeg) ((Ms.awv z) (x4 + x5).toNatClampNeg)))) H := hP
        have hD : va_D _ (mw cI cL cZ cB q A (Ms.wwv (Ms.wwt z (upd (Ms.awt z) (x1.toNatClampNeg) ((Ms.awt z) (x4 + x5).toNatClampNeg))) (vp_updL (Ms.awv z) (x1.toNatClampNeg) ((Ms.awv z) (x4 + x5).toNatClampNeg)))) := hD
        refine lv_iinc (v := (x1 + 1)) (lv' := [(1, .int (x1 + 1)), (0, .ref q), (2, .int x2), (3, .int x3), (4, .int x4), (5, .int x5)]) hx hb dX4_push_121 hl (k := 1) rfl rfl (by decide) rfl (fun ls hl => ?_)
        refine lv_goto (tgt := 146) hx hb dX4_push_124 (by decide) ?_
        refine lv_iinc (v := (x5 + 1)) (lv' := [(5, .int (x5 + 1)), (1, .int (x1 + 1)), (0, .ref q), (2, .int x2), (3, .int x3), (4, .int x4)]) hx hb dX4_push_146 hl (k := 5) rfl rfl (by decide) rfl (fun ls hl => ?_)
        refine lv_goto (tgt := 68) hx hb dX4_push_149 (by decide) ?_
        exact ih _ _ _ _ _ _ _ _ _ _ _ _ hP hD hS (lv_sub hl [2, 1, 3, 4, 5, 0] rfl) hf (by omega) (by omega)
set_option maxHeartbeats 4000000 in
set_option maxRecDepth 100000 in
theorem L_md_push_l6 (l : Launch) (G : va_G) (cI cL cZ cB : ClassId) (q : Nat) (w : va_W) (p : Program) (e : Env) (s : State) (m : MethodId) (args : Array Value) (below : List Frame) (meth : Method) (c : Code) (O0 : Ms × Unit) (mcT msT : Nat) (C : MC p s m args meth c cX4_push 6 (none) RX4 vX4_push) (hK : va_K G vwCl (mt cI cL cZ cB) s) : ∀ n : Nat, At_md_push_l6 l G cI cL cZ cB q w p e s m args below meth c O0 mcT msT (md_push_l6 n) := by
  obtain ⟨hx, hb, hr, hml, hown, hts, hlocks⟩ := id C
  have FX : CallFix p m c cX4_push 6 s args vX4_push RX4 := ⟨hx, hb, hml, hown, hts⟩
  have hA : ∀ q9 : Nat, s.heap.size ≤ q9 → va_A w s.heap.size q9 := fun q9 h => Or.inr h
  intro n
  induction n with
  | zero =>
    intro A z x1 x2 x3 H locs ls cells slots hP hD hS hl hf hcc hss
    exact nomatch (show none = some _ from hf)
  | succ n ih =>
    intro A z x1 x2 x3 H locs ls cells slots hP hD hS hl hf hcc hss
    rw [md_push_l6] at hf
    refine lv_iload_n hx hb dX4_push_6 rfl (lv_at hl 3 rfl) ?_
    refine lv_aload_n hx hb dX4_push_7 rfl (lv_at hl 0 rfl) ?_
    refine va_get (D := G) (ci := 4) (v := .int (Ms.mad z)) (C := RX4) (T := TX4) (N := 32) hx hb hts (fun w h => .tail _ (wl_X4 w h)) hown hK hP 0 rfl rfl 9 (by decide) (hts _ (.tail _ wm_19)) (fun _ h9 => h9) rfl dX4_push_8 ?_
    refine lv_icmp_gt (tgt := 158) hx hb dX4_push_11 (by decide) (fun c1 => ?_) (fun c1 => ?_)
    · have hf := (if_pos c1).symm.trans hf
      refine lv_aload_n hx hb dX4_push_158 rfl (lv_at hl 0 rfl) ?_
      refine lv_iload_n hx hb dX4_push_159 rfl (lv_at hl 1 rfl) ?_
      refine va_put (D := G) (ci := 4) (v := .int x1) (ty := .int) (C := RX4) (T := TX4) (N := 32) hx hb hts (fun w h => .tail _ (wl_X4 w h)) tyX4 tyX4_ok nmX4 hown hK hP hD hS 0 rfl rfl 24 (by decide) (hts _ (.tail _ wm_32)) (fun _ h9 => h9) rfl (by decide +kernel) rfl rfl (Nat.le_of_ble_eq_true rfl) dX4_push_160 (fun H locs hP hD hS => ?_)
      have hP : va_P G vwCl (mw cI cL cZ cB q A (Ms.swrd z x1)) H := hP
      have hD : va_D _ (mw cI cL cZ cB q A (Ms.swrd z x1)) := hD
      refine lv_aload_n hx hb dX4_push_163 rfl (lv_at hl 0 rfl) ?_
      refine lv_iload_n hx hb dX4_push_164 rfl (lv_at hl 2 rfl) ?_
      refine va_put (D := G) (ci := 4) (v := .int x2) (ty := .int) (C := RX4) (T := TX4) (N := 32) hx hb hts (fun w h => .tail _ (wl_X4 w h)) tyX4 tyX4_ok nmX4 hown hK hP hD hS 0 rfl rfl 26 (by decide) (hts _ (.tail _ wm_31)) (fun _ h9 => h9) rfl (by decide +kernel) rfl rfl (Nat.le_of_ble_eq_true rfl) dX4_push_165 (fun H locs hP hD hS => ?_)
      have hP : va_P G vwCl (mw cI cL cZ cB q A (Ms.sbyc (Ms.swrd z x1) x2)) H := hP
      have hD : va_D _ (mw cI cL cZ cB q A (Ms.sbyc (Ms.swrd z x1) x2)) := hD
      refine lv_iconst (v := 0) hx hb dX4_push_168 (by decide) ?_
      refine lv_istore_n (lv' := [(3, .int 0), (0, .ref q), (1, .int x1), (2, .int x2)]) hx hb dX4_push_169 rfl hl (by decide) rfl (fun ls hl => ?_)
      refine lv_iconst (v := 0) hx hb dX4_push_170 (by decide) ?_
      refine lv_istore (lv' := [(4, .int 0), (3, .int 0), (0, .ref q), (1, .int x1), (2, .int x2)]) hx hb dX4_push_171 hl (by decide) rfl (fun ls hl => ?_)
      exact L_md_push_l173 _ _ _ _ _ _ _ _ _ _ _ _ _ _ _ _ _ _ _ C hK FU _ _ _ _ _ _ _ _ _ hP hD hS (lv_sub hl [2, 1, 0] rfl) hf (by omega) (by omega)
    · have hf := (if_neg c1).symm.trans hf
      refine lv_aload_n hx hb dX4_push_14 rfl (lv_at hl 0 rfl) ?_
      refine va_get (D := G) (ci := 4) (v := .ref (A 12)) (C := RX4) (T := TX4) (N := 32) hx hb hts (fun w h => .tail _ (wl_X4 w h)) hown hK hP 0 rfl rfl 19 (by decide) (hts _ (.tail _ wm_33)) (fun _ h9 => h9) rfl dX4_push_15 ?_
      refine lv_iload_n hx hb dX4_push_18 rfl (lv_at hl 3 rfl) ?_
      obtain ⟨hg2, hf⟩ := of_gd hf
      refine va_zald (f := (Ms.ath z)) (n := (Ms.nth z)) hx hb hK hP 12 2 rfl rfl (inb_in hg2) dX4_push_19 ?_
      refine lv_if_eq (tgt := 152) hx hb dX4_push_20 (by decide) (fun c3 => ?_) (fun c3 => ?_)
      · have hf := (if_pos c3).symm.trans hf
        refine lv_iinc (v := (x3 + 1)) (lv' := [(3, .int (x3 + 1)), (0, .ref q), (1, .int x1), (2, .int x2)]) hx hb dX4_push_152 hl (k := 3) rfl rfl (by decide) rfl (fun ls hl => ?_)
        refine lv_goto (tgt := 6) hx hb dX4_push_155 (by decide) ?_
        exact ih _ _ _ _ _ _ _ _ _ _ hP hD hS (lv_sub hl [1, 2, 3, 0] rfl) hf (by omega) (by omega)
      · have hf := (if_neg c3).symm.trans hf
        refine lv_aload_n hx hb dX4_push_23 rfl (lv_at hl 0 rfl) ?_
        refine va_get (D := G) (ci := 4) (v := .ref (A 3)) (C := RX4) (T := TX4) (N := 32) hx hb hts (fun w h => .tail _ (wl_X4 w h)) hown hK hP 0 rfl rfl 10 (by decide) (hts _ (.tail _ wm_2)) (fun _ h9 => h9) rfl dX4_push_24 ?_
        refine lv_iload_n hx hb dX4_push_27 rfl (lv_at hl 3 rfl) ?_
        obtain ⟨hg4, hf⟩ := of_gd hf
        refine va_iald (f := (Ms.aso z)) (n := (Ms.nso z)) hx hb hK hP 3 0 rfl rfl (inb_in hg4) dX4_push_28 ?_
        refine lv_iconst (v := 4) hx hb dX4_push_29 (by decide) ?_
        refine lv_icmp_ne (tgt := 36) hx hb dX4_push_30 (by decide) (fun c5 => ?_) (fun c5 => ?_)
        · have hf := (if_neg c5).symm.trans hf
          refine lv_aload_n hx hb dX4_push_36 rfl (lv_at hl 0 rfl) ?_
          refine va_get (D := G) (ci := 4) (v := .ref (A 5)) (C := RX4) (T := TX4) (N := 32) hx hb hts (fun w h => .tail _ (wl_X4 w h)) hown hK hP 0 rfl rfl 12 (by decide) (hts _ (.tail _ wm_27)) (fun _ h9 => h9) rfl dX4_push_37 ?_
          refine lv_iload_n hx hb dX4_push_40 rfl (lv_at hl 3 rfl) ?_
          obtain ⟨hg6, hf⟩ := of_gd hf
          refine va_iald (f := (Ms.asr z)) (n := (Ms.nsr z)) hx hb hK hP 5 0 rfl rfl (inb_in hg6) dX4_push_41 ?_
          refine lv_istore (lv' := [(4, .int ((Ms.asr z) x3.toNatClampNeg)), (0, .ref q), (1, .int x1), (2, .int x2), (3, .int x3)]) hx hb dX4_push_42 hl (by decide) rfl (fun ls hl => ?_)
          refine lv_aload_n hx hb dX4_push_44 rfl (lv_at hl 1 rfl) ?_
          refine va_get (D := G) (ci := 4) (v := .ref (A 5)) (C := RX4) (T := TX4) (N := 32) hx hb hts (fun w h => .tail _ (wl_X4 w h)) hown hK hP 0 rfl rfl 12 (by decide) (hts _ (.tail _ wm_27)) (fun _ h9 => h9) rfl dX4_push_45 ?_
          refine lv_iload_n hx hb dX4_push_48 rfl (lv_at hl 4 rfl) ?_
          refine lv_aload_n hx hb dX4_push_49 rfl (lv_at hl 1 rfl) ?_
          refine va_get (D := G) (ci := 4) (v := .ref (A 3)) (C := RX4) (T := TX4) (N := 32) hx hb hts (fun w h => .tail _ (wl_X4 w h)) hown hK hP 0 rfl rfl 10 (by decide) (hts _ (.tail _ wm_2)) (fun _ h9 => h9) rfl dX4_push_50 ?_
          refine lv_iload_n hx hb dX4_push_53 rfl (lv_at hl 4 rfl) ?_
          obtain ⟨hg7, hf⟩ := of_gd hf
          refine va_iald (f := (Ms.aso z)) (n := (Ms.nso z)) hx hb hK hP 3 0 rfl rfl (inb_in hg7) dX4_push_54 ?_
          refine lv_iconst (v := 2) hx hb dX4_push_55 (by decide) ?_
          refine lv_icmp_ne (tgt := 63) hx hb dX4_push_56 (by decide) (fun c8 => ?_) (fun c8 => ?_)
          · have hf := (if_neg c8).symm.trans hf
            refine lv_iload_n hx hb dX4_push_63 rfl (lv_at hl 3 rfl) ?_
            obtain ⟨hg9, hf⟩ := of_gd hf
            refine va_iast (f := (Ms.asr z)) (n := (Ms.nsr z)) hx hb hK hP hD hS 5 0 rfl rfl (inb_in hg9) dX4_push_64 (fun H locs hP hD hS => ?_)
            have hP : va_P G vwCl (mw cI cL cZ cB q A (Ms.wsr z (upd (Ms.asr z) (x3.toNatClampNeg) x2))) H := hP
            have hD : va_D _ (mw cI cL cZ cB q A (Ms.wsr z (upd (Ms.asr z) (x3.toNatClampNeg) x2))) := hD
            refine lv_iconst (v := 0) hx hb dX4_push_65 (by decide) ?_
            refine lv_istore (lv' := [(5, .int 0), (4, .int ((Ms.asr z) x3.toNatClampNeg)), (0, .ref q), (1, .int x1), (2, .int x2), (3, .int x3)]) hx hb dX4_push_66 hl (by decide) rfl (fun ls hl => ?_)
            exact L_md_push_l68 _ _ _ _ _ _ _ _ _ _ _ _ _ _ _ _ _ _ _ C hK _ ih FU _ _ _ _ _ _ _ _ _ _ _ _ hP hD hS (lv_sub hl [2, 3, 4, 5, 1, 0] rfl) hf (by omega) (by omega)
          · have hf := (if_pos c8).symm.trans hf
            refine lv_iload_n hx hb dX4_push_59 rfl (lv_at hl 2 rfl) ?_
            refine lv_goto (tgt := 64) hx hb dX4_push_60 (by decide) ?_
            obtain ⟨hg10, hf⟩ := of_gd hf
            refine va_iast (f := (Ms.asr z)) (n := (Ms.nsr z)) hx hb hK hP hD hS 5 0 rfl rfl (inb_in hg10) dX4_push_64 (fun H locs hP hD hS => ?_)
            have hP : va_P G vwCl (mw cI cL cZ cB q A (Ms.wsr z (upd (Ms.asr z) (x3.toNatClampNeg) x1))) H := hP
            have hD : va_D _ (mw cI cL cZ cB q A (Ms.wsr z (upd (Ms.asr z) (x3.toNatClampNeg) x1))) := hD
            refine lv_iconst (v := 0) hx hb dX4_push_65 (by decide) ?_
            refine lv_istore (lv' := [(5, .int 0), (4, .int ((Ms.asr z) x3.toNatClampNeg)), (0, .ref q), (1, .int x1), (2, .int x2), (3, .int x3)]) hx hb dX4_push_66 hl (by decide) rfl (fun ls hl => ?_)
            exact L_md_push_l68 _ _ _ _ _ _ _ _ _ _ _ _ _ _ _ _ _ _ _ C hK _ ih FU _ _ _ _ _ _ _ _ _ _ _ _ hP hD hS (lv_sub hl [2, 3, 4, 5, 1, 0] rfl) hf (by omega) (by omega)
        · have hf := (if_pos c5).symm.trans hf
          refine lv_goto (tgt := 152) hx hb dX4_push_33 (by decide) ?_
          refine lv_iinc (v := (x3 + 1)) (lv' := [(3, .int (x3 + 1)), (0, .ref q), (1, .int x1), (2, .int x2)]) hx hb dX4_push_152 hl (k := 3) rfl rfl (by decide) rfl (fun ls hl => ?_)
          refine lv_goto (tgt := 6) hx hb dX4_push_155 (by decide) ?_
          exact ih _ _ _ _ _ _ _ _ _ _ hP hD hS (lv_sub hl [1, 2, 3, 0] rfl) hf (by omega) (by omega)
set_option maxHeartbeats 4000000 in
set_option maxRecDepth 100000 in
theorem c_md_push (l : Launch) (G : va_G) (cI cL cZ cB : ClassId) (q : Nat) (A : Nat → Nat) (z : Ms) (sz : Nat) (O0 : Ms × Unit) (hf : md_push z = some O0) : Met l yX4_push vX4_push { frames := 1, cells := 0, slots := 0, locals := 23 } (gPc G vwCl (mt cI cL cZ cB) [.ref q] (mw cI cL cZ cB q A z) sz) (qWv G vwCl (mt cI cL cZ cB) (mw cI cL cZ cB q A z) sz (mw cI cL cZ cB q) O0) 0 0 (va_A (mw cI cL cZ cB q A z) sz) := by
  refine gMet (by decide) rfl (Nat.le_of_ble_eq_true rfl) ?_
  intro p e s m below meth c ls C hK hP hD hsz hl
  subst hsz
  obtain ⟨hx, hb, hr, hml, hown, hts, hlocks⟩ := id C
  have FX : CallFix p m c cX4_push 6 s _ vX4_push RX4 := ⟨hx, hb, hml, hown, hts⟩
  have hA : ∀ q9 : Nat, s.heap.size ≤ q9 → va_A (mw cI cL cZ cB q A z) s.heap.size q9 := fun q9 h => Or.inr h
  have hS : va_S (va_A (mw cI cL cZ cB q A z) s.heap.size) s.heap s.heap [] := va_S.rf
  have hl : lv_has ls 6 [(0, .ref q)] := hl
  unfold md_push at hf
  refine lv_iconst (v := 0) hx hb dX4_push_0 (by decide) ?_
  refine lv_istore_n (lv' := [(1, .int 0), (0, .ref q)]) hx hb dX4_push_1 rfl hl (by decide) rfl (fun ls hl => ?_)
  refine lv_iconst (v := 0) hx hb dX4_push_2 (by decide) ?_
  refine lv_istore_n (lv' := [(2, .int 0), (1, .int 0), (0, .ref q)]) hx hb dX4_push_3 rfl hl (by decide) rfl (fun ls hl => ?_)
  refine lv_iconst (v := 1) hx hb dX4_push_4 (by decide) ?_
  refine lv_istore_n (lv' := [(3, .int 1), (2, .int 0), (1, .int 0), (0, .ref q)]) hx hb dX4_push_5 rfl hl (by decide) rfl (fun ls hl => ?_)
  exact L_md_push_l6 _ _ _ _ _ _ _ _ _ _ _ _ _ _ _ _ _ _ _ C hK FU _ _ _ _ _ _ _ _ _ _ hP hD hS (lv_sub hl [3, 2, 1, 0] rfl) hf (by omega) (by omega)
def At_md_collect_l16 (l : Launch) (G : va_G) (cI cL cZ cB : ClassId) (q : Nat) (w : va_W) (p : Program) (e : Env) (s : State) (m : MethodId) (args : Array Value) (below : List Frame) (meth : Method) (c : Code) (O0 : Ms × Int32) (mcT msT : Nat) (F : Int64 → Int32 → Ms → Option (Ms × Int32)) : Prop := ∀ (A : Nat → Nat) (z : Ms) (x1 : Int64) (x3 : Int32) (H : Heap) (locs : List Loc) (ls : Array Slot) (cells slots : Nat), va_P G vwCl (mw cI cL cZ cB q A z) H → va_D (va_A w s.heap.size) (mw cI cL cZ cB q A z) → va_S (va_A w s.heap.size) s.heap H locs → lv_has ls 4 [(0, .ref q), (1, .long x1), (3, .int x3)] → F x1 x3 z = some O0 → cells + 0 ≤ mcT → slots + 0 ≤ msT → W p l e { frames := 2, cells := mcT, slots := msT, locals := 48 } s m args below meth c H locs cells slots (MQ below (qWi G vwCl (mt cI cL cZ cB) w s.heap.size (mw cI cL cZ cB q) O0) args s mcT msT (va_A w s.heap.size)) (F0 m 16 ls [])
set_option maxHeartbeats 4000000 in
set_option maxRecDepth 100000 in
theorem L_md_collect_l16 (l : Launch) (G : va_G) (cI cL cZ cB : ClassId) (q : Nat) (w : va_W) (p : Program) (e : Env) (s : State) (m : MethodId) (args : Array Value) (below : List Frame) (meth : Method) (c : Code) (O0 : Ms × Int32) (mcT msT : Nat) (C : MC p s m args meth c cX4_collect 4 (some .int) RX4 vX4_collect) (hK : va_K G vwCl (mt cI cL cZ cB) s) : ∀ n : Nat, At_md_collect_l16 l G cI cL cZ cB q w p e s m args below meth c O0 mcT msT (md_collect_l16 n) := by
  obtain ⟨hx, hb, hr, hml, hown, hts, hlocks⟩ := id C
  have FX : CallFix p m c cX4_collect 4 s args vX4_collect RX4 := ⟨hx, hb, hml, hown, hts⟩
  have hA : ∀ q9 : Nat, s.heap.size ≤ q9 → va_A w s.heap.size q9 := fun q9 h => Or.inr h
  intro n
  induction n with
  | zero =>
    intro A z x1 x3 H locs ls cells slots hP hD hS hl hf hcc hss
    exact nomatch (show none = some _ from hf)
  | succ n ih =>
    intro A z x1 x3 H locs ls cells slots hP hD hS hl hf hcc hss
    rw [md_collect_l16] at hf
    refine lv_iload_n hx hb dX4_collect_16 rfl (lv_at hl 2 rfl) ?_
    refine lv_aload_n hx hb dX4_collect_17 rfl (lv_at hl 0 rfl) ?_
    refine va_get (D := G) (ci := 4) (v := .int (Ms.mad z)) (C := RX4) (T := TX4) (N := 32) hx hb hts (fun w h => .tail _ (wl_X4 w h)) hown hK hP 0 rfl rfl 9 (by decide) (hts _ (.tail _ wm_19)) (fun _ h9 => h9) rfl dX4_collect_18 ?_
    refine lv_icmp_gt (tgt := 63) hx hb dX4_collect_21 (by decide) (fun c2 => ?_) (fun c2 => ?_)
    · have hf := (if_pos c2).symm.trans hf
      refine lv_aload_n hx hb dX4_collect_63 rfl (lv_at hl 0 rfl) ?_
      obtain ⟨z3, o9, ho3, hf⟩ := of_bw hf
      refine gcWv (gV FX [] (c_md_push l G cI cL cZ cB q A z _  _ ho3) (cwV 0 hts (gi_V wm_48 wm_49 wm_50 wm_6 wm_51) rfl rfl rfl hdV_X4_push ⟨Nat.le_of_ble_eq_true rfl, Nat.le_of_ble_eq_true rfl⟩) hK hP hD 0 rfl rfl rfl hl.1 (Nat.le_of_ble_eq_true rfl) dX4_collect_64 ⟨by show _ ≤ mcT; omega, by show _ ≤ msT; omega⟩) hS hD hA (fun A H locs hP hD hS => ?_)
      refine lv_aload_n hx hb dX4_collect_67 rfl (lv_at hl 0 rfl) ?_
      refine lv_lconst (v := 0) hx hb dX4_collect_68 (by decide) ?_
      refine va_put (D := G) (ci := 4) (v := .long 0) (ty := .long) (C := RX4) (T := TX4) (N := 32) hx hb hts (fun w h => .tail _ (wl_X4 w h)) tyX4 tyX4_ok nmX4 hown hK hP hD hS 0 rfl rfl 5 (by decide) (hts _ (.tail _ wm_40)) (fun _ h9 => h9) rfl (by decide +kernel) rfl rfl (Nat.le_of_ble_eq_true rfl) dX4_collect_69 (fun H locs hP hD hS => ?_)
      have hP : va_P G vwCl (mw cI cL cZ cB q A (Ms.sold z3 0)) H := hP
      have hD : va_D _ (mw cI cL cZ cB q A (Ms.sold z3 0)) := hD
      refine lv_aload_n hx hb dX4_collect_72 rfl (lv_at hl 0 rfl) ?_
      refine lv_dup hx hb dX4_collect_73 rfl ?_
      refine va_get (D := G) (ci := 4) (v := .long (Ms.usd z3)) (C := RX4) (T := TX4) (N := 32) hx hb hts (fun w h => .tail _ (wl_X4 w h)) hown hK hP 0 rfl rfl 3 (by decide) (hts _ (.tail _ wm_45)) (fun _ h9 => h9) rfl dX4_collect_74 ?_
      refine lv_lload_n hx hb dX4_collect_77 rfl (lv_at hl 1 rfl) ?_
      refine lv_lsub hx hb dX4_collect_78 ?_
      refine va_put (D := G) (ci := 4) (v := .long ((Ms.usd z3) - x1)) (ty := .long) (C := RX4) (T := TX4) (N := 32) hx hb hts (fun w h => .tail _ (wl_X4 w h)) tyX4 tyX4_ok nmX4 hown hK hP hD hS 0 rfl rfl 3 (by decide) (hts _ (.tail _ wm_45)) (fun _ h9 => h9) rfl (by decide +kernel) rfl rfl (Nat.le_of_ble_eq_true rfl) dX4_collect_79 (fun H locs hP hD hS => ?_)
      have hP : va_P G vwCl (mw cI cL cZ cB q A (Ms.sold (Ms.susd z3 ((Ms.usd z3) - x1)) 0)) H := hP
      have hD : va_D _ (mw cI cL cZ cB q A (Ms.sold (Ms.susd z3 ((Ms.usd z3) - x1)) 0)) := hD
      refine lv_aload_n hx hb dX4_collect_82 rfl (lv_at hl 0 rfl) ?_
      refine lv_dup hx hb dX4_collect_83 rfl ?_
      refine va_get (D := G) (ci := 4) (v := .long (Ms.gvb z3)) (C := RX4) (T := TX4) (N := 32) hx hb hts (fun w h => .tail _ (wl_X4 w h)) hown hK hP 0 rfl rfl 4 (by decide) (hts _ (.tail _ wm_46)) (fun _ h9 => h9) rfl dX4_collect_84 ?_
      refine lv_lload_n hx hb dX4_collect_87 rfl (lv_at hl 1 rfl) ?_
      refine lv_ladd hx hb dX4_collect_88 ?_
      refine va_put (D := G) (ci := 4) (v := .long ((Ms.gvb z3) + x1)) (ty := .long) (C := RX4) (T := TX4) (N := 32) hx hb hts (fun w h => .tail _ (wl_X4 w h)) tyX4 tyX4_ok nmX4 hown hK hP hD hS 0 rfl rfl 4 (by decide) (hts _ (.tail _ wm_46)) (fun _ h9 => h9) rfl (by decide +kernel) rfl rfl (Nat.le_of_ble_eq_true rfl) dX4_collect_89 (fun H locs hP hD hS => ?_)
      have hP : va_P G vwCl (mw cI cL cZ cB q A (Ms.sold (Ms.sgvb (Ms.susd z3 ((Ms.usd z3) - x1)) ((Ms.gvb z3) + x1)) 0)) H := hP
      have hD : va_D _ (mw cI cL cZ cB q A (Ms.sold (Ms.sgvb (Ms.susd z3 ((Ms.usd z3) - x1)) ((Ms.gvb z3) + x1)) 0)) := hD
      refine lv_aload_n hx hb dX4_collect_92 rfl (lv_at hl 0 rfl) ?_
      refine lv_dup hx hb dX4_collect_93 rfl ?_
      refine va_get (D := G) (ci := 4) (v := .int (Ms.col z3)) (C := RX4) (T := TX4) (N := 32) hx hb hts (fun w h => .tail _ (wl_X4 w h)) hown hK hP 0 rfl rfl 6 (by decide) (hts _ (.tail _ wm_47)) (fun _ h9 => h9) rfl dX4_collect_94 ?_
      refine lv_iconst (v := 1) hx hb dX4_collect_97 (by decide) ?_
      refine lv_iadd hx hb dX4_collect_98 ?_
      refine va_put (D := G) (ci := 4) (v := .int ((Ms.col z3) + 1)) (ty := .int) (C := RX4) (T := TX4) (N := 32) hx hb hts (fun w h => .tail _ (wl_X4 w h)) tyX4 tyX4_ok nmX4 hown hK hP hD hS 0 rfl rfl 6 (by decide) (hts _ (.tail _ wm_47)) (fun _ h9 => h9) rfl (by decide +kernel) rfl rfl (Nat.le_of_ble_eq_true rfl) dX4_collect_99 (fun H locs hP hD hS => ?_)
      have hP : va_P G vwCl (mw cI cL cZ cB q A (Ms.scol (Ms.sold (Ms.sgvb (Ms.susd z3 ((Ms.usd z3) - x1)) ((Ms.gvb z3) + x1)) 0) ((Ms.col z3) + 1))) H := hP
      have hD : va_D _ (mw cI cL cZ cB q A (Ms.scol (Ms.sold (Ms.sgvb (Ms.susd z3 ((Ms.usd z3) - x1)) ((Ms.gvb z3) + x1)) 0) ((Ms.col z3) + 1))) := hD
      refine lv_lload_n hx hb dX4_collect_102 rfl (lv_at hl 1 rfl) ?_
      refine lv_l2i hx hb dX4_collect_103 rfl ?_
      obtain rfl := Option.some.inj hf
      exact grWi hx hb hr hlocks hP hK hD hS dX4_collect_104 (by omega) (by omega)
    · have hf := (if_neg c2).symm.trans hf
      refine lv_aload_n hx hb dX4_collect_24 rfl (lv_at hl 0 rfl) ?_
      refine va_get (D := G) (ci := 4) (v := .ref (A 12)) (C := RX4) (T := TX4) (N := 32) hx hb hts (fun w h => .tail _ (wl_X4 w h)) hown hK hP 0 rfl rfl 19 (by decide) (hts _ (.tail _ wm_33)) (fun _ h9 => h9) rfl dX4_collect_25 ?_
      refine lv_iload_n hx hb dX4_collect_28 rfl (lv_at hl 2 rfl) ?_
      obtain ⟨hg4, hf⟩ := of_gd hf
      refine va_zald (f := (Ms.ath z)) (n := (Ms.nth z)) hx hb hK hP 12 2 rfl rfl (inb_in hg4) dX4_collect_29 ?_
      refine lv_if_eq (tgt := 57) hx hb dX4_collect_30 (by decide) (fun c5 => ?_) (fun c5 => ?_)
      · have hf := (if_pos c5).symm.trans hf
        refine lv_iinc (v := (x3 + 1)) (lv' := [(3, .int (x3 + 1)), (0, .ref q), (1, .long x1)]) hx hb dX4_collect_57 hl (k := 2) rfl rfl (by decide) rfl (fun ls hl => ?_)
        refine lv_goto (tgt := 16) hx hb dX4_collect_60 (by decide) ?_
        exact ih _ _ _ _ _ _ _ _ _ hP hD hS (lv_sub hl [1, 2, 0] rfl) hf (by omega) (by omega)
      · have hf := (if_neg c5).symm.trans hf
        refine lv_aload_n hx hb dX4_collect_33 rfl (lv_at hl 0 rfl) ?_
        refine va_get (D := G) (ci := 4) (v := .ref (A 14)) (C := RX4) (T := TX4) (N := 32) hx hb hts (fun w h => .tail _ (wl_X4 w h)) hown hK hP 0 rfl rfl 21 (by decide) (hts _ (.tail _ wm_18)) (fun _ h9 => h9) rfl dX4_collect_34 ?_
        refine lv_iload_n hx hb dX4_collect_37 rfl (lv_at hl 2 rfl) ?_
        obtain ⟨hg6, hf⟩ := of_gd hf
        refine va_zald (f := (Ms.are z)) (n := (Ms.nre z)) hx hb hK hP 14 2 rfl rfl (inb_in hg6) dX4_collect_38 ?_
        refine lv_if_ne (tgt := 57) hx hb dX4_collect_39 (by decide) (fun c7 => ?_) (fun c7 => ?_)
        · have hf := (if_neg c7).symm.trans hf
          refine lv_iinc (v := (x3 + 1)) (lv' := [(3, .int (x3 + 1)), (0, .ref q), (1, .long x1)]) hx hb dX4_collect_57 hl (k := 2) rfl rfl (by decide) rfl (fun ls hl => ?_)
          refine lv_goto (tgt := 16) hx hb dX4_collect_60 (by decide) ?_
          exact ih _ _ _ _ _ _ _ _ _ hP hD hS (lv_sub hl [1, 2, 0] rfl) hf (by omega) (by omega)
        · have hf := (if_pos c7).symm.trans hf
          refine lv_lload_n hx hb dX4_collect_42 rfl (lv_at hl 1 rfl) ?_
          refine lv_aload_n hx hb dX4_collect_43 rfl (lv_at hl 0 rfl) ?_
          refine lv_iload_n hx hb dX4_collect_44 rfl (lv_at hl 2 rfl) ?_
          obtain ⟨r8, ho8, hf⟩ := of_b0 hf
          refine gcRl (gV FX [.int x3] (c_md_takes l G cI cL cZ cB q A z _ x3 _ ho8) (cwV 1 hts (gi_V wm_52 wm_53 wm_54 wm_6 wm_55) rfl rfl rfl hdV_X4_takes ⟨Nat.le_of_ble_eq_true rfl, Nat.le_of_ble_eq_true rfl⟩) hK hP hD 0 rfl rfl rfl hl.1 (Nat.le_of_ble_eq_true rfl) dX4_collect_45 ⟨by show _ ≤ mcT; omega, by show _ ≤ msT; omega⟩) hS hD hA (fun H locs hP hS => ?_)
          refine lv_ladd hx hb dX4_collect_48 ?_
          refine lv_lstore_n (lv' := [(1, .long (x1 + r8)), (0, .ref q), (3, .int x3)]) hx hb dX4_collect_49 rfl hl (by decide) rfl (fun ls hl => ?_)
          refine lv_aload_n hx hb dX4_collect_50 rfl (lv_at hl 1 rfl) ?_
          refine va_get (D := G) (ci := 4) (v := .ref (A 12)) (C := RX4) (T := TX4) (N := 32) hx hb hts (fun w h => .tail _ (wl_X4 w h)) hown hK hP 0 rfl rfl 19 (by decide) (hts _ (.tail _ wm_33)) (fun _ h9 => h9) rfl dX4_collect_51 ?_
          refine lv_iload_n hx hb dX4_collect_54 rfl (lv_at hl 2 rfl) ?_
          refine lv_iconst (v := 0) hx hb dX4_collect_55 (by decide) ?_
          obtain ⟨hg9, hf⟩ := of_gd hf
          refine va_zast (f := (Ms.ath z)) (n := (Ms.nth z)) hx hb hK hP hD hS 12 2 rfl rfl (inb_in hg9) dX4_collect_56 (fun H locs hP hD hS => ?_)
          have hP : va_P G vwCl (mw cI cL cZ cB q A (Ms.wth z (upd (Ms.ath z) (x3.toNatClampNeg) (vp_nar .boolean 0)))) H := hP
          have hD : va_D _ (mw cI cL cZ cB q A (Ms.wth z (upd (Ms.ath z) (x3.toNatClampNeg) (vp_nar .boolean 0)))) := hD
          refine lv_iinc (v := (x3 + 1)) (lv' := [(3, .int (x3 + 1)), (1, .long (x1 + r8)), (0, .ref q)]) hx hb dX4_collect_57 hl (k := 2) rfl rfl (by decide) rfl (fun ls hl => ?_)
          refine lv_goto (tgt := 16) hx hb dX4_collect_60 (by decide) ?_
          exact ih _ _ _ _ _ _ _ _ _ hP hD hS (lv_sub hl [2, 1, 0] rfl) hf (by omega) (by omega)
set_option maxHeartbeats 4000000 in
set_option maxRecDepth 100000 in
theorem c_md_collect (l : Launch) (G : va_G) (cI cL cZ cB : ClassId) (q : Nat) (A : Nat → Nat) (z : Ms) (sz : Nat) (O0 : Ms × Int32) (hf : md_collect z = some O0) : Met l yX4_collect vX4_collect { frames := 2, cells := 0, slots := 0, locals := 48 } (gPc G vwCl (mt cI cL cZ cB) [.ref q] (mw cI cL cZ cB q A z) sz) (qWi G vwCl (mt cI cL cZ cB) (mw cI cL cZ cB q A z) sz (mw cI cL cZ cB q) O0) 0 0 (va_A (mw cI cL cZ cB q A z) sz) := by
  refine gMet (by decide) rfl (Nat.le_of_ble_eq_true rfl) ?_
  intro p e s m below meth c ls C hK hP hD hsz hl
  subst hsz
  obtain ⟨hx, hb, hr, hml, hown, hts, hlocks⟩ := id C
  have FX : CallFix p m c cX4_collect 4 s _ vX4_collect RX4 := ⟨hx, hb, hml, hown, hts⟩
  have hA : ∀ q9 : Nat, s.heap.size ≤ q9 → va_A (mw cI cL cZ cB q A z) s.heap.size q9 := fun q9 h => Or.inr h
  have hS : va_S (va_A (mw cI cL cZ cB q A z) s.heap.size) s.heap s.heap [] := va_S.rf
  have hl : lv_has ls 4 [(0, .ref q)] := hl
  unfold md_collect at hf
  refine lv_aload_n hx hb dX4_collect_0 rfl (lv_at hl 0 rfl) ?_
  refine lv_iconst (v := 0) hx hb dX4_collect_1 (by decide) ?_
  refine va_put (D := G) (ci := 4) (v := .int 0) (ty := .int) (C := RX4) (T := TX4) (N := 32) hx hb hts (fun w h => .tail _ (wl_X4 w h)) tyX4 tyX4_ok nmX4 hown hK hP hD hS 0 rfl rfl 0 (by decide) (hts _ (.tail _ wm_0)) (fun _ h9 => h9) rfl (by decide +kernel) rfl rfl (Nat.le_of_ble_eq_true rfl) dX4_collect_2 (fun H locs hP hD hS => ?_)
  have hP : va_P G vwCl (mw cI cL cZ cB q A (Ms.sthr z 0)) H := hP
  have hD : va_D _ (mw cI cL cZ cB q A (Ms.sthr z 0)) := hD
  refine lv_aload_n hx hb dX4_collect_5 rfl (lv_at hl 0 rfl) ?_
  obtain ⟨z1, o9, ho1, hf⟩ := of_bw hf
  refine gcWv (gV FX [] (c_md_findReached l G cI cL cZ cB q A (Ms.sthr z 0) _  _ ho1) (cwV 0 hts (gi_V wm_41 wm_42 wm_43 wm_6 wm_44) rfl rfl rfl hdV_X4_findReached ⟨Nat.le_of_ble_eq_true rfl, Nat.le_of_ble_eq_true rfl⟩) hK hP hD 0 rfl rfl rfl hl.1 (Nat.le_of_ble_eq_true rfl) dX4_collect_6 ⟨by show _ ≤ 0; omega, by show _ ≤ 0; omega⟩) hS hD hA (fun A H locs hP hD hS => ?_)
  refine lv_aload_n hx hb dX4_collect_9 rfl (lv_at hl 0 rfl) ?_
  refine va_get (D := G) (ci := 4) (v := .long (Ms.old z1)) (C := RX4) (T := TX4) (N := 32) hx hb hts (fun w h => .tail _ (wl_X4 w h)) hown hK hP 0 rfl rfl 5 (by decide) (hts _ (.tail _ wm_40)) (fun _ h9 => h9) rfl dX4_collect_10 ?_
  refine lv_lstore_n (lv' := [(1, .long (Ms.old z1)), (0, .ref q)]) hx hb dX4_collect_13 rfl hl (by decide) rfl (fun ls hl => ?_)
  refine lv_iconst (v := 1) hx hb dX4_collect_14 (by decide) ?_
  refine lv_istore_n (lv' := [(3, .int 1), (1, .long (Ms.old z1)), (0, .ref q)]) hx hb dX4_collect_15 rfl hl (by decide) rfl (fun ls hl => ?_)
  exact L_md_collect_l16 _ _ _ _ _ _ _ _ _ _ _ _ _ _ _ _ _ _ _ C hK FU _ _ _ _ _ _ _ _ _ hP hD hS (lv_sub hl [2, 1, 0] rfl) hf (by omega) (by omega)
def At_md_hasRoom_j26 (l : Launch) (G : va_G) (cI cL cZ cB : ClassId) (q : Nat) (w : va_W) (p : Program) (e : Env) (s : State) (m : MethodId) (args : Array Value) (below : List Frame) (meth : Method) (c : Code) (O0 : Ms × Int32) (mcT msT : Nat) (F : Int64 → Ms → Option (Ms × Int32)) : Prop := ∀ (A : Nat → Nat) (z : Ms) (x1 : Int64) (H : Heap) (locs : List Loc) (ls : Array Slot) (cells slots : Nat), va_P G vwCl (mw cI cL cZ cB q A z) H → va_D (va_A w s.heap.size) (mw cI cL cZ cB q A z) → va_S (va_A w s.heap.size) s.heap H locs → lv_has ls 3 [(0, .ref q), (1, .long x1)] → F x1 z = some O0 → cells + 0 ≤ mcT → slots + 0 ≤ msT → W p l e { frames := 3, cells := mcT, slots := msT, locals := 71 } s m args below meth c H locs cells slots (MQ below (qWi G vwCl (mt cI cL cZ cB) w s.heap.size (mw cI cL cZ cB q) O0) args s mcT msT (va_A w s.heap.size)) (F0 m 26 ls [])
def At_md_hasRoom_j21 (l : Launch) (G : va_G) (cI cL cZ cB : ClassId) (q : Nat) (w : va_W) (p : Program) (e : Env) (s : State) (m : MethodId) (args : Array Value) (below : List Frame) (meth : Method) (c : Code) (O0 : Ms × Int32) (mcT msT : Nat) (F : Int64 → Ms → Option (Ms × Int32)) : Prop := ∀ (A : Nat → Nat) (z : Ms) (x1 : Int64) (H : Heap) (locs : List Loc) (ls : Array Slot) (cells slots : Nat), va_P G vwCl (mw cI cL cZ cB q A z) H → va_D (va_A w s.heap.size) (mw cI cL cZ cB q A z) → va_S (va_A w s.heap.size) s.heap H locs → lv_has ls 3 [(0, .ref q), (1, .long x1)] → F x1 z = some O0 → cells + 0 ≤ mcT → slots + 0 ≤ msT → W p l e { frames := 3, cells := mcT, slots := msT, locals := 71 } s m args below meth c H locs cells slots (MQ below (qWi G vwCl (mt cI cL cZ cB) w s.heap.size (mw cI cL cZ cB q) O0) args s mcT msT (va_A w s.heap.size)) (F0 m 21 ls [])
set_option maxHeartbeats 4000000 in
set_option maxRecDepth 100000 in
theorem L_md_hasRoom_j26 (l : Launch) (G : va_G) (cI cL cZ cB : ClassId) (q : Nat) (w : va_W) (p : Program) (e : Env) (s : State) (m : MethodId) (args : Array Value) (below : List Frame) (meth : Method) (c : Code) (O0 : Ms × Int32) (mcT msT : Nat) (C : MC p s m args meth c cX4_hasRoom 3 (some .boolean) RX4 vX4_hasRoom) (hK : va_K G vwCl (mt cI cL cZ cB) s) : At_md_hasRoom_j26 l G cI cL cZ cB q w p e s m args below meth c O0 mcT msT md_hasRoom_j26 := by
  obtain ⟨hx, hb, hr, hml, hown, hts, hlocks⟩ := id C
  have FX : CallFix p m c cX4_hasRoom 3 s args vX4_hasRoom RX4 := ⟨hx, hb, hml, hown, hts⟩
  have hA : ∀ q9 : Nat, s.heap.size ≤ q9 → va_A w s.heap.size q9 := fun q9 h => Or.inr h
  intro A z x1 H locs ls cells slots hP hD hS hl hf hcc hss
  unfold md_hasRoom_j26 at hf
  refine lv_aload_n hx hb dX4_hasRoom_26 rfl (lv_at hl 0 rfl) ?_
  refine va_get (D := G) (ci := 4) (v := .long (Ms.usd z)) (C := RX4) (T := TX4) (N := 32) hx hb hts (fun w h => .tail _ (wl_X4 w h)) hown hK hP 0 rfl rfl 3 (by decide) (hts _ (.tail _ wm_45)) (fun _ h9 => h9) rfl dX4_hasRoom_27 ?_
  refine lv_lload_n hx hb dX4_hasRoom_30 rfl (lv_at hl 1 rfl) ?_
  refine lv_ladd hx hb dX4_hasRoom_31 ?_
  refine lv_aload_n hx hb dX4_hasRoom_32 rfl (lv_at hl 0 rfl) ?_
  refine va_get (D := G) (ci := 4) (v := .long (Ms.lim z)) (C := RX4) (T := TX4) (N := 32) hx hb hts (fun w h => .tail _ (wl_X4 w h)) hown hK hP 0 rfl rfl 1 (by decide) (hts _ (.tail _ wm_57)) (fun _ h9 => h9) rfl dX4_hasRoom_33 ?_
  refine W.lcmp hx hb dX4_hasRoom_36 ?_
  refine lv_if_le (tgt := 42) hx hb dX4_hasRoom_37 (by decide) (fun c4 => ?_) (fun c4 => ?_)
  · have hf := (if_pos c4).symm.trans hf
    refine lv_aload_n hx hb dX4_hasRoom_42 rfl (lv_at hl 0 rfl) ?_
    refine lv_dup hx hb dX4_hasRoom_43 rfl ?_
    refine va_get (D := G) (ci := 4) (v := .long (Ms.usd z)) (C := RX4) (T := TX4) (N := 32) hx hb hts (fun w h => .tail _ (wl_X4 w h)) hown hK hP 0 rfl rfl 3 (by decide) (hts _ (.tail _ wm_45)) (fun _ h9 => h9) rfl dX4_hasRoom_44 ?_
    refine lv_lload_n hx hb dX4_hasRoom_47 rfl (lv_at hl 1 rfl) ?_
    refine lv_ladd hx hb dX4_hasRoom_48 ?_
    refine va_put (D := G) (ci := 4) (v := .long ((Ms.usd z) + x1)) (ty := .long) (C := RX4) (T := TX4) (N := 32) hx hb hts (fun w h => .tail _ (wl_X4 w h)) tyX4 tyX4_ok nmX4 hown hK hP hD hS 0 rfl rfl 3 (by decide) (hts _ (.tail _ wm_45)) (fun _ h9 => h9) rfl (by decide +kernel) rfl rfl (Nat.le_of_ble_eq_true rfl) dX4_hasRoom_49 (fun H locs hP hD hS => ?_)
    have hP : va_P G vwCl (mw cI cL cZ cB q A (Ms.susd z ((Ms.usd z) + x1))) H := hP
    have hD : va_D _ (mw cI cL cZ cB q A (Ms.susd z ((Ms.usd z) + x1))) := hD
    refine lv_iconst (v := 1) hx hb dX4_hasRoom_52 (by decide) ?_
    obtain rfl := Option.some.inj hf
    exact grWz (by decide) hx hb hr hlocks hP hK hD hS dX4_hasRoom_53 (by omega) (by omega)
  · have hf := (if_neg c4).symm.trans hf
    refine lv_iconst (v := 0) hx hb dX4_hasRoom_40 (by decide) ?_
    obtain rfl := Option.some.inj hf
    exact grWz (by decide) hx hb hr hlocks hP hK hD hS dX4_hasRoom_41 (by omega) (by omega)
set_option maxHeartbeats 4000000 in
set_option maxRecDepth 100000 in
theorem L_md_hasRoom_j21 (l : Launch) (G : va_G) (cI cL cZ cB : ClassId) (q : Nat) (w : va_W) (p : Program) (e : Env) (s : State) (m : MethodId) (args : Array Value) (below : List Frame) (meth : Method) (c : Code) (O0 : Ms × Int32) (mcT msT : Nat) (C : MC p s m args meth c cX4_hasRoom 3 (some .boolean) RX4 vX4_hasRoom) (hK : va_K G vwCl (mt cI cL cZ cB) s) : At_md_hasRoom_j21 l G cI cL cZ cB q w p e s m args below meth c O0 mcT msT md_hasRoom_j21 := by
  obtain ⟨hx, hb, hr, hml, hown, hts, hlocks⟩ := id C
  have FX : CallFix p m c cX4_hasRoom 3 s args vX4_hasRoom RX4 := ⟨hx, hb, hml, hown, hts⟩
  have hA : ∀ q9 : Nat, s.heap.size ≤ q9 → va_A w s.heap.size q9 := fun q9 h => Or.inr h
  intro A z x1 H locs ls cells slots hP hD hS hl hf hcc hss
  unfold md_hasRoom_j21 at hf
  refine lv_aload_n hx hb dX4_hasRoom_21 rfl (lv_at hl 0 rfl) ?_
  obtain ⟨z3, r3, ho3, hf⟩ := of_bw hf
  refine gcWi (gV FX [] (c_md_collect l G cI cL cZ cB q A z _  _ ho3) (cwV 0 hts (gi_V wm_58 wm_59 wm_60 wm_6 wm_61) rfl rfl rfl hdV_X4_collect ⟨Nat.le_of_ble_eq_true rfl, Nat.le_of_ble_eq_true rfl⟩) hK hP hD 0 rfl rfl rfl hl.1 (Nat.le_of_ble_eq_true rfl) dX4_hasRoom_22 ⟨by show _ ≤ mcT; omega, by show _ ≤ msT; omega⟩) hS hD hA (fun A H locs hP hD hS => ?_)
  refine lv_pop hx hb dX4_hasRoom_25 rfl ?_
  exact L_md_hasRoom_j26 _ _ _ _ _ _ _ _ _ _ _ _ _ _ _ _ _ _ _ C hK _ _ _ _ _ _ _ _ hP hD hS (lv_sub hl [0, 1] rfl) hf (by omega) (by omega)
set_option maxHeartbeats 4000000 in
set_option maxRecDepth 100000 in
theorem c_md_hasRoom (l : Launch) (G : va_G) (cI cL cZ cB : ClassId) (q : Nat) (A : Nat → Nat) (z : Ms) (sz : Nat) (p0 : Int64) (O0 : Ms × Int32) (hf : md_hasRoom z p0 = some O0) : Met l yX4_hasRoom vX4_hasRoom { frames := 3, cells := 0, slots := 0, locals := 71 } (gPc G vwCl (mt cI cL cZ cB) [.ref q, .long p0] (mw cI cL cZ cB q A z) sz) (qWi G vwCl (mt cI cL cZ cB) (mw cI cL cZ cB q A z) sz (mw cI cL cZ cB q) O0) 0 0 (va_A (mw cI cL cZ cB q A z) sz) := by
  refine gMet (by decide) rfl (Nat.le_of_ble_eq_true rfl) ?_
  intro p e s m below meth c ls C hK hP hD hsz hl
  subst hsz
  obtain ⟨hx, hb, hr, hml, hown, hts, hlocks⟩ := id C
  have FX : CallFix p m c cX4_hasRoom 3 s _ vX4_hasRoom RX4 := ⟨hx, hb, hml, hown, hts⟩
  have hA : ∀ q9 : Nat, s.heap.size ≤ q9 → va_A (mw cI cL cZ cB q A z) s.heap.size q9 := fun q9 h => Or.inr h
  have hS : va_S (va_A (mw cI cL cZ cB q A z) s.heap.size) s.heap s.heap [] := va_S.rf
  have hl : lv_has ls 3 [(0, .ref q), (1, .long p0)] := hl
  unfold md_hasRoom at hf
  refine lv_aload_n hx hb dX4_hasRoom_0 rfl (lv_at hl 0 rfl) ?_
  refine va_get (D := G) (ci := 4) (v := .int (Ms.eag z)) (C := RX4) (T := TX4) (N := 32) hx hb hts (fun w h => .tail _ (wl_X4 w h)) hown hK hP 0 rfl rfl 2 (by decide) (hts _ (.tail _ wm_56)) (fun _ h9 => h9) rfl dX4_hasRoom_1 ?_
  refine lv_if_ne (tgt := 21) hx hb dX4_hasRoom_4 (by decide) (fun c1 => ?_) (fun c1 => ?_)
  · have hf := (if_neg c1).symm.trans hf
    exact L_md_hasRoom_j21 _ _ _ _ _ _ _ _ _ _ _ _ _ _ _ _ _ _ _ C hK _ _ _ _ _ _ _ _ hP hD hS (lv_sub hl [0, 1] rfl) hf (by omega) (by omega)
  · have hf := (if_pos c1).symm.trans hf
    refine lv_aload_n hx hb dX4_hasRoom_7 rfl (lv_at hl 0 rfl) ?_
    refine va_get (D := G) (ci := 4) (v := .long (Ms.usd z)) (C := RX4) (T := TX4) (N := 32) hx hb hts (fun w h => .tail _ (wl_X4 w h)) hown hK hP 0 rfl rfl 3 (by decide) (hts _ (.tail _ wm_45)) (fun _ h9 => h9) rfl dX4_hasRoom_8 ?_
    refine lv_lload_n hx hb dX4_hasRoom_11 rfl (lv_at hl 1 rfl) ?_
    refine lv_ladd hx hb dX4_hasRoom_12 ?_
    refine lv_aload_n hx hb dX4_hasRoom_13 rfl (lv_at hl 0 rfl) ?_
    refine va_get (D := G) (ci := 4) (v := .long (Ms.lim z)) (C := RX4) (T := TX4) (N := 32) hx hb hts (fun w h => .tail _ (wl_X4 w h)) hown hK hP 0 rfl rfl 1 (by decide) (hts _ (.tail _ wm_57)) (fun _ h9 => h9) rfl dX4_hasRoom_14 ?_
    refine W.lcmp hx hb dX4_hasRoom_17 ?_
    refine lv_if_le (tgt := 26) hx hb dX4_hasRoom_18 (by decide) (fun c2 => ?_) (fun c2 => ?_)
    · have hf := (if_pos c2).symm.trans hf
      exact L_md_hasRoom_j26 _ _ _ _ _ _ _ _ _ _ _ _ _ _ _ _ _ _ _ C hK _ _ _ _ _ _ _ _ hP hD hS (lv_sub hl [0, 1] rfl) hf (by omega) (by omega)
    · have hf := (if_neg c2).symm.trans hf
      exact L_md_hasRoom_j21 _ _ _ _ _ _ _ _ _ _ _ _ _ _ _ _ _ _ _ C hK _ _ _ _ _ _ _ _ hP hD hS (lv_sub hl [0, 1] rfl) hf (by omega) (by omega)
def At_md_begin_j154 (l : Launch) (G : va_G) (cI cL cZ cB : ClassId) (q : Nat) (w : va_W) (p : Program) (e : Env) (s : State) (m : MethodId) (args : Array Value) (below : List Frame) (meth : Method) (c : Code) (O0 : Ms × Int32) (mcT msT : Nat) (F : Int32 → Int32 → Ms → Option (Nat × Ms × Int32)) : Prop := ∀ (A : Nat → Nat) (z : Ms) (x1 : Int32) (x2 : Int32) (d0 : Nat) (H : Heap) (locs : List Loc) (ls : Array Slot) (cells slots : Nat), va_P G vwCl (mw cI cL cZ cB q A z) H → va_D (va_A w s.heap.size) (mw cI cL cZ cB q A z) → va_S (va_A w s.heap.size) s.heap H locs → lv_has ls 3 [(0, .ref q), (1, .int x1), (2, .int x2)] → F x1 x2 z = some (d0, O0) → cells + (0 + d0 / 64) ≤ mcT → slots + (0 + d0) ≤ msT → W p l e { frames := 1, cells := mcT, slots := msT, locals := 22 } s m args below meth c H locs cells slots (MQ below (qWi G vwCl (mt cI cL cZ cB) w s.heap.size (mw cI cL cZ cB q) O0) args s mcT msT (va_A w s.heap.size)) (F0 m 154 ls [])
set_option maxHeartbeats 4000000 in
set_option maxRecDepth 100000 in
theorem L_md_begin_j154 (l : Launch) (G : va_G) (cI cL cZ cB : ClassId) (q : Nat) (w : va_W) (p : Program) (e : Env) (s : State) (m : MethodId) (args : Array Value) (below : List Frame) (meth : Method) (c : Code) (O0 : Ms × Int32) (mcT msT : Nat) (C : MC p s m args meth c cX4_begin 3 (some .int) RX4 vX4_begin) (hK : va_K G vwCl (mt cI cL cZ cB) s) : At_md_begin_j154 l G cI cL cZ cB q w p e s m args below meth c O0 mcT msT md_begin_j154 := by
  obtain ⟨hx, hb, hr, hml, hown, hts, hlocks⟩ := id C
  have FX : CallFix p m c cX4_begin 3 s args vX4_begin RX4 := ⟨hx, hb, hml, hown, hts⟩
  have hA : ∀ q9 : Nat, s.heap.size ≤ q9 → va_A w s.heap.size q9 := fun q9 h => Or.inr h
  intro A z x1 x2 d0 H locs ls cells slots hP hD hS hl hf hcc hss
  unfold md_begin_j154 at hf
  refine lv_aload_n hx hb dX4_begin_154 rfl (lv_at hl 0 rfl) ?_
  refine va_get (D := G) (ci := 4) (v := .ref (A 3)) (C := RX4) (T := TX4) (N := 32) hx hb hts (fun w h => .tail _ (wl_X4 w h)) hown hK hP 0 rfl rfl 10 (by decide) (hts _ (.tail _ wm_2)) (fun _ h9 => h9) rfl dX4_begin_155 ?_
  refine lv_aload_n hx hb dX4_begin_158 rfl (lv_at hl 0 rfl) ?_
  refine va_get (D := G) (ci := 4) (v := .int (Ms.mad z)) (C := RX4) (T := TX4) (N := 32) hx hb hts (fun w h => .tail _ (wl_X4 w h)) hown hK hP 0 rfl rfl 9 (by decide) (hts _ (.tail _ wm_19)) (fun _ h9 => h9) rfl dX4_begin_159 ?_
  refine lv_iload_n hx hb dX4_begin_162 rfl (lv_at hl 1 rfl) ?_
  obtain ⟨hg50, hf⟩ := of_gd hf
  refine va_iast (f := (Ms.aso z)) (n := (Ms.nso z)) hx hb hK hP hD hS 3 0 rfl rfl (inb_in hg50) dX4_begin_163 (fun H locs hP hD hS => ?_)
  have hP : va_P G vwCl (mw cI cL cZ cB q A (Ms.wso z (upd (Ms.aso z) ((Ms.mad z).toNatClampNeg) x1))) H := hP
  have hD : va_D _ (mw cI cL cZ cB q A (Ms.wso z (upd (Ms.aso z) ((Ms.mad z).toNatClampNeg) x1))) := hD
  refine lv_aload_n hx hb dX4_begin_164 rfl (lv_at hl 0 rfl) ?_
  refine va_get (D := G) (ci := 4) (v := .ref (A 4)) (C := RX4) (T := TX4) (N := 32) hx hb hts (fun w h => .tail _ (wl_X4 w h)) hown hK hP 0 rfl rfl 11 (by decide) (hts _ (.tail _ wm_17)) (fun _ h9 => h9) rfl dX4_begin_165 ?_
  refine lv_aload_n hx hb dX4_begin_168 rfl (lv_at hl 0 rfl) ?_
  refine va_get (D := G) (ci := 4) (v := .int (Ms.mad z)) (C := RX4) (T := TX4) (N := 32) hx hb hts (fun w h => .tail _ (wl_X4 w h)) hown hK hP 0 rfl rfl 9 (by decide) (hts _ (.tail _ wm_19)) (fun _ h9 => h9) rfl dX4_begin_169 ?_
  refine lv_iload_n hx hb dX4_begin_172 rfl (lv_at hl 2 rfl) ?_
  obtain ⟨hg51, hf⟩ := of_gd hf
  refine va_iast (f := (Ms.asi z)) (n := (Ms.nsi z)) hx hb hK hP hD hS 4 0 rfl rfl (inb_in hg51) dX4_begin_173 (fun H locs hP hD hS => ?_)
  have hP : va_P G vwCl (mw cI cL cZ cB q A (Ms.wsi (Ms.wso z (upd (Ms.aso z) ((Ms.mad z).toNatClampNeg) x1)) (upd (Ms.asi z) ((Ms.mad z).toNatClampNeg) x2))) H := hP
  have hD : va_D _ (mw cI cL cZ cB q A (Ms.wsi (Ms.wso z (upd (Ms.aso z) ((Ms.mad z).toNatClampNeg) x1)) (upd (Ms.asi z) ((Ms.mad z).toNatClampNeg) x2))) := hD
  refine lv_aload_n hx hb dX4_begin_174 rfl (lv_at hl 0 rfl) ?_
  refine va_get (D := G) (ci := 4) (v := .ref (A 12)) (C := RX4) (T := TX4) (N := 32) hx hb hts (fun w h => .tail _ (wl_X4 w h)) hown hK hP 0 rfl rfl 19 (by decide) (hts _ (.tail _ wm_33)) (fun _ h9 => h9) rfl dX4_begin_175 ?_
  refine lv_aload_n hx hb dX4_begin_178 rfl (lv_at hl 0 rfl) ?_
  refine va_get (D := G) (ci := 4) (v := .int (Ms.mad z)) (C := RX4) (T := TX4) (N := 32) hx hb hts (fun w h => .tail _ (wl_X4 w h)) hown hK hP 0 rfl rfl 9 (by decide) (hts _ (.tail _ wm_19)) (fun _ h9 => h9) rfl dX4_begin_179 ?_
  refine lv_iconst (v := 1) hx hb dX4_begin_182 (by decide) ?_
  obtain ⟨hg52, hf⟩ := of_gd hf
  refine va_zast (f := (Ms.ath z)) (n := (Ms.nth z)) hx hb hK hP hD hS 12 2 rfl rfl (inb_in hg52) dX4_begin_183 (fun H locs hP hD hS => ?_)
  have hP : va_P G vwCl (mw cI cL cZ cB q A (Ms.wth (Ms.wsi (Ms.wso z (upd (Ms.aso z) ((Ms.mad z).toNatClampNeg) x1)) (upd (Ms.asi z) ((Ms.mad z).toNatClampNeg) x2)) (upd (Ms.ath z) ((Ms.mad z).toNatClampNeg) (vp_nar .boolean 1)))) H := hP
  have hD : va_D _ (mw cI cL cZ cB q A (Ms.wth (Ms.wsi (Ms.wso z (upd (Ms.aso z) ((Ms.mad z).toNatClampNeg) x1)) (upd (Ms.asi z) ((Ms.mad z).toNatClampNeg) x2)) (upd (Ms.ath z) ((Ms.mad z).toNatClampNeg) (vp_nar .boolean 1)))) := hD
  refine lv_aload_n hx hb dX4_begin_184 rfl (lv_at hl 0 rfl) ?_
  refine va_get (D := G) (ci := 4) (v := .int (Ms.mad z)) (C := RX4) (T := TX4) (N := 32) hx hb hts (fun w h => .tail _ (wl_X4 w h)) hown hK hP 0 rfl rfl 9 (by decide) (hts _ (.tail _ wm_19)) (fun _ h9 => h9) rfl dX4_begin_185 ?_
  obtain ⟨hc0, hj0⟩ := of_some2 hf
  subst hj0
  exact grWi hx hb hr hlocks hP hK hD hS dX4_begin_188 (by omega) (by omega)
set_option maxHeartbeats 4000000 in
set_option maxRecDepth 100000 in
theorem c_md_begin (l : Launch) (G : va_G) (cI cL cZ cB : ClassId) (q : Nat) (A : Nat → Nat) (z : Ms) (sz : Nat) (p0 : Int32) (p1 : Int32) (c0 : Nat) (O0 : Ms × Int32) (hf : md_begin z p0 p1 = some (c0, O0)) : Met l yX4_begin vX4_begin { frames := 1, cells := 0 + c0 / 64, slots := 0 + c0, locals := 22 } (gPc G vwCl (mt cI cL cZ cB) [.ref q, .int p0, .int p1] (mw cI cL cZ cB q A z) sz) (qWi G vwCl (mt cI cL cZ cB) (mw cI cL cZ cB q A z) sz (mw cI cL cZ cB q) O0) (0 + c0 / 64) (0 + c0) (va_A (mw cI cL cZ cB q A z) sz) := by
  refine gMet (by decide) rfl (Nat.le_of_ble_eq_true rfl) ?_
  intro p e s m below meth c ls C hK hP hD hsz hl
  subst hsz
  obtain ⟨hx, hb, hr, hml, hown, hts, hlocks⟩ := id C
  have FX : CallFix p m c cX4_begin 3 s _ vX4_begin RX4 := ⟨hx, hb, hml, hown, hts⟩
  have hA : ∀ q9 : Nat, s.heap.size ≤ q9 → va_A (mw cI cL cZ cB q A z) s.heap.size q9 := fun q9 h => Or.inr h
  have hS : va_S (va_A (mw cI cL cZ cB q A z) s.heap.size) s.heap s.heap [] := va_S.rf
  have hl : lv_has ls 3 [(0, .ref q), (1, .int p0), (2, .int p1)] := hl
  unfold md_begin at hf
  refine lv_aload_n hx hb dX4_begin_0 rfl (lv_at hl 0 rfl) ?_
  refine lv_dup hx hb dX4_begin_1 rfl ?_
  refine va_get (D := G) (ci := 4) (v := .int (Ms.mad z)) (C := RX4) (T := TX4) (N := 32) hx hb hts (fun w h => .tail _ (wl_X4 w h)) hown hK hP 0 rfl rfl 9 (by decide) (hts _ (.tail _ wm_19)) (fun _ h9 => h9) rfl dX4_begin_2 ?_
  refine lv_iconst (v := 1) hx hb dX4_begin_5 (by decide) ?_
  refine lv_iadd hx hb dX4_begin_6 ?_
  refine va_put (D := G) (ci := 4) (v := .int ((Ms.mad z) + 1)) (ty := .int) (C := RX4) (T := TX4) (N := 32) hx hb hts (fun w h => .tail _ (wl_X4 w h)) tyX4 tyX4_ok nmX4 hown hK hP hD hS 0 rfl rfl 9 (by decide) (hts _ (.tail _ wm_19)) (fun _ h9 => h9) rfl (by decide +kernel) rfl rfl (Nat.le_of_ble_eq_true rfl) dX4_begin_7 (fun H locs hP hD hS => ?_)
  have hP : va_P G vwCl (mw cI cL cZ cB q A (Ms.smad z ((Ms.mad z) + 1))) H := hP
  have hD : va_D _ (mw cI cL cZ cB q A (Ms.smad z ((Ms.mad z) + 1))) := hD
  refine lv_aload_n hx hb dX4_begin_10 rfl (lv_at hl 0 rfl) ?_
  refine va_get (D := G) (ci := 4) (v := .int ((Ms.mad z) + 1)) (C := RX4) (T := TX4) (N := 32) hx hb hts (fun w h => .tail _ (wl_X4 w h)) hown hK hP 0 rfl rfl 9 (by decide) (hts _ (.tail _ wm_19)) (fun _ h9 => h9) rfl dX4_begin_11 ?_
  refine lv_aload_n hx hb dX4_begin_14 rfl (lv_at hl 0 rfl) ?_
  refine va_get (D := G) (ci := 4) (v := .ref (A 3)) (C := RX4) (T := TX4) (N := 32) hx hb hts (fun w h => .tail _ (wl_X4 w h)) hown hK hP 0 rfl rfl 10 (by decide) (hts _ (.tail _ wm_2)) (fun _ h9 => h9) rfl dX4_begin_15 ?_
  refine va_alen hx hb hK hP 3 0 rfl rfl (v := (Int32.ofNat (Ms.nso z))) rfl dX4_begin_18 ?_
  refine lv_icmp_ne (tgt := 154) hx hb dX4_begin_19 (by decide) (fun c1 => ?_) (fun c1 => ?_)
  · have hf := (if_neg c1).symm.trans hf
    exact L_md_begin_j154 _ _ _ _ _ _ _ _ _ _ _ _ _ _ _ _ _ _ _ C hK _ _ _ _ _ _ _ _ _ _ hP hD hS (lv_sub hl [0, 1, 2] rfl) hf (by omega) (by omega)
  · have hf := (if_pos c1).symm.trans hf
    refine lv_aload_n hx hb dX4_begin_22 rfl (lv_at hl 0 rfl) ?_
    refine lv_aload_n hx hb dX4_begin_23 rfl (lv_at hl 0 rfl) ?_
    refine va_get (D := G) (ci := 4) (v := .ref (A 3)) (C := RX4) (T := TX4) (N := 32) hx hb hts (fun w h => .tail _ (wl_X4 w h)) hown hK hP 0 rfl rfl 10 (by decide) (hts _ (.tail _ wm_2)) (fun _ h9 => h9) rfl dX4_begin_24 ?_
    obtain ⟨hg3, hf⟩ := of_gd hf
    obtain ⟨d4, hf, ek5⟩ := of_addc hf
    have bhg3 := (wdb_in hg3).1
    have hPc := hP.sub (ws' := [(A 3, .inl (cI, (Ms.nso z), .inl (Ms.aso z)))]) [3] rfl
    have hDc := hD.sub (ws' := [(A 3, .inl (cI, (Ms.nso z), .inl (Ms.aso z)))]) [3] (by decide) rfl
    refine gcA (q0 := 3) (gS FX [.ref (A 3)] (c_md_wider l G cI cL cZ cB (A 3) (Ms.nso z) (Ms.aso z) _ (wdb_in hg3)) (cwS 1 hts (gi_S wm_69 wm_70 wm_6 wm_71) rfl rfl rfl hdS_X4_wider ⟨Nat.le_of_ble_eq_true rfl, Nat.le_of_ble_eq_true rfl⟩) hK hPc hDc rfl hl.1 (Nat.le_of_ble_eq_true rfl) dX4_begin_27 ⟨by show _ ≤ 0 + c0 / 64; omega, by show _ ≤ 0 + c0; omega⟩) hP rfl hS hD hA (fun x2 H locs hP hD hS => ?_)
    refine va_put (D := G) (ci := 4) (v := .ref x2) (ty := .array .int) (C := RX4) (T := TX4) (N := 32) hx hb hts (fun w h => .tail _ (wl_X4 w h)) tyX4 tyX4_ok nmX4 hown hK hP hD hS 0 rfl rfl 10 (by decide) (hts _ (.tail _ wm_2)) (fun _ h9 => h9) rfl (by decide +kernel) rfl rfl (Nat.le_of_ble_eq_true rfl) dX4_begin_30 (fun H locs hP hD hS => ?_)
    have hP := hP.sub (ws' := (mw cI cL cZ cB q (va_up A 3 x2) (Ms.wso (Ms.snso (Ms.smad z ((Ms.mad z) + 1)) (2 * (Ms.nso z))) (wdI (Ms.aso z) (Ms.nso z))))) [0, 1, 2, 22, 4, 5, 6, 7, 8, 9, 10, 11, 12, 13, 14, 15, 16, 17, 18, 19, 20, 21] rfl
    have hD := hD.sub (ws' := (mw cI cL cZ cB q (va_up A 3 x2) (Ms.wso (Ms.snso (Ms.smad z ((Ms.mad z) + 1)) (2 * (Ms.nso z))) (wdI (Ms.aso z) (Ms.nso z))))) [0, 1, 2, 22, 4, 5, 6, 7, 8, 9, 10, 11, 12, 13, 14, 15, 16, 17, 18, 19, 20, 21] (by decide) rfl
    generalize va_up A 3 x2 = A at hP hD
    refine lv_aload_n hx hb dX4_begin_33 rfl (lv_at hl 0 rfl) ?_
    refine lv_aload_n hx hb dX4_begin_34 rfl (lv_at hl 0 rfl) ?_
    refine va_get (D := G) (ci := 4) (v := .ref (A 4)) (C := RX4) (T := TX4) (N := 32) hx hb hts (fun w h => .tail _ (wl_X4 w h)) hown hK hP 0 rfl rfl 11 (by decide) (hts _ (.tail _ wm_17)) (fun _ h9 => h9) rfl dX4_begin_35 ?_
    obtain ⟨hg7, hf⟩ := of_gd hf
    obtain ⟨d8, hf, ek9⟩ := of_addc hf
    have bhg7 := (wdb_in hg7).1
    have hPc := hP.sub (ws' := [(A 4, .inl (cI, (Ms.nsi z), .inl (Ms.asi z)))]) [4] rfl
    have hDc := hD.sub (ws' := [(A 4, .inl (cI, (Ms.nsi z), .inl (Ms.asi z)))]) [4] (by decide) rfl
    refine gcA (q0 := 4) (gS FX [.ref (A 4)] (c_md_wider l G cI cL cZ cB (A 4) (Ms.nsi z) (Ms.asi z) _ (wdb_in hg7)) (cwS 1 hts (gi_S wm_69 wm_70 wm_6 wm_71) rfl rfl rfl hdS_X4_wider ⟨Nat.le_of_ble_eq_true rfl, Nat.le_of_ble_eq_true rfl⟩) hK hPc hDc rfl hl.1 (Nat.le_of_ble_eq_true rfl) dX4_begin_38 ⟨by show _ ≤ 0 + c0 / 64; omega, by show _ ≤ 0 + c0; omega⟩) hP rfl hS hD hA (fun x6 H locs hP hD hS => ?_)
    refine va_put (D := G) (ci := 4) (v := .ref x6) (ty := .array .int) (C := RX4) (T := TX4) (N := 32) hx hb hts (fun w h => .tail _ (wl_X4 w h)) tyX4 tyX4_ok nmX4 hown hK hP hD hS 0 rfl rfl 11 (by decide) (hts _ (.tail _ wm_17)) (fun _ h9 => h9) rfl (by decide +kernel) rfl rfl (Nat.le_of_ble_eq_true rfl) dX4_begin_41 (fun H locs hP hD hS => ?_)
    have hP := hP.sub (ws' := (mw cI cL cZ cB q (va_up A 4 x6) (Ms.wsi (Ms.snsi (Ms.wso (Ms.snso (Ms.smad z ((Ms.mad z) + 1)) (2 * (Ms.nso z))) (wdI (Ms.aso z) (Ms.nso z))) (2 * (Ms.nsi z))) (wdI (Ms.asi z) (Ms.nsi z))))) [0, 1, 2, 3, 22, 5, 6, 7, 8, 9, 10, 11, 12, 13, 14, 15, 16, 17, 18, 19, 20, 21] rfl
    have hD := hD.sub (ws' := (mw cI cL cZ cB q (va_up A 4 x6) (Ms.wsi (Ms.snsi (Ms.wso (Ms.snso (Ms.smad z ((Ms.mad z) + 1)) (2 * (Ms.nso z))) (wdI (Ms.aso z) (Ms.nso z))) (2 * (Ms.nsi z))) (wdI (Ms.asi z) (Ms.nsi z))))) [0, 1, 2, 3, 22, 5, 6, 7, 8, 9, 10, 11, 12, 13, 14, 15, 16, 17, 18, 19, 20, 21] (by decide) rfl
    generalize va_up A 4 x6 = A at hP hD
    refine lv_aload_n hx hb dX4_begin_44 rfl (lv_at hl 0 rfl) ?_
    refine lv_aload_n hx hb dX4_begin_45 rfl (lv_at hl 0 rfl) ?_
    refine va_get (D := G) (ci := 4) (v := .ref (A 5)) (C := RX4) (T := TX4) (N := 32) hx hb hts (fun w h => .tail _ (wl_X4 w h)) hown hK hP 0 rfl rfl 12 (by decide) (hts _ (.tail _ wm_27)) (fun _ h9 => h9) rfl dX4_begin_46 ?_
    obtain ⟨hg11, hf⟩ := of_gd hf
    obtain ⟨d12, hf, ek13⟩ := of_addc hf
    have bhg11 := (wdb_in hg11).1
    have hPc := hP.sub (ws' := [(A 5, .inl (cI, (Ms.nsr z), .inl (Ms.asr z)))]) [5] rfl
    have hDc := hD.sub (ws' := [(A 5, .inl (cI, (Ms.nsr z), .inl (Ms.asr z)))]) [5] (by decide) rfl
    refine gcA (q0 := 5) (gS FX [.ref (A 5)] (c_md_wider l G cI cL cZ cB (A 5) (Ms.nsr z) (Ms.asr z) _ (wdb_in hg11)) (cwS 1 hts (gi_S wm_69 wm_70 wm_6 wm_71) rfl rfl rfl hdS_X4_wider ⟨Nat.le_of_ble_eq_true rfl, Nat.le_of_ble_eq_true rfl⟩) hK hPc hDc rfl hl.1 (Nat.le_of_ble_eq_true rfl) dX4_begin_49 ⟨by show _ ≤ 0 + c0 / 64; omega, by show _ ≤ 0 + c0; omega⟩) hP rfl hS hD hA (fun x10 H locs hP hD hS => ?_)
    refine va_put (D := G) (ci := 4) (v := .ref x10) (ty := .array .int) (C := RX4) (T := TX4) (N := 32) hx hb hts (fun w h => .tail _ (wl_X4 w h)) tyX4 tyX4_ok nmX4 hown hK hP hD hS 0 rfl rfl 12 (by decide) (hts _ (.tail _ wm_27)) (fun _ h9 => h9) rfl (by decide +kernel) rfl rfl (Nat.le_of_ble_eq_true rfl) dX4_begin_52 (fun H locs hP hD hS => ?_)
    have hP := hP.sub (ws' := (mw cI cL cZ cB q (va_up A 5 x10) (Ms.wsr (Ms.snsr (Ms.wsi (Ms.snsi (Ms.wso (Ms.snso (Ms.smad z ((Ms.mad z) + 1)) (2 * (Ms.nso z))) (wdI (Ms.aso z) (Ms.nso z))) (2 * (Ms.nsi z))) (wdI (Ms.asi z) (Ms.nsi z))) (2 * (Ms.nsr z))) (wdI (Ms.asr z) (Ms.nsr z))))) [0, 1, 2, 3, 4, 22, 6, 7, 8, 9, 10, 11, 12, 13, 14, 15, 16, 17, 18, 19, 20, 21] rfl
    have hD := hD.sub (ws' := (mw cI cL cZ cB q (va_up A 5 x10) (Ms.wsr (Ms.snsr (Ms.wsi (Ms.snsi (Ms.wso (Ms.snso (Ms.smad z ((Ms.mad z) + 1)) (2 * (Ms.nso z))) (wdI (Ms.aso z) (Ms.nso z))) (2 * (Ms.nsi z))) (wdI (Ms.asi z) (Ms.nsi z))) (2 * (Ms.nsr z))) (wdI (Ms.asr z) (Ms.nsr z))))) [0, 1, 2, 3, 4, 22, 6, 7, 8, 9, 10, 11, 12, 13, 14, 15, 16, 17, 18, 19, 20, 21] (by decide) rfl
    generalize va_up A 5 x10 = A at hP hD
    refine lv_aload_n hx hb dX4_begin_55 rfl (lv_at hl 0 rfl) ?_
    refine lv_aload_n hx hb dX4_begin_56 rfl (lv_at hl 0 rfl) ?_
    refine va_get (D := G) (ci := 4) (v := .ref (A 6)) (C := RX4) (T := TX4) (N := 32) hx hb hts (fun w h => .tail _ (wl_X4 w h)) hown hK hP 0 rfl rfl 13 (by decide) (hts _ (.tail _ wm_9)) (fun _ h9 => h9) rfl dX4_begin_57 ?_
    obtain ⟨hg15, hf⟩ := of_gd hf
    obtain ⟨d16, hf, ek17⟩ := of_addc hf
    have bhg15 := (wdb_in hg15).1
    have hPc := hP.sub (ws' := [(A 6, .inl (cI, (Ms.nke z), .inl (Ms.ake z)))]) [6] rfl
    have hDc := hD.sub (ws' := [(A 6, .inl (cI, (Ms.nke z), .inl (Ms.ake z)))]) [6] (by decide) rfl
    refine gcA (q0 := 6) (gS FX [.ref (A 6)] (c_md_wider l G cI cL cZ cB (A 6) (Ms.nke z) (Ms.ake z) _ (wdb_in hg15)) (cwS 1 hts (gi_S wm_69 wm_70 wm_6 wm_71) rfl rfl rfl hdS_X4_wider ⟨Nat.le_of_ble_eq_true rfl, Nat.le_of_ble_eq_true rfl⟩) hK hPc hDc rfl hl.1 (Nat.le_of_ble_eq_true rfl) dX4_begin_60 ⟨by show _ ≤ 0 + c0 / 64; omega, by show _ ≤ 0 + c0; omega⟩) hP rfl hS hD hA (fun x14 H locs hP hD hS => ?_)
    refine va_put (D := G) (ci := 4) (v := .ref x14) (ty := .array .int) (C := RX4) (T := TX4) (N := 32) hx hb hts (fun w h => .tail _ (wl_X4 w h)) tyX4 tyX4_ok nmX4 hown hK hP hD hS 0 rfl rfl 13 (by decide) (hts _ (.tail _ wm_9)) (fun _ h9 => h9) rfl (by decide +kernel) rfl rfl (Nat.le_of_ble_eq_true rfl) dX4_begin_63 (fun H locs hP hD hS => ?_)
    have hP := hP.sub (ws' := (mw cI cL cZ cB q (va_up A 6 x14) (Ms.wke (Ms.snke (Ms.wsr (Ms.snsr (Ms.wsi (Ms.snsi (Ms.wso (Ms.snso (Ms.smad z ((Ms.mad z) + 1)) (2 * (Ms.nso z))) (wdI (Ms.aso z) (Ms.nso z))) (2 * (Ms.nsi z))) (wdI (Ms.asi z) (Ms.nsi z))) (2 * (Ms.nsr z))) (wdI (Ms.asr z) (Ms.nsr z))) (2 * (Ms.nke z))) (wdI (Ms.ake z) (Ms.nke z))))) [0, 1, 2, 3, 4, 5, 22, 7, 8, 9, 10, 11, 12, 13, 14, 15, 16, 17, 18, 19, 20, 21] rfl
    have hD := hD.sub (ws' := (mw cI cL cZ cB q (va_up A 6 x14) (Ms.wke (Ms.snke (Ms.wsr (Ms.snsr (Ms.wsi (Ms.snsi (Ms.wso (Ms.snso (Ms.smad z ((Ms.mad z) + 1)) (2 * (Ms.nso z))) (wdI (Ms.aso z) (Ms.nso z))) (2 * (Ms.nsi z))) (wdI (Ms.asi z) (Ms.nsi z))) (2 * (Ms.nsr z))) (wdI (Ms.asr z) (Ms.nsr z))) (2 * (Ms.nke z))) (wdI (Ms.ake z) (Ms.nke z))))) [0, 1, 2, 3, 4, 5, 22, 7, 8, 9, 10, 11, 12, 13, 14, 15, 16, 17, 18, 19, 20, 21] (by decide) rfl
    generalize va_up A 6 x14 = A at hP hD
    refine lv_aload_n hx hb dX4_begin_66 rfl (lv_at hl 0 rfl) ?_
    refine lv_aload_n hx hb dX4_begin_67 rfl (lv_at hl 0 rfl) ?_
    refine va_get (D := G) (ci := 4) (v := .ref (A 7)) (C := RX4) (T := TX4) (N := 32) hx hb hts (fun w h => .tail _ (wl_X4 w h)) hown hK hP 0 rfl rfl 14 (by decide) (hts _ (.tail _ wm_10)) (fun _ h9 => h9) rfl dX4_begin_68 ?_
    obtain ⟨hg19, hf⟩ := of_gd hf
    obtain ⟨d20, hf, ek21⟩ := of_addc hf
    have bhg19 := (wdb_in hg19).1
    have hPc := hP.sub (ws' := [(A 7, .inl (cI, (Ms.nva z), .inl (Ms.ava z)))]) [7] rfl
    have hDc := hD.sub (ws' := [(A 7, .inl (cI, (Ms.nva z), .inl (Ms.ava z)))]) [7] (by decide) rfl
    refine gcA (q0 := 7) (gS FX [.ref (A 7)] (c_md_wider l G cI cL cZ cB (A 7) (Ms.nva z) (Ms.ava z) _ (wdb_in hg19)) (cwS 1 hts (gi_S wm_69 wm_70 wm_6 wm_71) rfl rfl rfl hdS_X4_wider ⟨Nat.le_of_ble_eq_true rfl, Nat.le_of_ble_eq_true rfl⟩) hK hPc hDc rfl hl.1 (Nat.le_of_ble_eq_true rfl) dX4_begin_71 ⟨by show _ ≤ 0 + c0 / 64; omega, by show _ ≤ 0 + c0; omega⟩) hP rfl hS hD hA (fun x18 H locs hP hD hS => ?_)
    refine va_put (D := G) (ci := 4) (v := .ref x18) (ty := .array .int) (C := RX4) (T := TX4) (N := 32) hx hb hts (fun w h => .tail _ (wl_X4 w h)) tyX4 tyX4_ok nmX4 hown hK hP hD hS 0 rfl rfl 14 (by decide) (hts _ (.tail _ wm_10)) (fun _ h9 => h9) rfl (by decide +kernel) rfl rfl (Nat.le_of_ble_eq_true rfl) dX4_begin_74 (fun H locs hP hD hS => ?_)
    have hP := hP.sub (ws' := (mw cI cL cZ cB q (va_up A 7 x18) (Ms.wva (Ms.snva (Ms.wke (Ms.snke (Ms.wsr (Ms.snsr (Ms.wsi (Ms.snsi (Ms.wso (Ms.snso (Ms.smad z ((Ms.mad z) + 1)) (2 * (Ms.nso z))) (wdI (Ms.aso z) (Ms.nso z))) (2 * (Ms.nsi z))) (wdI (Ms.asi z) (Ms.nsi z))) (2 * (Ms.nsr z))) (wdI (Ms.asr z) (Ms.nsr z))) (2 * (Ms.nke z))) (wdI (Ms.ake z) (Ms.nke z))) (2 * (Ms.nva z))) (wdI (Ms.ava z) (Ms.nva z))))) [0, 1, 2, 3, 4, 5, 6, 22, 8, 9, 10, 11, 12, 13, 14, 15, 16, 17, 18, 19, 20, 21] rfl
    have hD := hD.sub (ws' := (mw cI cL cZ cB q (va_up A 7 x18) (Ms.wva (Ms.snva (Ms.wke (Ms.snke (Ms.wsr (Ms.snsr (Ms.wsi (Ms.snsi (Ms.wso (Ms.snso (Ms.smad z ((Ms.mad z) + 1)) (2 * (Ms.nso z))) (wdI (Ms.aso z) (Ms.nso z))) (2 * (Ms.nsi z))) (wdI (Ms.asi z) (Ms.nsi z))) (2 * (Ms.nsr z))) (wdI (Ms.asr z) (Ms.nsr z))) (2 * (Ms.nke z))) (wdI (Ms.ake z) (Ms.nke z))) (2 * (Ms.nva z))) (wdI (Ms.ava z) (Ms.nva z))))) [0, 1, 2, 3, 4, 5, 6, 22, 8, 9, 10, 11, 12, 13, 14, 15, 16, 17, 18, 19, 20, 21] (by decide) rfl
    generalize va_up A 7 x18 = A at hP hD
    refine lv_aload_n hx hb dX4_begin_77 rfl (lv_at hl 0 rfl) ?_
    refine lv_aload_n hx hb dX4_begin_78 rfl (lv_at hl 0 rfl) ?_
    refine va_get (D := G) (ci := 4) (v := .ref (A 8)) (C := RX4) (T := TX4) (N := 32) hx hb hts (fun w h => .tail _ (wl_X4 w h)) hown hK hP 0 rfl rfl 15 (by decide) (hts _ (.tail _ wm_62)) (fun _ h9 => h9) rfl dX4_begin_79 ?_
    obtain ⟨hg23, hf⟩ := of_gd hf
    obtain ⟨d24, hf, ek25⟩ := of_addc hf
    have bhg23 := (wdb_in hg23).1
    have hPc := hP.sub (ws' := [(A 8, .inl (cI, (Ms.nte z), .inl (Ms.ate z)))]) [8] rfl
    have hDc := hD.sub (ws' := [(A 8, .inl (cI, (Ms.nte z), .inl (Ms.ate z)))]) [8] (by decide) rfl
    refine gcA (q0 := 8) (gS FX [.ref (A 8)] (c_md_wider l G cI cL cZ cB (A 8) (Ms.nte z) (Ms.ate z) _ (wdb_in hg23)) (cwS 1 hts (gi_S wm_69 wm_70 wm_6 wm_71) rfl rfl rfl hdS_X4_wider ⟨Nat.le_of_ble_eq_true rfl, Nat.le_of_ble_eq_true rfl⟩) hK hPc hDc rfl hl.1 (Nat.le_of_ble_eq_true rfl) dX4_begin_82 ⟨by show _ ≤ 0 + c0 / 64; omega, by show _ ≤ 0 + c0; omega⟩) hP rfl hS hD hA (fun x22 H locs hP hD hS => ?_)
    refine va_put (D := G) (ci := 4) (v := .ref x22) (ty := .array .int) (C := RX4) (T := TX4) (N := 32) hx hb hts (fun w h => .tail _ (wl_X4 w h)) tyX4 tyX4_ok nmX4 hown hK hP hD hS 0 rfl rfl 15 (by decide) (hts _ (.tail _ wm_62)) (fun _ h9 => h9) rfl (by decide +kernel) rfl rfl (Nat.le_of_ble_eq_true rfl) dX4_begin_85 (fun H locs hP hD hS => ?_)
    have hP := hP.sub (ws' := (mw cI cL cZ cB q (va_up A 8 x22) (Ms.wte (Ms.snte (Ms.wva (Ms.snva (Ms.wke (Ms.snke (Ms.wsr (Ms.snsr (Ms.wsi (Ms.snsi (Ms.wso (Ms.snso (Ms.smad z ((Ms.mad z) + 1)) (2 * (Ms.nso z))) (wdI (Ms.aso z) (Ms.nso z))) (2 * (Ms.nsi z))) (wdI (Ms.asi z) (Ms.nsi z))) (2 * (Ms.nsr z))) (wdI (Ms.asr z) (Ms.nsr z))) (2 * (Ms.nke z))) (wdI (Ms.ake z) (Ms.nke z))) (2 * (Ms.nva z))) (wdI (Ms.ava z) (Ms.nva z))) (2 * (Ms.nte z))) (wdI (Ms.ate z) (Ms.nte z))))) [0, 1, 2, 3, 4, 5, 6, 7, 22, 9, 10, 11, 12, 13, 14, 15, 16, 17, 18, 19, 20, 21] rfl
    have hD := hD.sub (ws' := (mw cI cL cZ cB q (va_up A 8 x22) (Ms.wte (Ms.snte (Ms.wva (Ms.snva (Ms.wke (Ms.snke (Ms.wsr (Ms.snsr (Ms.wsi (Ms.snsi (Ms.wso (Ms.snso (Ms.smad z ((Ms.mad z) + 1)) (2 * (Ms.nso z))) (wdI (Ms.aso z) (Ms.nso z))) (2 * (Ms.nsi z))) (wdI (Ms.asi z) (Ms.nsi z))) (2 * (Ms.nsr z))) (wdI (Ms.asr z) (Ms.nsr z))) (2 * (Ms.nke z))) (wdI (Ms.ake z) (Ms.nke z))) (2 * (Ms.nva z))) (wdI (Ms.ava z) (Ms.nva z))) (2 * (Ms.nte z))) (wdI (Ms.ate z) (Ms.nte z))))) [0, 1, 2, 3, 4, 5, 6, 7, 22, 9, 10, 11, 12, 13, 14, 15, 16, 17, 18, 19, 20, 21] (by decide) rfl
    generalize va_up A 8 x22 = A at hP hD
    refine lv_aload_n hx hb dX4_begin_88 rfl (lv_at hl 0 rfl) ?_
    refine lv_aload_n hx hb dX4_begin_89 rfl (lv_at hl 0 rfl) ?_
    refine va_get (D := G) (ci := 4) (v := .ref (A 9)) (C := RX4) (T := TX4) (N := 32) hx hb hts (fun w h => .tail _ (wl_X4 w h)) hown hK hP 0 rfl rfl 16 (by decide) (hts _ (.tail _ wm_12)) (fun _ h9 => h9) rfl dX4_begin_90 ?_
    obtain ⟨hg27, hf⟩ := of_gd hf
    obtain ⟨d28, hf, ek29⟩ := of_addc hf
    have bhg27 := (wdb_in hg27).1
    have hPc := hP.sub (ws' := [(A 9, .inl (cI, (Ms.nca z), .inl (Ms.aca z)))]) [9] rfl
    have hDc := hD.sub (ws' := [(A 9, .inl (cI, (Ms.nca z), .inl (Ms.aca z)))]) [9] (by decide) rfl
    refine gcA (q0 := 9) (gS FX [.ref (A 9)] (c_md_wider l G cI cL cZ cB (A 9) (Ms.nca z) (Ms.aca z) _ (wdb_in hg27)) (cwS 1 hts (gi_S wm_69 wm_70 wm_6 wm_71) rfl rfl rfl hdS_X4_wider ⟨Nat.le_of_ble_eq_true rfl, Nat.le_of_ble_eq_true rfl⟩) hK hPc hDc rfl hl.1 (Nat.le_of_ble_eq_true rfl) dX4_begin_93 ⟨by show _ ≤ 0 + c0 / 64; omega, by show _ ≤ 0 + c0; omega⟩) hP rfl hS hD hA (fun x26 H locs hP hD hS => ?_)
    refine va_put (D := G) (ci := 4) (v := .ref x26) (ty := .array .int) (C := RX4) (T := TX4) (N := 32) hx hb hts (fun w h => .tail _ (wl_X4 w h)) tyX4 tyX4_ok nmX4 hown hK hP hD hS 0 rfl rfl 16 (by decide) (hts _ (.tail _ wm_12)) (fun _ h9 => h9) rfl (by decide +kernel) rfl rfl (Nat.le_of_ble_eq_true rfl) dX4_begin_96 (fun H locs hP hD hS => ?_)
    have hP := hP.sub (ws' := (mw cI cL cZ cB q (va_up A 9 x26) (Ms.wca (Ms.snca (Ms.wte (Ms.snte (Ms.wva (Ms.snva (Ms.wke (Ms.snke (Ms.wsr (Ms.snsr (Ms.wsi (Ms.snsi (Ms.wso (Ms.snso (Ms.smad z ((Ms.mad z) + 1)) (2 * (Ms.nso z))) (wdI (Ms.aso z) (Ms.nso z))) (2 * (Ms.nsi z))) (wdI (Ms.asi z) (Ms.nsi z))) (2 * (Ms.nsr z))) (wdI (Ms.asr z) (Ms.nsr z))) (2 * (Ms.nke z))) (wdI (Ms.ake z) (Ms.nke z))) (2 * (Ms.nva z))) (wdI (Ms.ava z) (Ms.nva z))) (2 * (Ms.nte z))) (wdI (Ms.ate z) (Ms.nte z))) (2 * (Ms.nca z))) (wdI (Ms.aca z) (Ms.nca z))))) [0, 1, 2, 3, 4, 5, 6, 7, 8, 22, 10, 11, 12, 13, 14, 15, 16, 17, 18, 19, 20, 21] rfl
    have hD := hD.sub (ws' := (mw cI cL cZ cB q (va_up A 9 x26) (Ms.wca (Ms.snca (Ms.wte (Ms.snte (Ms.wva (Ms.snva (Ms.wke (Ms.snke (Ms.wsr (Ms.snsr (Ms.wsi (Ms.snsi (Ms.wso (Ms.snso (Ms.smad z ((Ms.mad z) + 1)) (2 * (Ms.nso z))) (wdI (Ms.aso z) (Ms.nso z))) (2 * (Ms.nsi z))) (wdI (Ms.asi z) (Ms.nsi z))) (2 * (Ms.nsr z))) (wdI (Ms.asr z) (Ms.nsr z))) (2 * (Ms.nke z))) (wdI (Ms.ake z) (Ms.nke z))) (2 * (Ms.nva z))) (wdI (Ms.ava z) (Ms.nva z))) (2 * (Ms.nte z))) (wdI (Ms.ate z) (Ms.nte z))) (2 * (Ms.nca z))) (wdI (Ms.aca z) (Ms.nca z))))) [0, 1, 2, 3, 4, 5, 6, 7, 8, 22, 10, 11, 12, 13, 14, 15, 16, 17, 18, 19, 20, 21] (by decide) rfl
    generalize va_up A 9 x26 = A at hP hD
    refine lv_aload_n hx hb dX4_begin_99 rfl (lv_at hl 0 rfl) ?_
    refine lv_aload_n hx hb dX4_begin_100 rfl (lv_at hl 0 rfl) ?_
    refine va_get (D := G) (ci := 4) (v := .ref (A 10)) (C := RX4) (T := TX4) (N := 32) hx hb hts (fun w h => .tail _ (wl_X4 w h)) hown hK hP 0 rfl rfl 17 (by decide) (hts _ (.tail _ wm_63)) (fun _ h9 => h9) rfl dX4_begin_101 ?_
    obtain ⟨hg31, hf⟩ := of_gd hf
    obtain ⟨d32, hf, ek33⟩ := of_addc hf
    have bhg31 := (wdb_in hg31).1
    have hPc := hP.sub (ws' := [(A 10, .inl (cI, (Ms.nfi z), .inl (Ms.afi z)))]) [10] rfl
    have hDc := hD.sub (ws' := [(A 10, .inl (cI, (Ms.nfi z), .inl (Ms.afi z)))]) [10] (by decide) rfl
    refine gcA (q0 := 10) (gS FX [.ref (A 10)] (c_md_wider l G cI cL cZ cB (A 10) (Ms.nfi z) (Ms.afi z) _ (wdb_in hg31)) (cwS 1 hts (gi_S wm_69 wm_70 wm_6 wm_71) rfl rfl rfl hdS_X4_wider ⟨Nat.le_of_ble_eq_true rfl, Nat.le_of_ble_eq_true rfl⟩) hK hPc hDc rfl hl.1 (Nat.le_of_ble_eq_true rfl) dX4_begin_104 ⟨by show _ ≤ 0 + c0 / 64; omega, by show _ ≤ 0 + c0; omega⟩) hP rfl hS hD hA (fun x30 H locs hP hD hS => ?_)
    refine va_put (D := G) (ci := 4) (v := .ref x30) (ty := .array .int) (C := RX4) (T := TX4) (N := 32) hx hb hts (fun w h => .tail _ (wl_X4 w h)) tyX4 tyX4_ok nmX4 hown hK hP hD hS 0 rfl rfl 17 (by decide) (hts _ (.tail _ wm_63)) (fun _ h9 => h9) rfl (by decide +kernel) rfl rfl (Nat.le_of_ble_eq_true rfl) dX4_begin_107 (fun H locs hP hD hS => ?_)
    have hP := hP.sub (ws' := (mw cI cL cZ cB q (va_up A 10 x30) (Ms.wfi (Ms.snfi (Ms.wca (Ms.snca (Ms.wte (Ms.snte (Ms.wva (Ms.snva (Ms.wke (Ms.snke (Ms.wsr (Ms.snsr (Ms.wsi (Ms.snsi (Ms.wso (Ms.snso (Ms.smad z ((Ms.mad z) + 1)) (2 * (Ms.nso z))) (wdI (Ms.aso z) (Ms.nso z))) (2 * (Ms.nsi z))) (wdI (Ms.asi z) (Ms.nsi z))) (2 * (Ms.nsr z))) (wdI (Ms.asr z) (Ms.nsr z))) (2 * (Ms.nke z))) (wdI (Ms.ake z) (Ms.nke z))) (2 * (Ms.nva z))) (wdI (Ms.ava z) (Ms.nva z))) (2 * (Ms.nte z))) (wdI (Ms.ate z) (Ms.nte z))) (2 * (Ms.nca z))) (wdI (Ms.aca z) (Ms.nca z))) (2 * (Ms.nfi z))) (wdI (Ms.afi z) (Ms.nfi z))))) [0, 1, 2, 3, 4, 5, 6, 7, 8, 9, 22, 11, 12, 13, 14, 15, 16, 17, 18, 19, 20, 21] rfl
    have hD := hD.sub (ws' := (mw cI cL cZ cB q (va_up A 10 x30) (Ms.wfi (Ms.snfi (Ms.wca (Ms.snca (Ms.wte (Ms.snte (Ms.wva (Ms.snva (Ms.wke (Ms.snke (Ms.wsr (Ms.snsr (Ms.wsi (Ms.snsi (Ms.wso (Ms.snso (Ms.smad z ((Ms.mad z) + 1)) (2 * (Ms.nso z))) (wdI (Ms.aso z) (Ms.nso z))) (2 * (Ms.nsi z))) (wdI (Ms.asi z) (Ms.nsi z))) (2 * (Ms.nsr z))) (wdI (Ms.asr z) (Ms.nsr z))) (2 * (Ms.nke z))) (wdI (Ms.ake z) (Ms.nke z))) (2 * (Ms.nva z))) (wdI (Ms.ava z) (Ms.nva z))) (2 * (Ms.nte z))) (wdI (Ms.ate z) (Ms.nte z))) (2 * (Ms.nca z))) (wdI (Ms.aca z) (Ms.nca z))) (2 * (Ms.nfi z))) (wdI (Ms.afi z) (Ms.nfi z))))) [0, 1, 2, 3, 4, 5, 6, 7, 8, 9, 22, 11, 12, 13, 14, 15, 16, 17, 18, 19, 20, 21] (by decide) rfl
    generalize va_up A 10 x30 = A at hP hD
    refine lv_aload_n hx hb dX4_begin_110 rfl (lv_at hl 0 rfl) ?_
    refine lv_aload_n hx hb dX4_begin_111 rfl (lv_at hl 0 rfl) ?_
    refine va_get (D := G) (ci := 4) (v := .ref (A 11)) (C := RX4) (T := TX4) (N := 32) hx hb hts (fun w h => .tail _ (wl_X4 w h)) hown hK hP 0 rfl rfl 18 (by decide) (hts _ (.tail _ wm_64)) (fun _ h9 => h9) rfl dX4_begin_112 ?_
    obtain ⟨hg35, hf⟩ := of_gd hf
    obtain ⟨d36, hf, ek37⟩ := of_addc hf
    have bhg35 := (wdb_in hg35).1
    have hPc := hP.sub (ws' := [(A 11, .inl (cI, (Ms.nod z), .inl (Ms.aod z)))]) [11] rfl
    have hDc := hD.sub (ws' := [(A 11, .inl (cI, (Ms.nod z), .inl (Ms.aod z)))]) [11] (by decide) rfl
    refine gcA (q0 := 11) (gS FX [.ref (A 11)] (c_md_wider l G cI cL cZ cB (A 11) (Ms.nod z) (Ms.aod z) _ (wdb_in hg35)) (cwS 1 hts (gi_S wm_69 wm_70 wm_6 wm_71) rfl rfl rfl hdS_X4_wider ⟨Nat.le_of_ble_eq_true rfl, Nat.le_of_ble_eq_true rfl⟩) hK hPc hDc rfl hl.1 (Nat.le_of_ble_eq_true rfl) dX4_begin_115 ⟨by show _ ≤ 0 + c0 / 64; omega, by show _ ≤ 0 + c0; omega⟩) hP rfl hS hD hA (fun x34 H locs hP hD hS => ?_)
    refine va_put (D := G) (ci := 4) (v := .ref x34) (ty := .array .int) (C := RX4) (T := TX4) (N := 32) hx hb hts (fun w h => .tail _ (wl_X4 w h)) tyX4 tyX4_ok nmX4 hown hK hP hD hS 0 rfl rfl 18 (by decide) (hts _ (.tail _ wm_64)) (fun _ h9 => h9) rfl (by decide +kernel) rfl rfl (Nat.le_of_ble_eq_true rfl) dX4_begin_118 (fun H locs hP hD hS => ?_)
    have hP := hP.sub (ws' := (mw cI cL cZ cB q (va_up A 11 x34) (Ms.wod (Ms.snod (Ms.wfi (Ms.snfi (Ms.wca (Ms.snca (Ms.wte (Ms.snte (Ms.wva (Ms.snva (Ms.wke (Ms.snke (Ms.wsr (Ms.snsr (Ms.wsi (Ms.snsi (Ms.wso (Ms.snso (Ms.smad z ((Ms.mad z) + 1)) (2 * (Ms.nso z))) (wdI (Ms.aso z) (Ms.nso z))) (2 * (Ms.nsi z))) (wdI (Ms.asi z) (Ms.nsi z))) (2 * (Ms.nsr z))) (wdI (Ms.asr z) (Ms.nsr z))) (2 * (Ms.nke z))) (wdI (Ms.ake z) (Ms.nke z))) (2 * (Ms.nva z))) (wdI (Ms.ava z) (Ms.nva z))) (2 * (Ms.nte z))) (wdI (Ms.ate z) (Ms.nte z))) (2 * (Ms.nca z))) (wdI (Ms.aca z) (Ms.nca z))) (2 * (Ms.nfi z))) (wdI (Ms.afi z) (Ms.nfi z))) (2 * (Ms.nod z))) (wdI (Ms.aod z) (Ms.nod z))))) [0, 1, 2, 3, 4, 5, 6, 7, 8, 9, 10, 22, 12, 13, 14, 15, 16, 17, 18, 19, 20, 21] rfl
    have hD := hD.sub (ws' := (mw cI cL cZ cB q (va_up A 11 x34) (Ms.wod (Ms.snod (Ms.wfi (Ms.snfi (Ms.wca (Ms.snca (Ms.wte (Ms.snte (Ms.wva (Ms.snva (Ms.wke (Ms.snke (Ms.wsr (Ms.snsr (Ms.wsi (Ms.snsi (Ms.wso (Ms.snso (Ms.smad z ((Ms.mad z) + 1)) (2 * (Ms.nso z))) (wdI (Ms.aso z) (Ms.nso z))) (2 * (Ms.nsi z))) (wdI (Ms.asi z) (Ms.nsi z))) (2 * (Ms.nsr z))) (wdI (Ms.asr z) (Ms.nsr z))) (2 * (Ms.nke z))) (wdI (Ms.ake z) (Ms.nke z))) (2 * (Ms.nva z))) (wdI (Ms.ava z) (Ms.nva z))) (2 * (Ms.nte z))) (wdI (Ms.ate z) (Ms.nte z))) (2 * (Ms.nca z))) (wdI (Ms.aca z) (Ms.nca z))) (2 * (Ms.nfi z))) (wdI (Ms.afi z) (Ms.nfi z))) (2 * (Ms.nod z))) (wdI (Ms.aod z) (Ms.nod z))))) [0, 1, 2, 3, 4, 5, 6, 7, 8, 9, 10, 22, 12, 13, 14, 15, 16, 17, 18, 19, 20, 21] (by decide) rfl
    generalize va_up A 11 x34 = A at hP hD
    refine lv_aload_n hx hb dX4_begin_121 rfl (lv_at hl 0 rfl) ?_
    refine lv_aload_n hx hb dX4_begin_122 rfl (lv_at hl 0 rfl) ?_
    refine va_get (D := G) (ci := 4) (v := .ref (A 12)) (C := RX4) (T := TX4) (N := 32) hx hb hts (fun w h => .tail _ (wl_X4 w h)) hown hK hP 0 rfl rfl 19 (by decide) (hts _ (.tail _ wm_33)) (fun _ h9 => h9) rfl dX4_begin_123 ?_
    obtain ⟨hg39, hf⟩ := of_gd hf
    obtain ⟨d40, hf, ek41⟩ := of_addc hf
    have bhg39 := (wdb_in hg39).1
    have hPc := hP.sub (ws' := [(A 12, .inl (cZ, (Ms.nth z), .inl (Ms.ath z)))]) [12] rfl
    have hDc := hD.sub (ws' := [(A 12, .inl (cZ, (Ms.nth z), .inl (Ms.ath z)))]) [12] (by decide) rfl
    refine gcA (q0 := 12) (gS FX [.ref (A 12)] (c_md_widerTruths l G cI cL cZ cB (A 12) (Ms.nth z) (Ms.ath z) _ (wdb_in hg39)) (cwS 1 hts (gi_S wm_66 wm_67 wm_6 wm_68) rfl rfl rfl hdS_X4_widerTruths ⟨Nat.le_of_ble_eq_true rfl, Nat.le_of_ble_eq_true rfl⟩) hK hPc hDc rfl hl.1 (Nat.le_of_ble_eq_true rfl) dX4_begin_126 ⟨by show _ ≤ 0 + c0 / 64; omega, by show _ ≤ 0 + c0; omega⟩) hP rfl hS hD hA (fun x38 H locs hP hD hS => ?_)
    refine va_put (D := G) (ci := 4) (v := .ref x38) (ty := .array .boolean) (C := RX4) (T := TX4) (N := 32) hx hb hts (fun w h => .tail _ (wl_X4 w h)) tyX4 tyX4_ok nmX4 hown hK hP hD hS 0 rfl rfl 19 (by decide) (hts _ (.tail _ wm_33)) (fun _ h9 => h9) rfl (by decide +kernel) rfl rfl (Nat.le_of_ble_eq_true rfl) dX4_begin_129 (fun H locs hP hD hS => ?_)
    have hP := hP.sub (ws' := (mw cI cL cZ cB q (va_up A 12 x38) (Ms.wth (Ms.snth (Ms.wod (Ms.snod (Ms.wfi (Ms.snfi (Ms.wca (Ms.snca (Ms.wte (Ms.snte (Ms.wva (Ms.snva (Ms.wke (Ms.snke (Ms.wsr (Ms.snsr (Ms.wsi (Ms.snsi (Ms.wso (Ms.snso (Ms.smad z ((Ms.mad z) + 1)) (2 * (Ms.nso z))) (wdI (Ms.aso z) (Ms.nso z))) (2 * (Ms.nsi z))) (wdI (Ms.asi z) (Ms.nsi z))) (2 * (Ms.nsr z))) (wdI (Ms.asr z) (Ms.nsr z))) (2 * (Ms.nke z))) (wdI (Ms.ake z) (Ms.nke z))) (2 * (Ms.nva z))) (wdI (Ms.ava z) (Ms.nva z))) (2 * (Ms.nte z))) (wdI (Ms.ate z) (Ms.nte z))) (2 * (Ms.nca z))) (wdI (Ms.aca z) (Ms.nca z))) (2 * (Ms.nfi z))) (wdI (Ms.afi z) (Ms.nfi z))) (2 * (Ms.nod z))) (wdI (Ms.aod z) (Ms.nod z))) (2 * (Ms.nth z))) (wdZ (Ms.ath z) (Ms.nth z))))) [0, 1, 2, 3, 4, 5, 6, 7, 8, 9, 10, 11, 22, 13, 14, 15, 16, 17, 18, 19, 20, 21] rfl
    have hD := hD.sub (ws' := (mw cI cL cZ cB q (va_up A 12 x38) (Ms.wth (Ms.snth (Ms.wod (Ms.snod (Ms.wfi (Ms.snfi (Ms.wca (Ms.snca (Ms.wte (Ms.snte (Ms.wva (Ms.snva (Ms.wke (Ms.snke (Ms.wsr (Ms.snsr (Ms.wsi (Ms.snsi (Ms.wso (Ms.snso (Ms.smad z ((Ms.mad z) + 1)) (2 * (Ms.nso z))) (wdI (Ms.aso z) (Ms.nso z))) (2 * (Ms.nsi z))) (wdI (Ms.asi z) (Ms.nsi z))) (2 * (Ms.nsr z))) (wdI (Ms.asr z) (Ms.nsr z))) (2 * (Ms.nke z))) (wdI (Ms.ake z) (Ms.nke z))) (2 * (Ms.nva z))) (wdI (Ms.ava z) (Ms.nva z))) (2 * (Ms.nte z))) (wdI (Ms.ate z) (Ms.nte z))) (2 * (Ms.nca z))) (wdI (Ms.aca z) (Ms.nca z))) (2 * (Ms.nfi z))) (wdI (Ms.afi z) (Ms.nfi z))) (2 * (Ms.nod z))) (wdI (Ms.aod z) (Ms.nod z))) (2 * (Ms.nth z))) (wdZ (Ms.ath z) (Ms.nth z))))) [0, 1, 2, 3, 4, 5, 6, 7, 8, 9, 10, 11, 22, 13, 14, 15, 16, 17, 18, 19, 20, 21] (by decide) rfl
    generalize va_up A 12 x38 = A at hP hD
    refine lv_aload_n hx hb dX4_begin_132 rfl (lv_at hl 0 rfl) ?_
    refine lv_aload_n hx hb dX4_begin_133 rfl (lv_at hl 0 rfl) ?_
    refine va_get (D := G) (ci := 4) (v := .ref (A 13)) (C := RX4) (T := TX4) (N := 32) hx hb hts (fun w h => .tail _ (wl_X4 w h)) hown hK hP 0 rfl rfl 20 (by decide) (hts _ (.tail _ wm_65)) (fun _ h9 => h9) rfl dX4_begin_134 ?_
    obtain ⟨hg43, hf⟩ := of_gd hf
    obtain ⟨d44, hf, ek45⟩ := of_addc hf
    have bhg43 := (wdb_in hg43).1
    have hPc := hP.sub (ws' := [(A 13, .inl (cZ, (Ms.nkp z), .inl (Ms.akp z)))]) [13] rfl
    have hDc := hD.sub (ws' := [(A 13, .inl (cZ, (Ms.nkp z), .inl (Ms.akp z)))]) [13] (by decide) rfl
    refine gcA (q0 := 13) (gS FX [.ref (A 13)] (c_md_widerTruths l G cI cL cZ cB (A 13) (Ms.nkp z) (Ms.akp z) _ (wdb_in hg43)) (cwS 1 hts (gi_S wm_66 wm_67 wm_6 wm_68) rfl rfl rfl hdS_X4_widerTruths ⟨Nat.le_of_ble_eq_true rfl, Nat.le_of_ble_eq_true rfl⟩) hK hPc hDc rfl hl.1 (Nat.le_of_ble_eq_true rfl) dX4_begin_137 ⟨by show _ ≤ 0 + c0 / 64; omega, by show _ ≤ 0 + c0; omega⟩) hP rfl hS hD hA (fun x42 H locs hP hD hS => ?_)
    refine va_put (D := G) (ci := 4) (v := .ref x42) (ty := .array .boolean) (C := RX4) (T := TX4) (N := 32) hx hb hts (fun w h => .tail _ (wl_X4 w h)) tyX4 tyX4_ok nmX4 hown hK hP hD hS 0 rfl rfl 20 (by decide) (hts _ (.tail _ wm_65)) (fun _ h9 => h9) rfl (by decide +kernel) rfl rfl (Nat.le_of_ble_eq_true rfl) dX4_begin_140 (fun H locs hP hD hS => ?_)
    have hP := hP.sub (ws' := (mw cI cL cZ cB q (va_up A 13 x42) (Ms.wkp (Ms.snkp (Ms.wth (Ms.snth (Ms.wod (Ms.snod (Ms.wfi (Ms.snfi (Ms.wca (Ms.snca (Ms.wte (Ms.snte (Ms.wva (Ms.snva (Ms.wke (Ms.snke (Ms.wsr (Ms.snsr (Ms.wsi (Ms.snsi (Ms.wso (Ms.snso (Ms.smad z ((Ms.mad z) + 1)) (2 * (Ms.nso z))) (wdI (Ms.aso z) (Ms.nso z))) (2 * (Ms.nsi z))) (wdI (Ms.asi z) (Ms.nsi z))) (2 * (Ms.nsr z))) (wdI (Ms.asr z) (Ms.nsr z))) (2 * (Ms.nke z))) (wdI (Ms.ake z) (Ms.nke z))) (2 * (Ms.nva z))) (wdI (Ms.ava z) (Ms.nva z))) (2 * (Ms.nte z))) (wdI (Ms.ate z) (Ms.nte z))) (2 * (Ms.nca z))) (wdI (Ms.aca z) (Ms.nca z))) (2 * (Ms.nfi z))) (wdI (Ms.afi z) (Ms.nfi z))) (2 * (Ms.nod z))) (wdI (Ms.aod z) (Ms.nod z))) (2 * (Ms.nth z))) (wdZ (Ms.ath z) (Ms.nth z))) (2 * (Ms.nkp z))) (wdZ (Ms.akp z) (Ms.nkp z))))) [0, 1, 2, 3, 4, 5, 6, 7, 8, 9, 10, 11, 12, 22, 14, 15, 16, 17, 18, 19, 20, 21] rfl
    have hD := hD.sub (ws' := (mw cI cL cZ cB q (va_up A 13 x42) (Ms.wkp (Ms.snkp (Ms.wth (Ms.snth (Ms.wod (Ms.snod (Ms.wfi (Ms.snfi (Ms.wca (Ms.snca (Ms.wte (Ms.snte (Ms.wva (Ms.snva (Ms.wke (Ms.snke (Ms.wsr (Ms.snsr (Ms.wsi (Ms.snsi (Ms.wso (Ms.snso (Ms.smad z ((Ms.mad z) + 1)) (2 * (Ms.nso z))) (wdI (Ms.aso z) (Ms.nso z))) (2 * (Ms.nsi z))) (wdI (Ms.asi z) (Ms.nsi z))) (2 * (Ms.nsr z))) (wdI (Ms.asr z) (Ms.nsr z))) (2 * (Ms.nke z))) (wdI (Ms.ake z) (Ms.nke z))) (2 * (Ms.nva z))) (wdI (Ms.ava z) (Ms.nva z))) (2 * (Ms.nte z))) (wdI (Ms.ate z) (Ms.nte z))) (2 * (Ms.nca z))) (wdI (Ms.aca z) (Ms.nca z))) (2 * (Ms.nfi z))) (wdI (Ms.afi z) (Ms.nfi z))) (2 * (Ms.nod z))) (wdI (Ms.aod z) (Ms.nod z))) (2 * (Ms.nth z))) (wdZ (Ms.ath z) (Ms.nth z))) (2 * (Ms.nkp z))) (wdZ (Ms.akp z) (Ms.nkp z))))) [0, 1, 2, 3, 4, 5, 6, 7, 8, 9, 10, 11, 12, 22, 14, 15, 16, 17, 18, 19, 20, 21] (by decide) rfl
    generalize va_up A 13 x42 = A at hP hD
    refine lv_aload_n hx hb dX4_begin_143 rfl (lv_at hl 0 rfl) ?_
    refine lv_aload_n hx hb dX4_begin_144 rfl (lv_at hl 0 rfl) ?_
    refine va_get (D := G) (ci := 4) (v := .ref (A 14)) (C := RX4) (T := TX4) (N := 32) hx hb hts (fun w h => .tail _ (wl_X4 w h)) hown hK hP 0 rfl rfl 21 (by decide) (hts _ (.tail _ wm_18)) (fun _ h9 => h9) rfl dX4_begin_145 ?_
    obtain ⟨hg47, hf⟩ := of_gd hf
    obtain ⟨d48, hf, ek49⟩ := of_addc hf
    have bhg47 := (wdb_in hg47).1
    have hPc := hP.sub (ws' := [(A 14, .inl (cZ, (Ms.nre z), .inl (Ms.are z)))]) [14] rfl
    have hDc := hD.sub (ws' := [(A 14, .inl (cZ, (Ms.nre z), .inl (Ms.are z)))]) [14] (by decide) rfl
    refine gcA (q0 := 14) (gS FX [.ref (A 14)] (c_md_widerTruths l G cI cL cZ cB (A 14) (Ms.nre z) (Ms.are z) _ (wdb_in hg47)) (cwS 1 hts (gi_S wm_66 wm_67 wm_6 wm_68) rfl rfl rfl hdS_X4_widerTruths ⟨Nat.le_of_ble_eq_true rfl, Nat.le_of_ble_eq_true rfl⟩) hK hPc hDc rfl hl.1 (Nat.le_of_ble_eq_true rfl) dX4_begin_148 ⟨by show _ ≤ 0 + c0 / 64; omega, by show _ ≤ 0 + c0; omega⟩) hP rfl hS hD hA (fun x46 H locs hP hD hS => ?_)
    refine va_put (D := G) (ci := 4) (v := .ref x46) (ty := .array .boolean) (C := RX4) (T := TX4) (N := 32) hx hb hts (fun w h => .tail _ (wl_X4 w h)) tyX4 tyX4_ok nmX4 hown hK hP hD hS 0 rfl rfl 21 (by decide) (hts _ (.tail _ wm_18)) (fun _ h9 => h9) rfl (by decide +kernel) rfl rfl (Nat.le_of_ble_eq_true rfl) dX4_begin_151 (fun H locs hP hD hS => ?_)
    have hP := hP.sub (ws' := (mw cI cL cZ cB q (va_up A 14 x46) (Ms.wre (Ms.snre (Ms.wkp (Ms.snkp (Ms.wth (Ms.snth (Ms.wod (Ms.snod (Ms.wfi (Ms.snfi (Ms.wca (Ms.snca (Ms.wte (Ms.snte (Ms.wva (Ms.snva (Ms.wke (Ms.snke (Ms.wsr (Ms.snsr (Ms.wsi (Ms.snsi (Ms.wso (Ms.snso (Ms.smad z ((Ms.mad z) + 1)) (2 * (Ms.nso z))) (wdI (Ms.aso z) (Ms.nso z))) (2 * (Ms.nsi z))) (wdI (Ms.asi z) (Ms.nsi z))) (2 * (Ms.nsr z))) (wdI (Ms.asr z) (Ms.nsr z))) (2 * (Ms.nke z))) (wdI (Ms.ake z) (Ms.nke z))) (2 * (Ms.nva z))) (wdI (Ms.ava z) (Ms.nva z))) (2 * (Ms.nte z))) (wdI (Ms.ate z) (Ms.nte z))) (2 * (Ms.nca z))) (wdI (Ms.aca z) (Ms.nca z))) (2 * (Ms.nfi z))) (wdI (Ms.afi z) (Ms.nfi z))) (2 * (Ms.nod z))) (wdI (Ms.aod z) (Ms.nod z))) (2 * (Ms.nth z))) (wdZ (Ms.ath z) (Ms.nth z))) (2 * (Ms.nkp z))) (wdZ (Ms.akp z) (Ms.nkp z))) (2 * (Ms.nre z))) (wdZ (Ms.are z) (Ms.nre z))))) [0, 1, 2, 3, 4, 5, 6, 7, 8, 9, 10, 11, 12, 13, 22, 15, 16, 17, 18, 19, 20, 21] rfl
    have hD := hD.sub (ws' := (mw cI cL cZ cB q (va_up A 14 x46) (Ms.wre (Ms.snre (Ms.wkp (Ms.snkp (Ms.wth (Ms.snth (Ms.wod (Ms.snod (Ms.wfi (Ms.snfi (Ms.wca (Ms.snca (Ms.wte (Ms.snte (Ms.wva (Ms.snva (Ms.wke (Ms.snke (Ms.wsr (Ms.snsr (Ms.wsi (Ms.snsi (Ms.wso (Ms.snso (Ms.smad z ((Ms.mad z) + 1)) (2 * (Ms.nso z))) (wdI (Ms.aso z) (Ms.nso z))) (2 * (Ms.nsi z))) (wdI (Ms.asi z) (Ms.nsi z))) (2 * (Ms.nsr z))) (wdI (Ms.asr z) (Ms.nsr z))) (2 * (Ms.nke z))) (wdI (Ms.ake z) (Ms.nke z))) (2 * (Ms.nva z))) (wdI (Ms.ava z) (Ms.nva z))) (2 * (Ms.nte z))) (wdI (Ms.ate z) (Ms.nte z))) (2 * (Ms.nca z))) (wdI (Ms.aca z) (Ms.nca z))) (2 * (Ms.nfi z))) (wdI (Ms.afi z) (Ms.nfi z))) (2 * (Ms.nod z))) (wdI (Ms.aod z) (Ms.nod z))) (2 * (Ms.nth z))) (wdZ (Ms.ath z) (Ms.nth z))) (2 * (Ms.nkp z))) (wdZ (Ms.akp z) (Ms.nkp z))) (2 * (Ms.nre z))) (wdZ (Ms.are z) (Ms.nre z))))) [0, 1, 2, 3, 4, 5, 6, 7, 8, 9, 10, 11, 12, 13, 22, 15, 16, 17, 18, 19, 20, 21] (by decide) rfl
    generalize va_up A 14 x46 = A at hP hD
    exact L_md_begin_j154 _ _ _ _ _ _ _ _ _ _ _ _ _ _ _ _ _ _ _ C hK _ _ _ _ _ _ _ _ _ _ hP hD hS (lv_sub hl [0, 1, 2] rfl) hf (by omega) (by omega)
