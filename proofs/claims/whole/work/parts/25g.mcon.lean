def At_md_wrong_j86 (l : Launch) (G : va_G) (cI cL cZ cB : ClassId) (q : Nat) (A : Nat → Nat) (z : Ms) (p : Program) (e : Env) (s : State) (m : MethodId) (args : Array Value) (below : List Frame) (meth : Method) (c : Code) (O0 : Int32) (mcT msT : Nat) (F : Ms → Option (Int32)) : Prop := ∀ (_ : Unit) (H : Heap) (locs : List Loc) (ls : Array Slot) (cells slots : Nat), va_P G vwCl (mw cI cL cZ cB q A z) H → va_D (va_A (mw cI cL cZ cB q A z) s.heap.size) (mw cI cL cZ cB q A z) → va_S (va_A (mw cI cL cZ cB q A z) s.heap.size) s.heap H locs → lv_has ls 4 [] → F z = some O0 → cells + 0 ≤ mcT → slots + 0 ≤ msT → W p l e { frames := 2, cells := mcT, slots := msT, locals := 47 } s m args below meth c H locs cells slots (MQ below (qRi G vwCl (mt cI cL cZ cB) (mw cI cL cZ cB q A z) s.heap.size O0) args s mcT msT (va_A (mw cI cL cZ cB q A z) s.heap.size)) (F0 m 86 ls [])
set_option maxHeartbeats 4000000 in
set_option maxRecDepth 100000 in
theorem L_md_wrong_j86 (l : Launch) (G : va_G) (cI cL cZ cB : ClassId) (q : Nat) (A : Nat → Nat) (z : Ms) (p : Program) (e : Env) (s : State) (m : MethodId) (args : Array Value) (below : List Frame) (meth : Method) (c : Code) (O0 : Int32) (mcT msT : Nat) (C : MC p s m args meth c cX4_wrong 4 (some .int) RX4 vX4_wrong) (hK : va_K G vwCl (mt cI cL cZ cB) s) : At_md_wrong_j86 l G cI cL cZ cB q A z p e s m args below meth c O0 mcT msT md_wrong_j86 := by
  obtain ⟨hx, hb, hr, hml, hown, hts, hlocks⟩ := id C
  have FX : CallFix p m c cX4_wrong 4 s args vX4_wrong RX4 := ⟨hx, hb, hml, hown, hts⟩
  have hA : ∀ q9 : Nat, s.heap.size ≤ q9 → va_A (mw cI cL cZ cB q A z) s.heap.size q9 := fun q9 h => Or.inr h
  intro _ H locs ls cells slots hP hD hS hl hf hcc hss
  unfold md_wrong_j86 at hf
  refine lv_iconst (v := 0) hx hb dX4_wrong_86 (by decide) ?_
  obtain rfl := Option.some.inj hf
  exact grRi hx hb hr hlocks hP hK hD hS dX4_wrong_87 (by omega) (by omega)
set_option maxHeartbeats 4000000 in
set_option maxRecDepth 100000 in
theorem c_md_wrong (l : Launch) (G : va_G) (cI cL cZ cB : ClassId) (q : Nat) (A : Nat → Nat) (z : Ms) (sz : Nat) (p0 : Int32) (p1 : Int32) (p2 : Int32) (O0 : Int32) (hf : md_wrong z p0 p1 p2 = some O0) : Met l yX4_wrong vX4_wrong { frames := 2, cells := 0, slots := 0, locals := 47 } (gPc G vwCl (mt cI cL cZ cB) [.ref q, .int p0, .int p1, .int p2] (mw cI cL cZ cB q A z) sz) (qRi G vwCl (mt cI cL cZ cB) (mw cI cL cZ cB q A z) sz O0) 0 0 (va_A (mw cI cL cZ cB q A z) sz) := by
  refine gMet (by decide) rfl (Nat.le_of_ble_eq_true rfl) ?_
  intro p e s m below meth c ls C hK hP hD hsz hl
  subst hsz
  obtain ⟨hx, hb, hr, hml, hown, hts, hlocks⟩ := id C
  have FX : CallFix p m c cX4_wrong 4 s _ vX4_wrong RX4 := ⟨hx, hb, hml, hown, hts⟩
  have hA : ∀ q9 : Nat, s.heap.size ≤ q9 → va_A (mw cI cL cZ cB q A z) s.heap.size q9 := fun q9 h => Or.inr h
  have hS : va_S (va_A (mw cI cL cZ cB q A z) s.heap.size) s.heap s.heap [] := va_S.rf
  have hl : lv_has ls 4 [(0, .ref q), (1, .int p0), (2, .int p1), (3, .int p2)] := hl
  unfold md_wrong at hf
  refine lv_iload_n hx hb dX4_wrong_0 rfl (lv_at hl 1 rfl) ?_
  obtain ⟨r1, ho1, hf⟩ := of_b0 hf
  refine gcRi (gS FX [.int p0] (c_md_isRegister l G cI cL cZ cB q A z _ p0 _ ho1) (cwS 1 hts (gi_S wm_79 wm_80 wm_6 wm_81) rfl rfl rfl hdS_X4_isRegister ⟨Nat.le_of_ble_eq_true rfl, Nat.le_of_ble_eq_true rfl⟩) hK hP hD rfl hl.1 (Nat.le_of_ble_eq_true rfl) dX4_wrong_1 ⟨by show _ ≤ 0; omega, by show _ ≤ 0; omega⟩) hS hD hA (fun H locs hP hS => ?_)
  refine lv_if_eq (tgt := 14) hx hb dX4_wrong_4 (by decide) (fun c2 => ?_) (fun c2 => ?_)
  · have hf := (if_pos c2).symm.trans hf
    refine lv_iconst (v := 1) hx hb dX4_wrong_14 (by decide) ?_
    obtain rfl := Option.some.inj hf
    exact grRi hx hb hr hlocks hP hK hD hS dX4_wrong_15 (by omega) (by omega)
  · have hf := (if_neg c2).symm.trans hf
    refine lv_iload_n hx hb dX4_wrong_7 rfl (lv_at hl 2 rfl) ?_
    obtain ⟨r3, ho3, hf⟩ := of_b0 hf
    refine gcRi (gS FX [.int p1] (c_md_isRegister l G cI cL cZ cB q A z _ p1 _ ho3) (cwS 1 hts (gi_S wm_79 wm_80 wm_6 wm_81) rfl rfl rfl hdS_X4_isRegister ⟨Nat.le_of_ble_eq_true rfl, Nat.le_of_ble_eq_true rfl⟩) hK hP hD rfl hl.1 (Nat.le_of_ble_eq_true rfl) dX4_wrong_8 ⟨by show _ ≤ 0; omega, by show _ ≤ 0; omega⟩) hS hD hA (fun H locs hP hS => ?_)
    refine lv_if_ne (tgt := 16) hx hb dX4_wrong_11 (by decide) (fun c4 => ?_) (fun c4 => ?_)
    · have hf := (if_neg c4).symm.trans hf
      refine lv_aload_n hx hb dX4_wrong_16 rfl (lv_at hl 0 rfl) ?_
      refine lv_iload_n hx hb dX4_wrong_17 rfl (lv_at hl 1 rfl) ?_
      refine lv_iconst (v := 4) hx hb dX4_wrong_18 (by decide) ?_
      obtain ⟨r5, ho5, hf⟩ := of_b0 hf
      refine gcRi (gV FX [.int p0, .int 4] (c_md_is l G cI cL cZ cB q A z _ p0 4 _ ho5) (cwV 2 hts (gi_V wm_3 wm_4 wm_5 wm_6 wm_7) rfl rfl rfl hdV_X4_is ⟨Nat.le_of_ble_eq_true rfl, Nat.le_of_ble_eq_true rfl⟩) hK hP hD 0 rfl rfl rfl hl.1 (Nat.le_of_ble_eq_true rfl) dX4_wrong_19 ⟨by show _ ≤ 0; omega, by show _ ≤ 0; omega⟩) hS hD hA (fun H locs hP hS => ?_)
      refine lv_if_eq (tgt := 34) hx hb dX4_wrong_22 (by decide) (fun c6 => ?_) (fun c6 => ?_)
      · have hf := (if_pos c6).symm.trans hf
        refine lv_iconst (v := 2) hx hb dX4_wrong_34 (by decide) ?_
        obtain rfl := Option.some.inj hf
        exact grRi hx hb hr hlocks hP hK hD hS dX4_wrong_35 (by omega) (by omega)
      · have hf := (if_neg c6).symm.trans hf
        refine lv_aload_n hx hb dX4_wrong_25 rfl (lv_at hl 0 rfl) ?_
        refine lv_iload_n hx hb dX4_wrong_26 rfl (lv_at hl 2 rfl) ?_
        refine lv_iconst (v := 2) hx hb dX4_wrong_27 (by decide) ?_
        obtain ⟨r7, ho7, hf⟩ := of_b0 hf
        refine gcRi (gV FX [.int p1, .int 2] (c_md_is l G cI cL cZ cB q A z _ p1 2 _ ho7) (cwV 2 hts (gi_V wm_3 wm_4 wm_5 wm_6 wm_7) rfl rfl rfl hdV_X4_is ⟨Nat.le_of_ble_eq_true rfl, Nat.le_of_ble_eq_true rfl⟩) hK hP hD 0 rfl rfl rfl hl.1 (Nat.le_of_ble_eq_true rfl) dX4_wrong_28 ⟨by show _ ≤ 0; omega, by show _ ≤ 0; omega⟩) hS hD hA (fun H locs hP hS => ?_)
        refine lv_if_ne (tgt := 36) hx hb dX4_wrong_31 (by decide) (fun c8 => ?_) (fun c8 => ?_)
        · have hf := (if_neg c8).symm.trans hf
          refine lv_aload_n hx hb dX4_wrong_36 rfl (lv_at hl 0 rfl) ?_
          refine lv_iload_n hx hb dX4_wrong_37 rfl (lv_at hl 2 rfl) ?_
          refine lv_aload_n hx hb dX4_wrong_38 rfl (lv_at hl 0 rfl) ?_
          refine va_get (D := G) (ci := 4) (v := .ref (A 6)) (C := RX4) (T := TX4) (N := 32) hx hb hts (fun w h => .tail _ (wl_X4 w h)) hown hK hP 0 rfl rfl 13 (by decide) (hts _ (.tail _ wm_9)) (fun _ h9 => h9) rfl dX4_wrong_39 ?_
          refine lv_aload_n hx hb dX4_wrong_42 rfl (lv_at hl 0 rfl) ?_
          refine va_get (D := G) (ci := 4) (v := .ref (A 1)) (C := RX4) (T := TX4) (N := 32) hx hb hts (fun w h => .tail _ (wl_X4 w h)) hown hK hP 0 rfl rfl 7 (by decide) (hts _ (.tail _ wm_1)) (fun _ h9 => h9) rfl dX4_wrong_43 ?_
          refine lv_iload_n hx hb dX4_wrong_46 rfl (lv_at hl 1 rfl) ?_
          obtain ⟨hg9, hf⟩ := of_gd hf
          refine va_iald (f := (Ms.atg z)) (n := (Ms.ntg z)) hx hb hK hP 1 0 rfl rfl (inb_in hg9) dX4_wrong_47 ?_
          obtain ⟨hg10, hf⟩ := of_gd hf
          refine va_iald (f := (Ms.ake z)) (n := (Ms.nke z)) hx hb hK hP 6 0 rfl rfl (inb_in hg10) dX4_wrong_48 ?_
          refine lv_aload_n hx hb dX4_wrong_49 rfl (lv_at hl 0 rfl) ?_
          refine va_get (D := G) (ci := 4) (v := .ref (A 7)) (C := RX4) (T := TX4) (N := 32) hx hb hts (fun w h => .tail _ (wl_X4 w h)) hown hK hP 0 rfl rfl 14 (by decide) (hts _ (.tail _ wm_10)) (fun _ h9 => h9) rfl dX4_wrong_50 ?_
          refine lv_aload_n hx hb dX4_wrong_53 rfl (lv_at hl 0 rfl) ?_
          refine va_get (D := G) (ci := 4) (v := .ref (A 1)) (C := RX4) (T := TX4) (N := 32) hx hb hts (fun w h => .tail _ (wl_X4 w h)) hown hK hP 0 rfl rfl 7 (by decide) (hts _ (.tail _ wm_1)) (fun _ h9 => h9) rfl dX4_wrong_54 ?_
          refine lv_iload_n hx hb dX4_wrong_57 rfl (lv_at hl 1 rfl) ?_
          obtain ⟨hg11, hf⟩ := of_gd hf
          refine va_iald (f := (Ms.atg z)) (n := (Ms.ntg z)) hx hb hK hP 1 0 rfl rfl (inb_in hg11) dX4_wrong_58 ?_
          obtain ⟨hg12, hf⟩ := of_gd hf
          refine va_iald (f := (Ms.ava z)) (n := (Ms.nva z)) hx hb hK hP 7 0 rfl rfl (inb_in hg12) dX4_wrong_59 ?_
          refine lv_iadd hx hb dX4_wrong_60 ?_
          obtain ⟨r13, ho13, hf⟩ := of_b0 hf
          refine gcRi (gV FX [.int p1, .int (((Ms.ake z) ((Ms.atg z) p0.toNatClampNeg).toNatClampNeg) + ((Ms.ava z) ((Ms.atg z) p0.toNatClampNeg).toNatClampNeg))] (c_md_hasWords l G cI cL cZ cB q A z _ p1 (((Ms.ake z) ((Ms.atg z) p0.toNatClampNeg).toNatClampNeg) + ((Ms.ava z) ((Ms.atg z) p0.toNatClampNeg).toNatClampNeg)) _ ho13) (cwV 2 hts (gi_V wm_130 wm_131 wm_132 wm_6 wm_133) rfl rfl rfl hdV_X4_hasWords ⟨Nat.le_of_ble_eq_true rfl, Nat.le_of_ble_eq_true rfl⟩) hK hP hD 0 rfl rfl rfl hl.1 (Nat.le_of_ble_eq_true rfl) dX4_wrong_61 ⟨by show _ ≤ 0; omega, by show _ ≤ 0; omega⟩) hS hD hA (fun H locs hP hS => ?_)
          refine lv_if_ne (tgt := 69) hx hb dX4_wrong_64 (by decide) (fun c14 => ?_) (fun c14 => ?_)
          · have hf := (if_neg c14).symm.trans hf
            refine lv_iload_n hx hb dX4_wrong_69 rfl (lv_at hl 3 rfl) ?_
            refine lv_if_eq (tgt := 86) hx hb dX4_wrong_70 (by decide) (fun c15 => ?_) (fun c15 => ?_)
            · have hf := (if_pos c15).symm.trans hf
              exact L_md_wrong_j86 _ _ _ _ _ _ _ _ _ _ _ _ _ _ _ _ _ _ _ _ C hK () _ _ _ _ _ hP hD hS (lv_sub hl [] rfl) hf (by omega) (by omega)
            · have hf := (if_neg c15).symm.trans hf
              refine lv_aload_n hx hb dX4_wrong_73 rfl (lv_at hl 0 rfl) ?_
              refine lv_iload_n hx hb dX4_wrong_74 rfl (lv_at hl 1 rfl) ?_
              refine lv_iload_n hx hb dX4_wrong_75 rfl (lv_at hl 2 rfl) ?_
              obtain ⟨r16, ho16, hf⟩ := of_b0 hf
              refine gcRi (gV FX [.int p0, .int p1] (c_md_isTextual l G cI cL cZ cB q A z _ p0 p1 _ ho16) (cwV 2 hts (gi_V wm_138 wm_139 wm_140 wm_6 wm_141) rfl rfl rfl hdV_X4_isTextual ⟨Nat.le_of_ble_eq_true rfl, Nat.le_of_ble_eq_true rfl⟩) hK hP hD 0 rfl rfl rfl hl.1 (Nat.le_of_ble_eq_true rfl) dX4_wrong_76 ⟨by show _ ≤ 0; omega, by show _ ≤ 0; omega⟩) hS hD hA (fun H locs hP hS => ?_)
              refine lv_if_ne (tgt := 86) hx hb dX4_wrong_79 (by decide) (fun c17 => ?_) (fun c17 => ?_)
              · have hf := (if_neg c17).symm.trans hf
                exact L_md_wrong_j86 _ _ _ _ _ _ _ _ _ _ _ _ _ _ _ _ _ _ _ _ C hK () _ _ _ _ _ hP hD hS (lv_sub hl [] rfl) hf (by omega) (by omega)
              · have hf := (if_pos c17).symm.trans hf
                refine lv_iconst (v := 2) hx hb dX4_wrong_82 (by decide) ?_
                refine lv_goto (tgt := 87) hx hb dX4_wrong_83 (by decide) ?_
                obtain rfl := Option.some.inj hf
                exact grRi hx hb hr hlocks hP hK hD hS dX4_wrong_87 (by omega) (by omega)
          · have hf := (if_pos c14).symm.trans hf
            refine lv_iconst (v := 3) hx hb dX4_wrong_67 (by decide) ?_
            obtain rfl := Option.some.inj hf
            exact grRi hx hb hr hlocks hP hK hD hS dX4_wrong_68 (by omega) (by omega)
        · have hf := (if_pos c8).symm.trans hf
          refine lv_iconst (v := 2) hx hb dX4_wrong_34 (by decide) ?_
          obtain rfl := Option.some.inj hf
          exact grRi hx hb hr hlocks hP hK hD hS dX4_wrong_35 (by omega) (by omega)
    · have hf := (if_pos c4).symm.trans hf
      refine lv_iconst (v := 1) hx hb dX4_wrong_14 (by decide) ?_
      obtain rfl := Option.some.inj hf
      exact grRi hx hb hr hlocks hP hK hD hS dX4_wrong_15 (by omega) (by omega)
def At_md_entriesOf_l4 (l : Launch) (G : va_G) (cI cL cZ cB : ClassId) (q : Nat) (A : Nat → Nat) (z : Ms) (p : Program) (e : Env) (s : State) (m : MethodId) (args : Array Value) (below : List Frame) (meth : Method) (c : Code) (O0 : Int32) (mcT msT : Nat) (F : Int32 → Int32 → Int32 → Ms → Option (Int32)) : Prop := ∀ (x1 : Int32) (x2 : Int32) (x3 : Int32) (H : Heap) (locs : List Loc) (ls : Array Slot) (cells slots : Nat), va_P G vwCl (mw cI cL cZ cB q A z) H → va_D (va_A (mw cI cL cZ cB q A z) s.heap.size) (mw cI cL cZ cB q A z) → va_S (va_A (mw cI cL cZ cB q A z) s.heap.size) s.heap H locs → lv_has ls 4 [(0, .ref q), (1, .int x1), (2, .int x2), (3, .int x3)] → F x1 x2 x3 z = some O0 → cells + 0 ≤ mcT → slots + 0 ≤ msT → W p l e { frames := 0, cells := mcT, slots := msT, locals := 0 } s m args below meth c H locs cells slots (MQ below (qRi G vwCl (mt cI cL cZ cB) (mw cI cL cZ cB q A z) s.heap.size O0) args s mcT msT (va_A (mw cI cL cZ cB q A z) s.heap.size)) (F0 m 4 ls [])
set_option maxHeartbeats 4000000 in
set_option maxRecDepth 100000 in
theorem L_md_entriesOf_l4 (l : Launch) (G : va_G) (cI cL cZ cB : ClassId) (q : Nat) (A : Nat → Nat) (z : Ms) (p : Program) (e : Env) (s : State) (m : MethodId) (args : Array Value) (below : List Frame) (meth : Method) (c : Code) (O0 : Int32) (mcT msT : Nat) (C : MC p s m args meth c cX4_entriesOf 4 (some .int) RX4 vX4_entriesOf) (hK : va_K G vwCl (mt cI cL cZ cB) s) : ∀ n : Nat, At_md_entriesOf_l4 l G cI cL cZ cB q A z p e s m args below meth c O0 mcT msT (md_entriesOf_l4 n) := by
  obtain ⟨hx, hb, hr, hml, hown, hts, hlocks⟩ := id C
  have FX : CallFix p m c cX4_entriesOf 4 s args vX4_entriesOf RX4 := ⟨hx, hb, hml, hown, hts⟩
  have hA : ∀ q9 : Nat, s.heap.size ≤ q9 → va_A (mw cI cL cZ cB q A z) s.heap.size q9 := fun q9 h => Or.inr h
  intro n
  induction n with
  | zero =>
    intro x1 x2 x3 H locs ls cells slots hP hD hS hl hf hcc hss
    exact nomatch (show none = some _ from hf)
  | succ n ih =>
    intro x1 x2 x3 H locs ls cells slots hP hD hS hl hf hcc hss
    rw [md_entriesOf_l4] at hf
    refine lv_iload_n hx hb dX4_entriesOf_4 rfl (lv_at hl 3 rfl) ?_
    refine lv_aload_n hx hb dX4_entriesOf_5 rfl (lv_at hl 0 rfl) ?_
    refine va_get (D := G) (ci := 4) (v := .int (Ms.ent z)) (C := RX4) (T := TX4) (N := 32) hx hb hts (fun w h => .tail _ (wl_X4 w h)) hown hK hP 0 rfl rfl 31 (by decide) (hts _ (.tail _ wm_24)) (fun _ h9 => h9) rfl dX4_entriesOf_6 ?_
    refine lv_icmp_ge (tgt := 36) hx hb dX4_entriesOf_9 (by decide) (fun c1 => ?_) (fun c1 => ?_)
    · have hf := (if_pos c1).symm.trans hf
      refine lv_iload_n hx hb dX4_entriesOf_36 rfl (lv_at hl 2 rfl) ?_
      obtain rfl := Option.some.inj hf
      exact grRi hx hb hr hlocks hP hK hD hS dX4_entriesOf_37 (by omega) (by omega)
    · have hf := (if_neg c1).symm.trans hf
      refine lv_iload_n hx hb dX4_entriesOf_12 rfl (lv_at hl 2 rfl) ?_
      refine lv_aload_n hx hb dX4_entriesOf_13 rfl (lv_at hl 0 rfl) ?_
      refine va_get (D := G) (ci := 4) (v := .ref (A 18)) (C := RX4) (T := TX4) (N := 32) hx hb hts (fun w h => .tail _ (wl_X4 w h)) hown hK hP 0 rfl rfl 27 (by decide) (hts _ (.tail _ wm_25)) (fun _ h9 => h9) rfl dX4_entriesOf_14 ?_
      refine lv_iload_n hx hb dX4_entriesOf_17 rfl (lv_at hl 3 rfl) ?_
      obtain ⟨hg2, hf⟩ := of_gd hf
      refine va_iald (f := (Ms.aem z)) (n := (Ms.nem z)) hx hb hK hP 18 0 rfl rfl (inb_in hg2) dX4_entriesOf_18 ?_
      refine lv_iload_n hx hb dX4_entriesOf_19 rfl (lv_at hl 1 rfl) ?_
      refine lv_icmp_ne (tgt := 27) hx hb dX4_entriesOf_20 (by decide) (fun c3 => ?_) (fun c3 => ?_)
      · have hf := (if_neg c3).symm.trans hf
        refine lv_iconst (v := 0) hx hb dX4_entriesOf_27 (by decide) ?_
        refine lv_iadd hx hb dX4_entriesOf_28 ?_
        refine lv_istore_n (lv' := [(2, .int (x2 + 0)), (0, .ref q), (1, .int x1), (3, .int x3)]) hx hb dX4_entriesOf_29 rfl hl (by decide) rfl (fun ls hl => ?_)
        refine lv_iinc (v := (x3 + 1)) (lv' := [(3, .int (x3 + 1)), (2, .int (x2 + 0)), (0, .ref q), (1, .int x1)]) hx hb dX4_entriesOf_30 hl (k := 3) rfl rfl (by decide) rfl (fun ls hl => ?_)
        refine lv_goto (tgt := 4) hx hb dX4_entriesOf_33 (by decide) ?_
        exact ih _ _ _ _ _ _ _ _ hP hD hS (lv_sub hl [2, 3, 1, 0] rfl) hf (by omega) (by omega)
      · have hf := (if_pos c3).symm.trans hf
        refine lv_iconst (v := 1) hx hb dX4_entriesOf_23 (by decide) ?_
        refine lv_goto (tgt := 28) hx hb dX4_entriesOf_24 (by decide) ?_
        refine lv_iadd hx hb dX4_entriesOf_28 ?_
        refine lv_istore_n (lv' := [(2, .int (x2 + 1)), (0, .ref q), (1, .int x1), (3, .int x3)]) hx hb dX4_entriesOf_29 rfl hl (by decide) rfl (fun ls hl => ?_)
        refine lv_iinc (v := (x3 + 1)) (lv' := [(3, .int (x3 + 1)), (2, .int (x2 + 1)), (0, .ref q), (1, .int x1)]) hx hb dX4_entriesOf_30 hl (k := 3) rfl rfl (by decide) rfl (fun ls hl => ?_)
        refine lv_goto (tgt := 4) hx hb dX4_entriesOf_33 (by decide) ?_
        exact ih _ _ _ _ _ _ _ _ hP hD hS (lv_sub hl [2, 3, 1, 0] rfl) hf (by omega) (by omega)
set_option maxHeartbeats 4000000 in
set_option maxRecDepth 100000 in
theorem c_md_entriesOf (l : Launch) (G : va_G) (cI cL cZ cB : ClassId) (q : Nat) (A : Nat → Nat) (z : Ms) (sz : Nat) (p0 : Int32) (O0 : Int32) (hf : md_entriesOf z p0 = some O0) : Met l yX4_entriesOf vX4_entriesOf { frames := 0, cells := 0, slots := 0, locals := 0 } (gPc G vwCl (mt cI cL cZ cB) [.ref q, .int p0] (mw cI cL cZ cB q A z) sz) (qRi G vwCl (mt cI cL cZ cB) (mw cI cL cZ cB q A z) sz O0) 0 0 (va_A (mw cI cL cZ cB q A z) sz) := by
  refine gMet (by decide) rfl (Nat.le_of_ble_eq_true rfl) ?_
  intro p e s m below meth c ls C hK hP hD hsz hl
  subst hsz
  obtain ⟨hx, hb, hr, hml, hown, hts, hlocks⟩ := id C
  have FX : CallFix p m c cX4_entriesOf 4 s _ vX4_entriesOf RX4 := ⟨hx, hb, hml, hown, hts⟩
  have hA : ∀ q9 : Nat, s.heap.size ≤ q9 → va_A (mw cI cL cZ cB q A z) s.heap.size q9 := fun q9 h => Or.inr h
  have hS : va_S (va_A (mw cI cL cZ cB q A z) s.heap.size) s.heap s.heap [] := va_S.rf
  have hl : lv_has ls 4 [(0, .ref q), (1, .int p0)] := hl
  unfold md_entriesOf at hf
  refine lv_iconst (v := 0) hx hb dX4_entriesOf_0 (by decide) ?_
  refine lv_istore_n (lv' := [(2, .int 0), (0, .ref q), (1, .int p0)]) hx hb dX4_entriesOf_1 rfl hl (by decide) rfl (fun ls hl => ?_)
  refine lv_iconst (v := 0) hx hb dX4_entriesOf_2 (by decide) ?_
  refine lv_istore_n (lv' := [(3, .int 0), (2, .int 0), (0, .ref q), (1, .int p0)]) hx hb dX4_entriesOf_3 rfl hl (by decide) rfl (fun ls hl => ?_)
  exact L_md_entriesOf_l4 _ _ _ _ _ _ _ _ _ _ _ _ _ _ _ _ _ _ _ _ C hK FU _ _ _ _ _ _ _ _ hP hD hS (lv_sub hl [2, 3, 1, 0] rfl) hf (by omega) (by omega)
def At_md_renews_j54 (l : Launch) (G : va_G) (cI cL cZ cB : ClassId) (q : Nat) (w : va_W) (p : Program) (e : Env) (s : State) (m : MethodId) (args : Array Value) (below : List Frame) (meth : Method) (c : Code) (O0 : Ms × Int32) (mcT msT : Nat) (F : Int32 → Int32 → Int32 → Ms → Option (Ms × Int32)) : Prop := ∀ (A : Nat → Nat) (z : Ms) (x1 : Int32) (x2 : Int32) (t0 : Int32) (H : Heap) (locs : List Loc) (ls : Array Slot) (cells slots : Nat), va_P G vwCl (mw cI cL cZ cB q A z) H → va_D (va_A w s.heap.size) (mw cI cL cZ cB q A z) → va_S (va_A w s.heap.size) s.heap H locs → lv_has ls 4 [(0, .ref q), (1, .int x1), (2, .int x2)] → F x1 x2 t0 z = some O0 → cells + 0 ≤ mcT → slots + 0 ≤ msT → W p l e { frames := 4, cells := mcT, slots := msT, locals := 93 } s m args below meth c H locs cells slots (MQ below (qWi G vwCl (mt cI cL cZ cB) w s.heap.size (mw cI cL cZ cB q) O0) args s mcT msT (va_A w s.heap.size)) (F0 m 54 ls [.int t0])
set_option maxHeartbeats 4000000 in
set_option maxRecDepth 100000 in
theorem L_md_renews_j54 (l : Launch) (G : va_G) (cI cL cZ cB : ClassId) (q : Nat) (w : va_W) (p : Program) (e : Env) (s : State) (m : MethodId) (args : Array Value) (below : List Frame) (meth : Method) (c : Code) (O0 : Ms × Int32) (mcT msT : Nat) (C : MC p s m args meth c cX4_renews 4 (some .boolean) RX4 vX4_renews) (hK : va_K G vwCl (mt cI cL cZ cB) s) : At_md_renews_j54 l G cI cL cZ cB q w p e s m args below meth c O0 mcT msT md_renews_j54 := by
  obtain ⟨hx, hb, hr, hml, hown, hts, hlocks⟩ := id C
  have FX : CallFix p m c cX4_renews 4 s args vX4_renews RX4 := ⟨hx, hb, hml, hown, hts⟩
  have hA : ∀ q9 : Nat, s.heap.size ≤ q9 → va_A w s.heap.size q9 := fun q9 h => Or.inr h
  intro A z x1 x2 t0 H locs ls cells slots hP hD hS hl hf hcc hss
  unfold md_renews_j54 at hf
  refine lv_istore_n (lv' := [(3, .int t0), (0, .ref q), (1, .int x1), (2, .int x2)]) hx hb dX4_renews_54 rfl hl (by decide) rfl (fun ls hl => ?_)
  refine lv_aload_n hx hb dX4_renews_55 rfl (lv_at hl 1 rfl) ?_
  refine lv_aload_n hx hb dX4_renews_56 rfl (lv_at hl 1 rfl) ?_
  refine lv_iload_n hx hb dX4_renews_57 rfl (lv_at hl 2 rfl) ?_
  refine lv_iload_n hx hb dX4_renews_58 rfl (lv_at hl 0 rfl) ?_
  refine lv_i2l hx hb dX4_renews_59 rfl ?_
  obtain ⟨r9, ho9, hf⟩ := of_b0 hf
  refine gcRl (gV FX [.int x1, .long (t0.toInt64)] (c_md_tableOf l G cI cL cZ cB q A z _ x1 (t0.toInt64) _ ho9) (cwV 2 hts (gi_V wm_13 wm_14 wm_15 wm_6 wm_16) rfl rfl rfl hdV_X4_tableOf ⟨Nat.le_of_ble_eq_true rfl, Nat.le_of_ble_eq_true rfl⟩) hK hP hD 0 rfl rfl rfl hl.1 (Nat.le_of_ble_eq_true rfl) dX4_renews_60 ⟨by show _ ≤ mcT; omega, by show _ ≤ msT; omega⟩) hS hD hA (fun H locs hP hS => ?_)
  obtain ⟨z10, r10, ho10, hf⟩ := of_bw hf
  refine gcWi (gV FX [.long r9] (c_md_hasRoom l G cI cL cZ cB q A z _ r9 _ ho10) (cwV 1 hts (gi_V wm_92 wm_93 wm_94 wm_6 wm_95) rfl rfl rfl hdV_X4_hasRoom ⟨Nat.le_of_ble_eq_true rfl, Nat.le_of_ble_eq_true rfl⟩) hK hP hD 0 rfl rfl rfl hl.1 (Nat.le_of_ble_eq_true rfl) dX4_renews_63 ⟨by show _ ≤ mcT; omega, by show _ ≤ msT; omega⟩) hS hD hA (fun A H locs hP hD hS => ?_)
  refine lv_if_ne (tgt := 71) hx hb dX4_renews_66 (by decide) (fun c11 => ?_) (fun c11 => ?_)
  · have hf := (if_neg c11).symm.trans hf
    refine lv_aload_n hx hb dX4_renews_71 rfl (lv_at hl 1 rfl) ?_
    refine lv_dup hx hb dX4_renews_72 rfl ?_
    refine va_get (D := G) (ci := 4) (v := .long (Ms.old z10)) (C := RX4) (T := TX4) (N := 32) hx hb hts (fun w h => .tail _ (wl_X4 w h)) hown hK hP 0 rfl rfl 5 (by decide) (hts _ (.tail _ wm_40)) (fun _ h9 => h9) rfl dX4_renews_73 ?_
    refine lv_aload_n hx hb dX4_renews_76 rfl (lv_at hl 1 rfl) ?_
    refine lv_iload_n hx hb dX4_renews_77 rfl (lv_at hl 2 rfl) ?_
    refine lv_aload_n hx hb dX4_renews_78 rfl (lv_at hl 1 rfl) ?_
    refine va_get (D := G) (ci := 4) (v := .ref (A 9)) (C := RX4) (T := TX4) (N := 32) hx hb hts (fun w h => .tail _ (wl_X4 w h)) hown hK hP 0 rfl rfl 16 (by decide) (hts _ (.tail _ wm_12)) (fun _ h9 => h9) rfl dX4_renews_79 ?_
    refine lv_iload_n hx hb dX4_renews_82 rfl (lv_at hl 2 rfl) ?_
    obtain ⟨hg12, hf⟩ := of_gd hf
    refine va_iald (f := (Ms.aca z10)) (n := (Ms.nca z10)) hx hb hK hP 9 0 rfl rfl (inb_in hg12) dX4_renews_83 ?_
    refine lv_i2l hx hb dX4_renews_84 rfl ?_
    obtain ⟨r13, ho13, hf⟩ := of_b0 hf
    refine gcRl (gV FX [.int x1, .long (((Ms.aca z10) x1.toNatClampNeg).toInt64)] (c_md_tableOf l G cI cL cZ cB q A z10 _ x1 (((Ms.aca z10) x1.toNatClampNeg).toInt64) _ ho13) (cwV 2 hts (gi_V wm_13 wm_14 wm_15 wm_6 wm_16) rfl rfl rfl hdV_X4_tableOf ⟨Nat.le_of_ble_eq_true rfl, Nat.le_of_ble_eq_true rfl⟩) hK hP hD 0 rfl rfl rfl hl.1 (Nat.le_of_ble_eq_true rfl) dX4_renews_85 ⟨by show _ ≤ mcT; omega, by show _ ≤ msT; omega⟩) hS hD hA (fun H locs hP hS => ?_)
    refine lv_ladd hx hb dX4_renews_88 ?_
    refine va_put (D := G) (ci := 4) (v := .long ((Ms.old z10) + r13)) (ty := .long) (C := RX4) (T := TX4) (N := 32) hx hb hts (fun w h => .tail _ (wl_X4 w h)) tyX4 tyX4_ok nmX4 hown hK hP hD hS 0 rfl rfl 5 (by decide) (hts _ (.tail _ wm_40)) (fun _ h9 => h9) rfl (by decide +kernel) rfl rfl (Nat.le_of_ble_eq_true rfl) dX4_renews_89 (fun H locs hP hD hS => ?_)
    have hP : va_P G vwCl (mw cI cL cZ cB q A (Ms.sold z10 ((Ms.old z10) + r13))) H := hP
    have hD : va_D _ (mw cI cL cZ cB q A (Ms.sold z10 ((Ms.old z10) + r13))) := hD
    refine lv_aload_n hx hb dX4_renews_92 rfl (lv_at hl 1 rfl) ?_
    refine va_get (D := G) (ci := 4) (v := .ref (A 9)) (C := RX4) (T := TX4) (N := 32) hx hb hts (fun w h => .tail _ (wl_X4 w h)) hown hK hP 0 rfl rfl 16 (by decide) (hts _ (.tail _ wm_12)) (fun _ h9 => h9) rfl dX4_renews_93 ?_
    refine lv_iload_n hx hb dX4_renews_96 rfl (lv_at hl 2 rfl) ?_
    refine lv_iload_n hx hb dX4_renews_97 rfl (lv_at hl 0 rfl) ?_
    obtain ⟨hg14, hf⟩ := of_gd hf
    refine va_iast (f := (Ms.aca z10)) (n := (Ms.nca z10)) hx hb hK hP hD hS 9 0 rfl rfl (inb_in hg14) dX4_renews_98 (fun H locs hP hD hS => ?_)
    have hP : va_P G vwCl (mw cI cL cZ cB q A (Ms.wca (Ms.sold z10 ((Ms.old z10) + r13)) (upd (Ms.aca z10) (x1.toNatClampNeg) t0))) H := hP
    have hD : va_D _ (mw cI cL cZ cB q A (Ms.wca (Ms.sold z10 ((Ms.old z10) + r13)) (upd (Ms.aca z10) (x1.toNatClampNeg) t0))) := hD
    refine lv_aload_n hx hb dX4_renews_99 rfl (lv_at hl 1 rfl) ?_
    refine va_get (D := G) (ci := 4) (v := .ref (A 10)) (C := RX4) (T := TX4) (N := 32) hx hb hts (fun w h => .tail _ (wl_X4 w h)) hown hK hP 0 rfl rfl 17 (by decide) (hts _ (.tail _ wm_63)) (fun _ h9 => h9) rfl dX4_renews_100 ?_
    refine lv_iload_n hx hb dX4_renews_103 rfl (lv_at hl 2 rfl) ?_
    refine lv_iload_n hx hb dX4_renews_104 rfl (lv_at hl 3 rfl) ?_
    obtain ⟨hg15, hf⟩ := of_gd hf
    refine va_iast (f := (Ms.afi z10)) (n := (Ms.nfi z10)) hx hb hK hP hD hS 10 0 rfl rfl (inb_in hg15) dX4_renews_105 (fun H locs hP hD hS => ?_)
    have hP : va_P G vwCl (mw cI cL cZ cB q A (Ms.wfi (Ms.wca (Ms.sold z10 ((Ms.old z10) + r13)) (upd (Ms.aca z10) (x1.toNatClampNeg) t0)) (upd (Ms.afi z10) (x1.toNatClampNeg) x2))) H := hP
    have hD : va_D _ (mw cI cL cZ cB q A (Ms.wfi (Ms.wca (Ms.sold z10 ((Ms.old z10) + r13)) (upd (Ms.aca z10) (x1.toNatClampNeg) t0)) (upd (Ms.afi z10) (x1.toNatClampNeg) x2))) := hD
    refine lv_iconst (v := 1) hx hb dX4_renews_106 (by decide) ?_
    obtain rfl := Option.some.inj hf
    exact grWz (by decide) hx hb hr hlocks hP hK hD hS dX4_renews_107 (by omega) (by omega)
  · have hf := (if_pos c11).symm.trans hf
    refine lv_iconst (v := 0) hx hb dX4_renews_69 (by decide) ?_
    obtain rfl := Option.some.inj hf
    exact grWz (by decide) hx hb hr hlocks hP hK hD hS dX4_renews_70 (by omega) (by omega)
set_option maxHeartbeats 4000000 in
set_option maxRecDepth 100000 in
theorem c_md_renews (l : Launch) (G : va_G) (cI cL cZ cB : ClassId) (q : Nat) (A : Nat → Nat) (z : Ms) (sz : Nat) (p0 : Int32) (O0 : Ms × Int32) (hf : md_renews z p0 = some O0) : Met l yX4_renews vX4_renews { frames := 4, cells := 0, slots := 0, locals := 93 } (gPc G vwCl (mt cI cL cZ cB) [.ref q, .int p0] (mw cI cL cZ cB q A z) sz) (qWi G vwCl (mt cI cL cZ cB) (mw cI cL cZ cB q A z) sz (mw cI cL cZ cB q) O0) 0 0 (va_A (mw cI cL cZ cB q A z) sz) := by
  refine gMet (by decide) rfl (Nat.le_of_ble_eq_true rfl) ?_
  intro p e s m below meth c ls C hK hP hD hsz hl
  subst hsz
  obtain ⟨hx, hb, hr, hml, hown, hts, hlocks⟩ := id C
  have FX : CallFix p m c cX4_renews 4 s _ vX4_renews RX4 := ⟨hx, hb, hml, hown, hts⟩
  have hA : ∀ q9 : Nat, s.heap.size ≤ q9 → va_A (mw cI cL cZ cB q A z) s.heap.size q9 := fun q9 h => Or.inr h
  have hS : va_S (va_A (mw cI cL cZ cB q A z) s.heap.size) s.heap s.heap [] := va_S.rf
  have hl : lv_has ls 4 [(0, .ref q), (1, .int p0)] := hl
  unfold md_renews at hf
  refine lv_aload_n hx hb dX4_renews_0 rfl (lv_at hl 0 rfl) ?_
  refine va_get (D := G) (ci := 4) (v := .ref (A 10)) (C := RX4) (T := TX4) (N := 32) hx hb hts (fun w h => .tail _ (wl_X4 w h)) hown hK hP 0 rfl rfl 17 (by decide) (hts _ (.tail _ wm_63)) (fun _ h9 => h9) rfl dX4_renews_1 ?_
  refine lv_iload_n hx hb dX4_renews_4 rfl (lv_at hl 1 rfl) ?_
  obtain ⟨hg1, hf⟩ := of_gd hf
  refine va_iald (f := (Ms.afi z)) (n := (Ms.nfi z)) hx hb hK hP 10 0 rfl rfl (inb_in hg1) dX4_renews_5 ?_
  refine lv_aload_n hx hb dX4_renews_6 rfl (lv_at hl 0 rfl) ?_
  refine va_get (D := G) (ci := 4) (v := .ref (A 9)) (C := RX4) (T := TX4) (N := 32) hx hb hts (fun w h => .tail _ (wl_X4 w h)) hown hK hP 0 rfl rfl 16 (by decide) (hts _ (.tail _ wm_12)) (fun _ h9 => h9) rfl dX4_renews_7 ?_
  refine lv_iload_n hx hb dX4_renews_10 rfl (lv_at hl 1 rfl) ?_
  obtain ⟨hg2, hf⟩ := of_gd hf
  refine va_iald (f := (Ms.aca z)) (n := (Ms.nca z)) hx hb hK hP 9 0 rfl rfl (inb_in hg2) dX4_renews_11 ?_
  refine lv_icmp_ge (tgt := 17) hx hb dX4_renews_12 (by decide) (fun c3 => ?_) (fun c3 => ?_)
  · have hf := (if_pos c3).symm.trans hf
    refine lv_aload_n hx hb dX4_renews_17 rfl (lv_at hl 0 rfl) ?_
    refine lv_iload_n hx hb dX4_renews_18 rfl (lv_at hl 1 rfl) ?_
    obtain ⟨r4, ho4, hf⟩ := of_b0 hf
    refine gcRi (gV FX [.int p0] (c_md_entriesOf l G cI cL cZ cB q A z _ p0 _ ho4) (cwV 1 hts (gi_V wm_142 wm_143 wm_144 wm_6 wm_145) rfl rfl rfl hdV_X4_entriesOf ⟨Nat.le_of_ble_eq_true rfl, Nat.le_of_ble_eq_true rfl⟩) hK hP hD 0 rfl rfl rfl hl.1 (Nat.le_of_ble_eq_true rfl) dX4_renews_19 ⟨by show _ ≤ 0; omega, by show _ ≤ 0; omega⟩) hS hD hA (fun H locs hP hS => ?_)
    refine lv_istore_n (lv' := [(2, .int r4), (0, .ref q), (1, .int p0)]) hx hb dX4_renews_22 rfl hl (by decide) rfl (fun ls hl => ?_)
    refine lv_iconst (v := 4) hx hb dX4_renews_23 (by decide) ?_
    refine lv_iload_n hx hb dX4_renews_24 rfl (lv_at hl 0 rfl) ?_
    refine lv_imul hx hb dX4_renews_25 ?_
    refine lv_iconst (v := 3) hx hb dX4_renews_26 (by decide) ?_
    refine lv_aload_n hx hb dX4_renews_27 rfl (lv_at hl 1 rfl) ?_
    refine va_get (D := G) (ci := 4) (v := .ref (A 9)) (C := RX4) (T := TX4) (N := 32) hx hb hts (fun w h => .tail _ (wl_X4 w h)) hown hK hP 0 rfl rfl 16 (by decide) (hts _ (.tail _ wm_12)) (fun _ h9 => h9) rfl dX4_renews_28 ?_
    refine lv_iload_n hx hb dX4_renews_31 rfl (lv_at hl 2 rfl) ?_
    obtain ⟨hg5, hf⟩ := of_gd hf
    refine va_iald (f := (Ms.aca z)) (n := (Ms.nca z)) hx hb hK hP 9 0 rfl rfl (inb_in hg5) dX4_renews_32 ?_
    refine lv_imul hx hb dX4_renews_33 ?_
    refine lv_icmp_lt (tgt := 48) hx hb dX4_renews_34 (by decide) (fun c6 => ?_) (fun c6 => ?_)
    · have hf := (if_pos c6).symm.trans hf
      refine lv_aload_n hx hb dX4_renews_48 rfl (lv_at hl 1 rfl) ?_
      refine va_get (D := G) (ci := 4) (v := .ref (A 9)) (C := RX4) (T := TX4) (N := 32) hx hb hts (fun w h => .tail _ (wl_X4 w h)) hown hK hP 0 rfl rfl 16 (by decide) (hts _ (.tail _ wm_12)) (fun _ h9 => h9) rfl dX4_renews_49 ?_
      refine lv_iload_n hx hb dX4_renews_52 rfl (lv_at hl 2 rfl) ?_
      obtain ⟨hg7, hf⟩ := of_gd hf
      refine va_iald (f := (Ms.aca z)) (n := (Ms.nca z)) hx hb hK hP 9 0 rfl rfl (inb_in hg7) dX4_renews_53 ?_
      exact L_md_renews_j54 _ _ _ _ _ _ _ _ _ _ _ _ _ _ _ _ _ _ _ C hK _ _ _ _ _ _ _ _ _ _ hP hD hS (lv_sub hl [1, 2, 0] rfl) hf (by omega) (by omega)
    · have hf := (if_neg c6).symm.trans hf
      refine lv_iconst (v := 2) hx hb dX4_renews_37 (by decide) ?_
      refine lv_aload_n hx hb dX4_renews_38 rfl (lv_at hl 1 rfl) ?_
      refine va_get (D := G) (ci := 4) (v := .ref (A 9)) (C := RX4) (T := TX4) (N := 32) hx hb hts (fun w h => .tail _ (wl_X4 w h)) hown hK hP 0 rfl rfl 16 (by decide) (hts _ (.tail _ wm_12)) (fun _ h9 => h9) rfl dX4_renews_39 ?_
      refine lv_iload_n hx hb dX4_renews_42 rfl (lv_at hl 2 rfl) ?_
      obtain ⟨hg8, hf⟩ := of_gd hf
      refine va_iald (f := (Ms.aca z)) (n := (Ms.nca z)) hx hb hK hP 9 0 rfl rfl (inb_in hg8) dX4_renews_43 ?_
      refine lv_imul hx hb dX4_renews_44 ?_
      refine lv_goto (tgt := 54) hx hb dX4_renews_45 (by decide) ?_
      exact L_md_renews_j54 _ _ _ _ _ _ _ _ _ _ _ _ _ _ _ _ _ _ _ C hK _ _ _ _ _ _ _ _ _ _ hP hD hS (lv_sub hl [1, 2, 0] rfl) hf (by omega) (by omega)
  · have hf := (if_neg c3).symm.trans hf
    refine lv_iconst (v := 1) hx hb dX4_renews_15 (by decide) ?_
    obtain rfl := Option.some.inj hf
    exact grWz (by decide) hx hb hr hlocks hP hK hD hS dX4_renews_16 (by omega) (by omega)
def At_md_setEntry_l3 (l : Launch) (G : va_G) (cI cL cZ cB : ClassId) (q : Nat) (w : va_W) (p : Program) (e : Env) (s : State) (m : MethodId) (args : Array Value) (below : List Frame) (meth : Method) (c : Code) (O0 : Ms × Unit) (mcT msT : Nat) (F : Int32 → Int32 → Int32 → Int32 → Ms → Option (Ms × Unit)) : Prop := ∀ (A : Nat → Nat) (z : Ms) (x1 : Int32) (x2 : Int32) (x4 : Int32) (x5 : Int32) (H : Heap) (locs : List Loc) (ls : Array Slot) (cells slots : Nat), va_P G vwCl (mw cI cL cZ cB q A z) H → va_D (va_A w s.heap.size) (mw cI cL cZ cB q A z) → va_S (va_A w s.heap.size) s.heap H locs → lv_has ls 6 [(0, .ref q), (1, .int x1), (2, .int x2), (4, .int x4), (5, .int x5)] → F x1 x2 x4 x5 z = some O0 → cells + 0 ≤ mcT → slots + 0 ≤ msT → W p l e { frames := 1, cells := mcT, slots := msT, locals := 22 } s m args below meth c H locs cells slots (MQ below (qWv G vwCl (mt cI cL cZ cB) w s.heap.size (mw cI cL cZ cB q) O0) args s mcT msT (va_A w s.heap.size)) (F0 m 3 ls [])
set_option maxHeartbeats 4000000 in
set_option maxRecDepth 100000 in
theorem L_md_setEntry_l3 (l : Launch) (G : va_G) (cI cL cZ cB : ClassId) (q : Nat) (w : va_W) (p : Program) (e : Env) (s : State) (m : MethodId) (args : Array Value) (below : List Frame) (meth : Method) (c : Code) (O0 : Ms × Unit) (mcT msT : Nat) (C : MC p s m args meth c cX4_setEntry 6 (none) RX4 vX4_setEntry) (hK : va_K G vwCl (mt cI cL cZ cB) s) : ∀ n : Nat, At_md_setEntry_l3 l G cI cL cZ cB q w p e s m args below meth c O0 mcT msT (md_setEntry_l3 n) := by
  obtain ⟨hx, hb, hr, hml, hown, hts, hlocks⟩ := id C
  have FX : CallFix p m c cX4_setEntry 6 s args vX4_setEntry RX4 := ⟨hx, hb, hml, hown, hts⟩
  have hA : ∀ q9 : Nat, s.heap.size ≤ q9 → va_A w s.heap.size q9 := fun q9 h => Or.inr h
  intro n
  induction n with
  | zero =>
    intro A z x1 x2 x4 x5 H locs ls cells slots hP hD hS hl hf hcc hss
    exact nomatch (show none = some _ from hf)
  | succ n ih =>
    intro A z x1 x2 x4 x5 H locs ls cells slots hP hD hS hl hf hcc hss
    rw [md_setEntry_l3] at hf
    refine lv_iload hx hb dX4_setEntry_3 (lv_at hl 4 rfl) ?_
    refine lv_iload hx hb dX4_setEntry_5 (lv_at hl 3 rfl) ?_
    refine lv_icmp_ge (tgt := 64) hx hb dX4_setEntry_7 (by decide) (fun c1 => ?_) (fun c1 => ?_)
    · have hf := (if_pos c1).symm.trans hf
      obtain rfl := Option.some.inj hf
      exact grWv hx hb hr hlocks hP hK hD hS dX4_setEntry_64 (by omega) (by omega)
    · have hf := (if_neg c1).symm.trans hf
      refine lv_aload_n hx hb dX4_setEntry_10 rfl (lv_at hl 0 rfl) ?_
      refine va_get (D := G) (ci := 4) (v := .ref (A 20)) (C := RX4) (T := TX4) (N := 32) hx hb hts (fun w h => .tail _ (wl_X4 w h)) hown hK hP 0 rfl rfl 29 (by decide) (hts _ (.tail _ wm_28)) (fun _ h9 => h9) rfl dX4_setEntry_11 ?_
      refine lv_bipush (v := 8) hx hb dX4_setEntry_14 (by decide) ?_
      refine lv_iload_n hx hb dX4_setEntry_16 rfl (lv_at hl 1 rfl) ?_
      refine lv_imul hx hb dX4_setEntry_17 ?_
      refine lv_iload hx hb dX4_setEntry_18 (lv_at hl 4 rfl) ?_
      refine lv_iadd hx hb dX4_setEntry_20 ?_
      refine lv_aload_n hx hb dX4_setEntry_21 rfl (lv_at hl 0 rfl) ?_
      refine va_get (D := G) (ci := 4) (v := .ref (A 15)) (C := RX4) (T := TX4) (N := 32) hx hb hts (fun w h => .tail _ (wl_X4 w h)) hown hK hP 0 rfl rfl 22 (by decide) (hts _ (.tail _ wm_26)) (fun _ h9 => h9) rfl dX4_setEntry_22 ?_
      refine lv_aload_n hx hb dX4_setEntry_25 rfl (lv_at hl 0 rfl) ?_
      refine lv_iload_n hx hb dX4_setEntry_26 rfl (lv_at hl 2 rfl) ?_
      refine lv_iload hx hb dX4_setEntry_27 (lv_at hl 4 rfl) ?_
      obtain ⟨r2, ho2, hf⟩ := of_b0 hf
      refine gcRi (gV FX [.int x2, .int x5] (c_md_at l G cI cL cZ cB q A z _ x2 x5 _ ho2) (cwV 2 hts (gi_V wm_126 wm_127 wm_128 wm_6 wm_129) rfl rfl rfl hdV_X4_at ⟨Nat.le_of_ble_eq_true rfl, Nat.le_of_ble_eq_true rfl⟩) hK hP hD 0 rfl rfl rfl hl.1 (Nat.le_of_ble_eq_true rfl) dX4_setEntry_29 ⟨by show _ ≤ mcT; omega, by show _ ≤ msT; omega⟩) hS hD hA (fun H locs hP hS => ?_)
      obtain ⟨hg3, hf⟩ := of_gd hf
      refine va_iald (f := (Ms.awt z)) (n := (Ms.nwt z)) hx hb hK hP 15 0 rfl rfl (inb_in hg3) dX4_setEntry_32 ?_
      obtain ⟨hg4, hf⟩ := of_gd hf
      refine va_iast (f := (Ms.aet z)) (n := (Ms.net z)) hx hb hK hP hD hS 20 0 rfl rfl (inb_in hg4) dX4_setEntry_33 (fun H locs hP hD hS => ?_)
      have hP : va_P G vwCl (mw cI cL cZ cB q A (Ms.wet z (upd (Ms.aet z) (((8 * x1) + x5).toNatClampNeg) ((Ms.awt z) r2.toNatClampNeg)))) H := hP
      have hD : va_D _ (mw cI cL cZ cB q A (Ms.wet z (upd (Ms.aet z) (((8 * x1) + x5).toNatClampNeg) ((Ms.awt z) r2.toNatClampNeg)))) := hD
      refine lv_aload_n hx hb dX4_setEntry_34 rfl (lv_at hl 0 rfl) ?_
      refine va_get (D := G) (ci := 4) (v := .ref (A 21)) (C := RX4) (T := TX4) (N := 32) hx hb hts (fun w h => .tail _ (wl_X4 w h)) hown hK hP 0 rfl rfl 30 (by decide) (hts _ (.tail _ wm_30)) (fun _ h9 => h9) rfl dX4_setEntry_35 ?_
      refine lv_bipush (v := 8) hx hb dX4_setEntry_38 (by decide) ?_
      refine lv_iload_n hx hb dX4_setEntry_40 rfl (lv_at hl 1 rfl) ?_
      refine lv_imul hx hb dX4_setEntry_41 ?_
      refine lv_iload hx hb dX4_setEntry_42 (lv_at hl 4 rfl) ?_
      refine lv_iadd hx hb dX4_setEntry_44 ?_
      refine lv_aload_n hx hb dX4_setEntry_45 rfl (lv_at hl 0 rfl) ?_
      refine va_get (D := G) (ci := 4) (v := .ref (A 16)) (C := RX4) (T := TX4) (N := 32) hx hb hts (fun w h => .tail _ (wl_X4 w h)) hown hK hP 0 rfl rfl 23 (by decide) (hts _ (.tail _ wm_39)) (fun _ h9 => h9) rfl dX4_setEntry_46 ?_
      refine lv_aload_n hx hb dX4_setEntry_49 rfl (lv_at hl 0 rfl) ?_
      refine lv_iload_n hx hb dX4_setEntry_50 rfl (lv_at hl 2 rfl) ?_
      refine lv_iload hx hb dX4_setEntry_51 (lv_at hl 4 rfl) ?_
      obtain ⟨r5, ho5, hf⟩ := of_b0 hf
      refine gcRi (gV FX [.int x2, .int x5] (c_md_at l G cI cL cZ cB q A (Ms.wet z (upd (Ms.aet z) (((8 * x1) + x5).toNatClampNeg) ((Ms.awt z) r2.toNatClampNeg))) _ x2 x5 _ ho5) (cwV 2 hts (gi_V wm_126 wm_127 wm_128 wm_6 wm_129) rfl rfl rfl hdV_X4_at ⟨Nat.le_of_ble_eq_true rfl, Nat.le_of_ble_eq_true rfl⟩) hK hP hD 0 rfl rfl rfl hl.1 (Nat.le_of_ble_eq_true rfl) dX4_setEntry_53 ⟨by show _ ≤ mcT; omega, by show _ ≤ msT; omega⟩) hS hD hA (fun H locs hP hS => ?_)
      obtain ⟨hg6, hf⟩ := of_gd hf
      refine va_lald (f := (Ms.awv z)) (n := (Ms.nwv z)) hx hb hK hP 16 1 rfl rfl (inb_in hg6) dX4_setEntry_56 ?_
      obtain ⟨hg7, hf⟩ := of_gd hf
      refine va_last (f := (Ms.aev z)) (n := (Ms.nev z)) hx hb hK hP hD hS 21 1 rfl rfl (inb_in hg7) dX4_setEntry_57 (fun H locs hP hD hS => ?_)
      have hP : va_P G vwCl (mw cI cL cZ cB q A (Ms.wev (Ms.wet z (upd (Ms.aet z) (((8 * x1) + x5).toNatClampNeg) ((Ms.awt z) r2.toNatClampNeg))) (vp_updL (Ms.aev z) (((8 * x1) + x5).toNatClampNeg) ((Ms.awv z) r5.toNatClampNeg)))) H := hP
      have hD : va_D _ (mw cI cL cZ cB q A (Ms.wev (Ms.wet z (upd (Ms.aet z) (((8 * x1) + x5).toNatClampNeg) ((Ms.awt z) r2.toNatClampNeg))) (vp_updL (Ms.aev z) (((8 * x1) + x5).toNatClampNeg) ((Ms.awv z) r5.toNatClampNeg)))) := hD
      refine lv_iinc (v := (x5 + 1)) (lv' := [(5, .int (x5 + 1)), (0, .ref q), (1, .int x1), (2, .int x2), (4, .int x4)]) hx hb dX4_setEntry_58 hl (k := 4) rfl rfl (by decide) rfl (fun ls hl => ?_)
      refine lv_goto (tgt := 3) hx hb dX4_setEntry_61 (by decide) ?_
      exact ih _ _ _ _ _ _ _ _ _ _ _ hP hD hS (lv_sub hl [1, 2, 3, 4, 0] rfl) hf (by omega) (by omega)
set_option maxHeartbeats 4000000 in
set_option maxRecDepth 100000 in
theorem c_md_setEntry (l : Launch) (G : va_G) (cI cL cZ cB : ClassId) (q : Nat) (A : Nat → Nat) (z : Ms) (sz : Nat) (p0 : Int32) (p1 : Int32) (p2 : Int32) (p3 : Int32) (O0 : Ms × Unit) (hf : md_setEntry z p0 p1 p2 p3 = some O0) : Met l yX4_setEntry vX4_setEntry { frames := 1, cells := 0, slots := 0, locals := 22 } (gPc G vwCl (mt cI cL cZ cB) [.ref q, .int p0, .int p1, .int p2, .int p3] (mw cI cL cZ cB q A z) sz) (qWv G vwCl (mt cI cL cZ cB) (mw cI cL cZ cB q A z) sz (mw cI cL cZ cB q) O0) 0 0 (va_A (mw cI cL cZ cB q A z) sz) := by
  refine gMet (by decide) rfl (Nat.le_of_ble_eq_true rfl) ?_
  intro p e s m below meth c ls C hK hP hD hsz hl
  subst hsz
  obtain ⟨hx, hb, hr, hml, hown, hts, hlocks⟩ := id C
  have FX : CallFix p m c cX4_setEntry 6 s _ vX4_setEntry RX4 := ⟨hx, hb, hml, hown, hts⟩
  have hA : ∀ q9 : Nat, s.heap.size ≤ q9 → va_A (mw cI cL cZ cB q A z) s.heap.size q9 := fun q9 h => Or.inr h
  have hS : va_S (va_A (mw cI cL cZ cB q A z) s.heap.size) s.heap s.heap [] := va_S.rf
  have hl : lv_has ls 6 [(0, .ref q), (1, .int p0), (2, .int p1), (3, .int p2), (4, .int p3)] := hl
  unfold md_setEntry at hf
  refine lv_iload_n hx hb dX4_setEntry_0 rfl (lv_at hl 3 rfl) ?_
  refine lv_istore (lv' := [(5, .int p2), (0, .ref q), (1, .int p0), (2, .int p1), (3, .int p2), (4, .int p3)]) hx hb dX4_setEntry_1 hl (by decide) rfl (fun ls hl => ?_)
  exact L_md_setEntry_l3 _ _ _ _ _ _ _ _ _ _ _ _ _ _ _ _ _ _ _ C hK FU _ _ _ _ _ _ _ _ _ _ _ hP hD hS (lv_sub hl [1, 2, 3, 5, 0] rfl) hf (by omega) (by omega)
def At_md_put_l209 (l : Launch) (G : va_G) (cI cL cZ cB : ClassId) (q : Nat) (w : va_W) (p : Program) (e : Env) (s : State) (m : MethodId) (args : Array Value) (below : List Frame) (meth : Method) (c : Code) (O0 : Ms × Int32) (mcT msT : Nat) (F : Int32 → Int32 → Int32 → Ms → Option (Nat × Ms × Int32)) : Prop := ∀ (A : Nat → Nat) (z : Ms) (x2 : Int32) (x3 : Int32) (x6 : Int32) (d0 : Nat) (H : Heap) (locs : List Loc) (ls : Array Slot) (cells slots : Nat), va_P G vwCl (mw cI cL cZ cB q A z) H → va_D (va_A w s.heap.size) (mw cI cL cZ cB q A z) → va_S (va_A w s.heap.size) s.heap H locs → lv_has ls 8 [(0, .ref q), (2, .int x2), (3, .int x3), (6, .int x6)] → F x2 x3 x6 z = some (d0, O0) → cells + (0 + d0 / 64) ≤ mcT → slots + (0 + d0) ≤ msT → W p l e { frames := 5, cells := mcT, slots := msT, locals := 116 } s m args below meth c H locs cells slots (MQ below (qWi G vwCl (mt cI cL cZ cB) w s.heap.size (mw cI cL cZ cB q) O0) args s mcT msT (va_A w s.heap.size)) (F0 m 209 ls [])
def At_md_put_j158 (l : Launch) (G : va_G) (cI cL cZ cB : ClassId) (q : Nat) (w : va_W) (p : Program) (e : Env) (s : State) (m : MethodId) (args : Array Value) (below : List Frame) (meth : Method) (c : Code) (O0 : Ms × Int32) (mcT msT : Nat) (F : Int32 → Int32 → Ms → Option (Nat × Ms × Int32)) : Prop := ∀ (A : Nat → Nat) (z : Ms) (x2 : Int32) (x3 : Int32) (d0 : Nat) (H : Heap) (locs : List Loc) (ls : Array Slot) (cells slots : Nat), va_P G vwCl (mw cI cL cZ cB q A z) H → va_D (va_A w s.heap.size) (mw cI cL cZ cB q A z) → va_S (va_A w s.heap.size) s.heap H locs → lv_has ls 8 [(0, .ref q), (2, .int x2), (3, .int x3)] → F x2 x3 z = some (d0, O0) → cells + (0 + d0 / 64) ≤ mcT → slots + (0 + d0) ≤ msT → W p l e { frames := 5, cells := mcT, slots := msT, locals := 116 } s m args below meth c H locs cells slots (MQ below (qWi G vwCl (mt cI cL cZ cB) w s.heap.size (mw cI cL cZ cB q) O0) args s mcT msT (va_A w s.heap.size)) (F0 m 158 ls [])
def At_md_put_j92 (l : Launch) (G : va_G) (cI cL cZ cB : ClassId) (q : Nat) (w : va_W) (p : Program) (e : Env) (s : State) (m : MethodId) (args : Array Value) (below : List Frame) (meth : Method) (c : Code) (O0 : Ms × Int32) (mcT msT : Nat) (F : Int32 → Int32 → Int32 → Int32 → Ms → Option (Nat × Ms × Int32)) : Prop := ∀ (A : Nat → Nat) (z : Ms) (x2 : Int32) (x3 : Int32) (x5 : Int32) (t0 : Int32) (d0 : Nat) (H : Heap) (locs : List Loc) (ls : Array Slot) (cells slots : Nat), va_P G vwCl (mw cI cL cZ cB q A z) H → va_D (va_A w s.heap.size) (mw cI cL cZ cB q A z) → va_S (va_A w s.heap.size) s.heap H locs → lv_has ls 8 [(0, .ref q), (2, .int x2), (3, .int x3), (5, .int x5)] → F x2 x3 x5 t0 z = some (d0, O0) → cells + (0 + d0 / 64) ≤ mcT → slots + (0 + d0) ≤ msT → W p l e { frames := 5, cells := mcT, slots := msT, locals := 116 } s m args below meth c H locs cells slots (MQ below (qWi G vwCl (mt cI cL cZ cB) w s.heap.size (mw cI cL cZ cB q) O0) args s mcT msT (va_A w s.heap.size)) (F0 m 92 ls [.int t0, .ref q])
set_option maxHeartbeats 4000000 in
set_option maxRecDepth 100000 in
theorem L_md_put_l209 (l : Launch) (G : va_G) (cI cL cZ cB : ClassId) (q : Nat) (w : va_W) (p : Program) (e : Env) (s : State) (m : MethodId) (args : Array Value) (below : List Frame) (meth : Method) (c : Code) (O0 : Ms × Int32) (mcT msT : Nat) (C : MC p s m args meth c cX4_put 8 (some .int) RX4 vX4_put) (hK : va_K G vwCl (mt cI cL cZ cB) s) : ∀ n : Nat, At_md_put_l209 l G cI cL cZ cB q w p e s m args below meth c O0 mcT msT (md_put_l209 n) := by
  obtain ⟨hx, hb, hr, hml, hown, hts, hlocks⟩ := id C
  have FX : CallFix p m c cX4_put 8 s args vX4_put RX4 := ⟨hx, hb, hml, hown, hts⟩
  have hA : ∀ q9 : Nat, s.heap.size ≤ q9 → va_A w s.heap.size q9 := fun q9 h => Or.inr h
  intro n
  induction n with
  | zero =>
    intro A z x2 x3 x6 d0 H locs ls cells slots hP hD hS hl hf hcc hss
    exact nomatch (show none = some _ from hf)
  | succ n ih =>
    intro A z x2 x3 x6 d0 H locs ls cells slots hP hD hS hl hf hcc hss
    rw [md_put_l209] at hf
    refine lv_iload hx hb dX4_put_209 (lv_at hl 3 rfl) ?_
    refine lv_aload_n hx hb dX4_put_211 rfl (lv_at hl 0 rfl) ?_
    refine va_get (D := G) (ci := 4) (v := .ref (A 6)) (C := RX4) (T := TX4) (N := 32) hx hb hts (fun w h => .tail _ (wl_X4 w h)) hown hK hP 0 rfl rfl 13 (by decide) (hts _ (.tail _ wm_9)) (fun _ h9 => h9) rfl dX4_put_212 ?_
    refine lv_iload_n hx hb dX4_put_215 rfl (lv_at hl 2 rfl) ?_
    obtain ⟨hg37, hf⟩ := of_gd hf
    refine va_iald (f := (Ms.ake z)) (n := (Ms.nke z)) hx hb hK hP 6 0 rfl rfl (inb_in hg37) dX4_put_216 ?_
    refine lv_icmp_ge (tgt := 268) hx hb dX4_put_217 (by decide) (fun c38 => ?_) (fun c38 => ?_)
    · have hf := (if_pos c38).symm.trans hf
      refine lv_aload_n hx hb dX4_put_268 rfl (lv_at hl 0 rfl) ?_
      refine lv_dup hx hb dX4_put_269 rfl ?_
      refine va_get (D := G) (ci := 4) (v := .int (Ms.ent z)) (C := RX4) (T := TX4) (N := 32) hx hb hts (fun w h => .tail _ (wl_X4 w h)) hown hK hP 0 rfl rfl 31 (by decide) (hts _ (.tail _ wm_24)) (fun _ h9 => h9) rfl dX4_put_270 ?_
      refine lv_iconst (v := 1) hx hb dX4_put_273 (by decide) ?_
      refine lv_iadd hx hb dX4_put_274 ?_
      refine va_put (D := G) (ci := 4) (v := .int ((Ms.ent z) + 1)) (ty := .int) (C := RX4) (T := TX4) (N := 32) hx hb hts (fun w h => .tail _ (wl_X4 w h)) tyX4 tyX4_ok nmX4 hown hK hP hD hS 0 rfl rfl 31 (by decide) (hts _ (.tail _ wm_24)) (fun _ h9 => h9) rfl (by decide +kernel) rfl rfl (Nat.le_of_ble_eq_true rfl) dX4_put_275 (fun H locs hP hD hS => ?_)
      have hP : va_P G vwCl (mw cI cL cZ cB q A (Ms.sent z ((Ms.ent z) + 1))) H := hP
      have hD : va_D _ (mw cI cL cZ cB q A (Ms.sent z ((Ms.ent z) + 1))) := hD
      refine lv_aload_n hx hb dX4_put_278 rfl (lv_at hl 0 rfl) ?_
      refine va_get (D := G) (ci := 4) (v := .ref (A 10)) (C := RX4) (T := TX4) (N := 32) hx hb hts (fun w h => .tail _ (wl_X4 w h)) hown hK hP 0 rfl rfl 17 (by decide) (hts _ (.tail _ wm_63)) (fun _ h9 => h9) rfl dX4_put_279 ?_
      refine lv_iload_n hx hb dX4_put_282 rfl (lv_at hl 2 rfl) ?_
      refine lv_dup2_11 hx hb dX4_put_283 rfl rfl ?_
      obtain ⟨hg39, hf⟩ := of_gd hf
      refine va_iald (f := (Ms.afi z)) (n := (Ms.nfi z)) hx hb hK hP 10 0 rfl rfl (inb_in hg39) dX4_put_284 ?_
      refine lv_iconst (v := 1) hx hb dX4_put_285 (by decide) ?_
      refine lv_iadd hx hb dX4_put_286 ?_
      obtain ⟨hg40, hf⟩ := of_gd hf
      refine va_iast (f := (Ms.afi z)) (n := (Ms.nfi z)) hx hb hK hP hD hS 10 0 rfl rfl (inb_in hg40) dX4_put_287 (fun H locs hP hD hS => ?_)
      have hP : va_P G vwCl (mw cI cL cZ cB q A (Ms.wfi (Ms.sent z ((Ms.ent z) + 1)) (upd (Ms.afi z) (x3.toNatClampNeg) (((Ms.afi z) x3.toNatClampNeg) + 1)))) H := hP
      have hD : va_D _ (mw cI cL cZ cB q A (Ms.wfi (Ms.sent z ((Ms.ent z) + 1)) (upd (Ms.afi z) (x3.toNatClampNeg) (((Ms.afi z) x3.toNatClampNeg) + 1)))) := hD
      refine lv_aload_n hx hb dX4_put_288 rfl (lv_at hl 0 rfl) ?_
      refine va_get (D := G) (ci := 4) (v := .ref (A 11)) (C := RX4) (T := TX4) (N := 32) hx hb hts (fun w h => .tail _ (wl_X4 w h)) hown hK hP 0 rfl rfl 18 (by decide) (hts _ (.tail _ wm_64)) (fun _ h9 => h9) rfl dX4_put_289 ?_
      refine lv_iload_n hx hb dX4_put_292 rfl (lv_at hl 2 rfl) ?_
      refine lv_dup2_11 hx hb dX4_put_293 rfl rfl ?_
      obtain ⟨hg41, hf⟩ := of_gd hf
      refine va_iald (f := (Ms.aod z)) (n := (Ms.nod z)) hx hb hK hP 11 0 rfl rfl (inb_in hg41) dX4_put_294 ?_
      refine lv_iconst (v := 1) hx hb dX4_put_295 (by decide) ?_
      refine lv_iadd hx hb dX4_put_296 ?_
      obtain ⟨hg42, hf⟩ := of_gd hf
      refine va_iast (f := (Ms.aod z)) (n := (Ms.nod z)) hx hb hK hP hD hS 11 0 rfl rfl (inb_in hg42) dX4_put_297 (fun H locs hP hD hS => ?_)
      have hP : va_P G vwCl (mw cI cL cZ cB q A (Ms.wod (Ms.wfi (Ms.sent z ((Ms.ent z) + 1)) (upd (Ms.afi z) (x3.toNatClampNeg) (((Ms.afi z) x3.toNatClampNeg) + 1))) (upd (Ms.aod z) (x3.toNatClampNeg) (((Ms.aod z) x3.toNatClampNeg) + 1)))) H := hP
      have hD : va_D _ (mw cI cL cZ cB q A (Ms.wod (Ms.wfi (Ms.sent z ((Ms.ent z) + 1)) (upd (Ms.afi z) (x3.toNatClampNeg) (((Ms.afi z) x3.toNatClampNeg) + 1))) (upd (Ms.aod z) (x3.toNatClampNeg) (((Ms.aod z) x3.toNatClampNeg) + 1)))) := hD
      refine lv_aload_n hx hb dX4_put_298 rfl (lv_at hl 0 rfl) ?_
      refine va_get (D := G) (ci := 4) (v := .ref (A 11)) (C := RX4) (T := TX4) (N := 32) hx hb hts (fun w h => .tail _ (wl_X4 w h)) hown hK hP 0 rfl rfl 18 (by decide) (hts _ (.tail _ wm_64)) (fun _ h9 => h9) rfl dX4_put_299 ?_
      refine lv_iload_n hx hb dX4_put_302 rfl (lv_at hl 2 rfl) ?_
      obtain ⟨hg43, hf⟩ := of_gd hf
      refine va_iald (f := (upd (Ms.aod z) (x3.toNatClampNeg) (((Ms.aod z) x3.toNatClampNeg) + 1))) (n := (Ms.nod z)) hx hb hK hP 11 0 rfl rfl (inb_in hg43) dX4_put_303 ?_
      refine lv_iconst (v := 1) hx hb dX4_put_304 (by decide) ?_
      refine lv_isub hx hb dX4_put_305 ?_
      obtain ⟨hc0, hj0⟩ := of_some2 hf
      subst hj0
      exact grWi hx hb hr hlocks hP hK hD hS dX4_put_306 (by omega) (by omega)
    · have hf := (if_neg c38).symm.trans hf
      refine lv_aload_n hx hb dX4_put_220 rfl (lv_at hl 0 rfl) ?_
      refine va_get (D := G) (ci := 4) (v := .ref (A 15)) (C := RX4) (T := TX4) (N := 32) hx hb hts (fun w h => .tail _ (wl_X4 w h)) hown hK hP 0 rfl rfl 22 (by decide) (hts _ (.tail _ wm_26)) (fun _ h9 => h9) rfl dX4_put_221 ?_
      refine lv_aload_n hx hb dX4_put_224 rfl (lv_at hl 0 rfl) ?_
      refine lv_iload_n hx hb dX4_put_225 rfl (lv_at hl 1 rfl) ?_
      refine lv_iload hx hb dX4_put_226 (lv_at hl 3 rfl) ?_
      obtain ⟨r44, ho44, hf⟩ := of_b0 hf
      refine gcRi (gV FX [.int x2, .int x6] (c_md_at l G cI cL cZ cB q A z _ x2 x6 _ ho44) (cwV 2 hts (gi_V wm_126 wm_127 wm_128 wm_6 wm_129) rfl rfl rfl hdV_X4_at ⟨Nat.le_of_ble_eq_true rfl, Nat.le_of_ble_eq_true rfl⟩) hK hP hD 0 rfl rfl rfl hl.1 (Nat.le_of_ble_eq_true rfl) dX4_put_228 ⟨by show _ ≤ mcT; omega, by show _ ≤ msT; omega⟩) hS hD hA (fun H locs hP hS => ?_)
      obtain ⟨hg45, hf⟩ := of_gd hf
      refine va_iald (f := (Ms.awt z)) (n := (Ms.nwt z)) hx hb hK hP 15 0 rfl rfl (inb_in hg45) dX4_put_231 ?_
      refine lv_istore (lv' := [(7, .int ((Ms.awt z) r44.toNatClampNeg)), (0, .ref q), (2, .int x2), (3, .int x3), (6, .int x6)]) hx hb dX4_put_232 hl (by decide) rfl (fun ls hl => ?_)
      refine lv_aload_n hx hb dX4_put_234 rfl (lv_at hl 1 rfl) ?_
      refine va_get (D := G) (ci := 4) (v := .ref (A 8)) (C := RX4) (T := TX4) (N := 32) hx hb hts (fun w h => .tail _ (wl_X4 w h)) hown hK hP 0 rfl rfl 15 (by decide) (hts _ (.tail _ wm_62)) (fun _ h9 => h9) rfl dX4_put_235 ?_
      refine lv_iload_n hx hb dX4_put_238 rfl (lv_at hl 3 rfl) ?_
      obtain ⟨hg46, hf⟩ := of_gd hf
      refine va_iald (f := (Ms.ate z)) (n := (Ms.nte z)) hx hb hK hP 8 0 rfl rfl (inb_in hg46) dX4_put_239 ?_
      refine lv_iload hx hb dX4_put_240 (lv_at hl 4 rfl) ?_
      refine lv_ishr hx hb dX4_put_242 ?_
      refine lv_iconst (v := 1) hx hb dX4_put_243 (by decide) ?_
      refine lv_iand hx hb dX4_put_244 ?_
      refine lv_iconst (v := 1) hx hb dX4_put_245 (by decide) ?_
      refine lv_icmp_ne (tgt := 262) hx hb dX4_put_246 (by decide) (fun c47 => ?_) (fun c47 => ?_)
      · have hf := (if_neg c47).symm.trans hf
        refine lv_iinc (v := (x6 + 1)) (lv' := [(6, .int (x6 + 1)), (7, .int ((Ms.awt z) r44.toNatClampNeg)), (0, .ref q), (2, .int x2), (3, .int x3)]) hx hb dX4_put_262 hl (k := 4) rfl rfl (by decide) rfl (fun ls hl => ?_)
        refine lv_goto (tgt := 209) hx hb dX4_put_265 (by decide) ?_
        exact ih _ _ _ _ _ _ _ _ _ _ _ hP hD hS (lv_sub hl [2, 3, 4, 0] rfl) hf (by omega) (by omega)
      · have hf := (if_pos c47).symm.trans hf
        refine lv_iload hx hb dX4_put_249 (lv_at hl 0 rfl) ?_
        refine lv_if_le (tgt := 262) hx hb dX4_put_251 (by decide) (fun c48 => ?_) (fun c48 => ?_)
        · have hf := (if_pos c48).symm.trans hf
          refine lv_iinc (v := (x6 + 1)) (lv' := [(6, .int (x6 + 1)), (7, .int ((Ms.awt z) r44.toNatClampNeg)), (0, .ref q), (2, .int x2), (3, .int x3)]) hx hb dX4_put_262 hl (k := 4) rfl rfl (by decide) rfl (fun ls hl => ?_)
          refine lv_goto (tgt := 209) hx hb dX4_put_265 (by decide) ?_
          exact ih _ _ _ _ _ _ _ _ _ _ _ hP hD hS (lv_sub hl [2, 3, 4, 0] rfl) hf (by omega) (by omega)
        · have hf := (if_neg c48).symm.trans hf
          refine lv_aload_n hx hb dX4_put_254 rfl (lv_at hl 1 rfl) ?_
          refine va_get (D := G) (ci := 4) (v := .ref (A 13)) (C := RX4) (T := TX4) (N := 32) hx hb hts (fun w h => .tail _ (wl_X4 w h)) hown hK hP 0 rfl rfl 20 (by decide) (hts _ (.tail _ wm_65)) (fun _ h9 => h9) rfl dX4_put_255 ?_
          refine lv_iload hx hb dX4_put_258 (lv_at hl 0 rfl) ?_
          refine lv_iconst (v := 1) hx hb dX4_put_260 (by decide) ?_
          obtain ⟨hg49, hf⟩ := of_gd hf
          refine va_zast (f := (Ms.akp z)) (n := (Ms.nkp z)) hx hb hK hP hD hS 13 2 rfl rfl (inb_in hg49) dX4_put_261 (fun H locs hP hD hS => ?_)
          have hP : va_P G vwCl (mw cI cL cZ cB q A (Ms.wkp z (upd (Ms.akp z) (((Ms.awt z) r44.toNatClampNeg).toNatClampNeg) (vp_nar .boolean 1)))) H := hP
          have hD : va_D _ (mw cI cL cZ cB q A (Ms.wkp z (upd (Ms.akp z) (((Ms.awt z) r44.toNatClampNeg).toNatClampNeg) (vp_nar .boolean 1)))) := hD
          refine lv_iinc (v := (x6 + 1)) (lv' := [(6, .int (x6 + 1)), (7, .int ((Ms.awt z) r44.toNatClampNeg)), (0, .ref q), (2, .int x2), (3, .int x3)]) hx hb dX4_put_262 hl (k := 4) rfl rfl (by decide) rfl (fun ls hl => ?_)
          refine lv_goto (tgt := 209) hx hb dX4_put_265 (by decide) ?_
          exact ih _ _ _ _ _ _ _ _ _ _ _ hP hD hS (lv_sub hl [2, 3, 4, 0] rfl) hf (by omega) (by omega)
set_option maxHeartbeats 4000000 in
set_option maxRecDepth 100000 in
theorem L_md_put_j158 (l : Launch) (G : va_G) (cI cL cZ cB : ClassId) (q : Nat) (w : va_W) (p : Program) (e : Env) (s : State) (m : MethodId) (args : Array Value) (below : List Frame) (meth : Method) (c : Code) (O0 : Ms × Int32) (mcT msT : Nat) (C : MC p s m args meth c cX4_put 8 (some .int) RX4 vX4_put) (hK : va_K G vwCl (mt cI cL cZ cB) s) : At_md_put_j158 l G cI cL cZ cB q w p e s m args below meth c O0 mcT msT md_put_j158 := by
  obtain ⟨hx, hb, hr, hml, hown, hts, hlocks⟩ := id C
  have FX : CallFix p m c cX4_put 8 s args vX4_put RX4 := ⟨hx, hb, hml, hown, hts⟩
  have hA : ∀ q9 : Nat, s.heap.size ≤ q9 → va_A w s.heap.size q9 := fun q9 h => Or.inr h
  intro A z x2 x3 d0 H locs ls cells slots hP hD hS hl hf hcc hss
  unfold md_put_j158 at hf
  refine lv_aload_n hx hb dX4_put_158 rfl (lv_at hl 0 rfl) ?_
  refine va_get (D := G) (ci := 4) (v := .ref (A 18)) (C := RX4) (T := TX4) (N := 32) hx hb hts (fun w h => .tail _ (wl_X4 w h)) hown hK hP 0 rfl rfl 27 (by decide) (hts _ (.tail _ wm_25)) (fun _ h9 => h9) rfl dX4_put_159 ?_
  refine lv_aload_n hx hb dX4_put_162 rfl (lv_at hl 0 rfl) ?_
  refine va_get (D := G) (ci := 4) (v := .int (Ms.ent z)) (C := RX4) (T := TX4) (N := 32) hx hb hts (fun w h => .tail _ (wl_X4 w h)) hown hK hP 0 rfl rfl 31 (by decide) (hts _ (.tail _ wm_24)) (fun _ h9 => h9) rfl dX4_put_163 ?_
  refine lv_iload_n hx hb dX4_put_166 rfl (lv_at hl 2 rfl) ?_
  obtain ⟨hg31, hf⟩ := of_gd hf
  refine va_iast (f := (Ms.aem z)) (n := (Ms.nem z)) hx hb hK hP hD hS 18 0 rfl rfl (inb_in hg31) dX4_put_167 (fun H locs hP hD hS => ?_)
  have hP : va_P G vwCl (mw cI cL cZ cB q A (Ms.wem z (upd (Ms.aem z) ((Ms.ent z).toNatClampNeg) x3))) H := hP
  have hD : va_D _ (mw cI cL cZ cB q A (Ms.wem z (upd (Ms.aem z) ((Ms.ent z).toNatClampNeg) x3))) := hD
  refine lv_aload_n hx hb dX4_put_168 rfl (lv_at hl 0 rfl) ?_
  refine va_get (D := G) (ci := 4) (v := .ref (A 19)) (C := RX4) (T := TX4) (N := 32) hx hb hts (fun w h => .tail _ (wl_X4 w h)) hown hK hP 0 rfl rfl 28 (by decide) (hts _ (.tail _ wm_29)) (fun _ h9 => h9) rfl dX4_put_169 ?_
  refine lv_aload_n hx hb dX4_put_172 rfl (lv_at hl 0 rfl) ?_
  refine va_get (D := G) (ci := 4) (v := .int (Ms.ent z)) (C := RX4) (T := TX4) (N := 32) hx hb hts (fun w h => .tail _ (wl_X4 w h)) hown hK hP 0 rfl rfl 31 (by decide) (hts _ (.tail _ wm_24)) (fun _ h9 => h9) rfl dX4_put_173 ?_
  refine lv_aload_n hx hb dX4_put_176 rfl (lv_at hl 0 rfl) ?_
  refine va_get (D := G) (ci := 4) (v := .ref (A 11)) (C := RX4) (T := TX4) (N := 32) hx hb hts (fun w h => .tail _ (wl_X4 w h)) hown hK hP 0 rfl rfl 18 (by decide) (hts _ (.tail _ wm_64)) (fun _ h9 => h9) rfl dX4_put_177 ?_
  refine lv_iload_n hx hb dX4_put_180 rfl (lv_at hl 2 rfl) ?_
  obtain ⟨hg32, hf⟩ := of_gd hf
  refine va_iald (f := (Ms.aod z)) (n := (Ms.nod z)) hx hb hK hP 11 0 rfl rfl (inb_in hg32) dX4_put_181 ?_
  obtain ⟨hg33, hf⟩ := of_gd hf
  refine va_iast (f := (Ms.aeo z)) (n := (Ms.neo z)) hx hb hK hP hD hS 19 0 rfl rfl (inb_in hg33) dX4_put_182 (fun H locs hP hD hS => ?_)
  have hP : va_P G vwCl (mw cI cL cZ cB q A (Ms.weo (Ms.wem z (upd (Ms.aem z) ((Ms.ent z).toNatClampNeg) x3)) (upd (Ms.aeo z) ((Ms.ent z).toNatClampNeg) ((Ms.aod z) x3.toNatClampNeg)))) H := hP
  have hD : va_D _ (mw cI cL cZ cB q A (Ms.weo (Ms.wem z (upd (Ms.aem z) ((Ms.ent z).toNatClampNeg) x3)) (upd (Ms.aeo z) ((Ms.ent z).toNatClampNeg) ((Ms.aod z) x3.toNatClampNeg)))) := hD
  refine lv_aload_n hx hb dX4_put_183 rfl (lv_at hl 0 rfl) ?_
  refine lv_aload_n hx hb dX4_put_184 rfl (lv_at hl 0 rfl) ?_
  refine va_get (D := G) (ci := 4) (v := .int (Ms.ent z)) (C := RX4) (T := TX4) (N := 32) hx hb hts (fun w h => .tail _ (wl_X4 w h)) hown hK hP 0 rfl rfl 31 (by decide) (hts _ (.tail _ wm_24)) (fun _ h9 => h9) rfl dX4_put_185 ?_
  refine lv_iload_n hx hb dX4_put_188 rfl (lv_at hl 1 rfl) ?_
  refine lv_iconst (v := 0) hx hb dX4_put_189 (by decide) ?_
  refine lv_aload_n hx hb dX4_put_190 rfl (lv_at hl 0 rfl) ?_
  refine va_get (D := G) (ci := 4) (v := .ref (A 6)) (C := RX4) (T := TX4) (N := 32) hx hb hts (fun w h => .tail _ (wl_X4 w h)) hown hK hP 0 rfl rfl 13 (by decide) (hts _ (.tail _ wm_9)) (fun _ h9 => h9) rfl dX4_put_191 ?_
  refine lv_iload_n hx hb dX4_put_194 rfl (lv_at hl 2 rfl) ?_
  obtain ⟨hg34, hf⟩ := of_gd hf
  refine va_iald (f := (Ms.ake z)) (n := (Ms.nke z)) hx hb hK hP 6 0 rfl rfl (inb_in hg34) dX4_put_195 ?_
  refine lv_aload_n hx hb dX4_put_196 rfl (lv_at hl 0 rfl) ?_
  refine va_get (D := G) (ci := 4) (v := .ref (A 7)) (C := RX4) (T := TX4) (N := 32) hx hb hts (fun w h => .tail _ (wl_X4 w h)) hown hK hP 0 rfl rfl 14 (by decide) (hts _ (.tail _ wm_10)) (fun _ h9 => h9) rfl dX4_put_197 ?_
  refine lv_iload_n hx hb dX4_put_200 rfl (lv_at hl 2 rfl) ?_
  obtain ⟨hg35, hf⟩ := of_gd hf
  refine va_iald (f := (Ms.ava z)) (n := (Ms.nva z)) hx hb hK hP 7 0 rfl rfl (inb_in hg35) dX4_put_201 ?_
  refine lv_iadd hx hb dX4_put_202 ?_
  obtain ⟨z36, o9, ho36, hf⟩ := of_bw hf
  refine gcWv (gV FX [.int (Ms.ent z), .int x2, .int 0, .int (((Ms.ake z) x3.toNatClampNeg) + ((Ms.ava z) x3.toNatClampNeg))] (c_md_setEntry l G cI cL cZ cB q A (Ms.weo (Ms.wem z (upd (Ms.aem z) ((Ms.ent z).toNatClampNeg) x3)) (upd (Ms.aeo z) ((Ms.ent z).toNatClampNeg) ((Ms.aod z) x3.toNatClampNeg))) _ (Ms.ent z) x2 0 (((Ms.ake z) x3.toNatClampNeg) + ((Ms.ava z) x3.toNatClampNeg)) _ ho36) (cwV 4 hts (gi_V wm_150 wm_151 wm_152 wm_6 wm_153) rfl rfl rfl hdV_X4_setEntry ⟨Nat.le_of_ble_eq_true rfl, Nat.le_of_ble_eq_true rfl⟩) hK hP hD 0 rfl rfl rfl hl.1 (Nat.le_of_ble_eq_true rfl) dX4_put_203 ⟨by show _ ≤ mcT; omega, by show _ ≤ msT; omega⟩) hS hD hA (fun A H locs hP hD hS => ?_)
  refine lv_iconst (v := 0) hx hb dX4_put_206 (by decide) ?_
  refine lv_istore (lv' := [(6, .int 0), (0, .ref q), (2, .int x2), (3, .int x3)]) hx hb dX4_put_207 hl (by decide) rfl (fun ls hl => ?_)
  exact L_md_put_l209 _ _ _ _ _ _ _ _ _ _ _ _ _ _ _ _ _ _ _ C hK FU _ _ _ _ _ _ _ _ _ _ _ hP hD hS (lv_sub hl [1, 2, 3, 0] rfl) hf (by omega) (by omega)
set_option maxHeartbeats 4000000 in
set_option maxRecDepth 100000 in
theorem L_md_put_j92 (l : Launch) (G : va_G) (cI cL cZ cB : ClassId) (q : Nat) (w : va_W) (p : Program) (e : Env) (s : State) (m : MethodId) (args : Array Value) (below : List Frame) (meth : Method) (c : Code) (O0 : Ms × Int32) (mcT msT : Nat) (C : MC p s m args meth c cX4_put 8 (some .int) RX4 vX4_put) (hK : va_K G vwCl (mt cI cL cZ cB) s) : At_md_put_j92 l G cI cL cZ cB q w p e s m args below meth c O0 mcT msT md_put_j92 := by
  obtain ⟨hx, hb, hr, hml, hown, hts, hlocks⟩ := id C
  have FX : CallFix p m c cX4_put 8 s args vX4_put RX4 := ⟨hx, hb, hml, hown, hts⟩
  have hA : ∀ q9 : Nat, s.heap.size ≤ q9 → va_A w s.heap.size q9 := fun q9 h => Or.inr h
  intro A z x2 x3 x5 t0 d0 H locs ls cells slots hP hD hS hl hf hcc hss
  unfold md_put_j92 at hf
  refine va_put (D := G) (ci := 4) (v := .int t0) (ty := .int) (C := RX4) (T := TX4) (N := 32) hx hb hts (fun w h => .tail _ (wl_X4 w h)) tyX4 tyX4_ok nmX4 hown hK hP hD hS 0 rfl rfl 0 (by decide) (hts _ (.tail _ wm_0)) (fun _ h9 => h9) rfl (by decide +kernel) rfl rfl (Nat.le_of_ble_eq_true rfl) dX4_put_92 (fun H locs hP hD hS => ?_)
  have hP : va_P G vwCl (mw cI cL cZ cB q A (Ms.sthr z t0)) H := hP
  have hD : va_D _ (mw cI cL cZ cB q A (Ms.sthr z t0)) := hD
  refine lv_iload hx hb dX4_put_95 (lv_at hl 3 rfl) ?_
  refine lv_if_ne (tgt := 102) hx hb dX4_put_97 (by decide) (fun c13 => ?_) (fun c13 => ?_)
  · have hf := (if_neg c13).symm.trans hf
    refine lv_aload_n hx hb dX4_put_102 rfl (lv_at hl 0 rfl) ?_
    refine va_get (D := G) (ci := 4) (v := .int (Ms.ent z)) (C := RX4) (T := TX4) (N := 32) hx hb hts (fun w h => .tail _ (wl_X4 w h)) hown hK hP 0 rfl rfl 31 (by decide) (hts _ (.tail _ wm_24)) (fun _ h9 => h9) rfl dX4_put_103 ?_
    refine lv_aload_n hx hb dX4_put_106 rfl (lv_at hl 0 rfl) ?_
    refine va_get (D := G) (ci := 4) (v := .ref (A 18)) (C := RX4) (T := TX4) (N := 32) hx hb hts (fun w h => .tail _ (wl_X4 w h)) hown hK hP 0 rfl rfl 27 (by decide) (hts _ (.tail _ wm_25)) (fun _ h9 => h9) rfl dX4_put_107 ?_
    refine va_alen hx hb hK hP 18 0 rfl rfl (v := (Int32.ofNat (Ms.nem z))) rfl dX4_put_110 ?_
    refine lv_icmp_ne (tgt := 158) hx hb dX4_put_111 (by decide) (fun c14 => ?_) (fun c14 => ?_)
    · have hf := (if_neg c14).symm.trans hf
      exact L_md_put_j158 _ _ _ _ _ _ _ _ _ _ _ _ _ _ _ _ _ _ _ C hK _ _ _ _ _ _ _ _ _ _ hP hD hS (lv_sub hl [0, 1, 2] rfl) hf (by omega) (by omega)
    · have hf := (if_pos c14).symm.trans hf
      refine lv_aload_n hx hb dX4_put_114 rfl (lv_at hl 0 rfl) ?_
      refine lv_aload_n hx hb dX4_put_115 rfl (lv_at hl 0 rfl) ?_
      refine va_get (D := G) (ci := 4) (v := .ref (A 18)) (C := RX4) (T := TX4) (N := 32) hx hb hts (fun w h => .tail _ (wl_X4 w h)) hown hK hP 0 rfl rfl 27 (by decide) (hts _ (.tail _ wm_25)) (fun _ h9 => h9) rfl dX4_put_116 ?_
      obtain ⟨hg16, hf⟩ := of_gd hf
      obtain ⟨d17, hf, ek18⟩ := of_addc hf
      have bhg16 := (wdb_in hg16).1
      have hPc := hP.sub (ws' := [(A 18, .inl (cI, (Ms.nem z), .inl (Ms.aem z)))]) [18] rfl
      have hDc := hD.sub (ws' := [(A 18, .inl (cI, (Ms.nem z), .inl (Ms.aem z)))]) [18] (by decide) rfl
      refine gcA (q0 := 18) (gS FX [.ref (A 18)] (c_md_wider l G cI cL cZ cB (A 18) (Ms.nem z) (Ms.aem z) _ (wdb_in hg16)) (cwS 1 hts (gi_S wm_69 wm_70 wm_6 wm_71) rfl rfl rfl hdS_X4_wider ⟨Nat.le_of_ble_eq_true rfl, Nat.le_of_ble_eq_true rfl⟩) hK hPc hDc rfl hl.1 (Nat.le_of_ble_eq_true rfl) dX4_put_119 ⟨by show _ ≤ mcT; omega, by show _ ≤ msT; omega⟩) hP rfl hS hD hA (fun x15 H locs hP hD hS => ?_)
      refine va_put (D := G) (ci := 4) (v := .ref x15) (ty := .array .int) (C := RX4) (T := TX4) (N := 32) hx hb hts (fun w h => .tail _ (wl_X4 w h)) tyX4 tyX4_ok nmX4 hown hK hP hD hS 0 rfl rfl 27 (by decide) (hts _ (.tail _ wm_25)) (fun _ h9 => h9) rfl (by decide +kernel) rfl rfl (Nat.le_of_ble_eq_true rfl) dX4_put_122 (fun H locs hP hD hS => ?_)
      have hP := hP.sub (ws' := (mw cI cL cZ cB q (va_up A 18 x15) (Ms.wem (Ms.snem (Ms.sthr z t0) (2 * (Ms.nem z))) (wdI (Ms.aem z) (Ms.nem z))))) [0, 1, 2, 3, 4, 5, 6, 7, 8, 9, 10, 11, 12, 13, 14, 15, 16, 17, 22, 19, 20, 21] rfl
      have hD := hD.sub (ws' := (mw cI cL cZ cB q (va_up A 18 x15) (Ms.wem (Ms.snem (Ms.sthr z t0) (2 * (Ms.nem z))) (wdI (Ms.aem z) (Ms.nem z))))) [0, 1, 2, 3, 4, 5, 6, 7, 8, 9, 10, 11, 12, 13, 14, 15, 16, 17, 22, 19, 20, 21] (by decide) rfl
      generalize va_up A 18 x15 = A at hP hD
      refine lv_aload_n hx hb dX4_put_125 rfl (lv_at hl 0 rfl) ?_
      refine lv_aload_n hx hb dX4_put_126 rfl (lv_at hl 0 rfl) ?_
      refine va_get (D := G) (ci := 4) (v := .ref (A 19)) (C := RX4) (T := TX4) (N := 32) hx hb hts (fun w h => .tail _ (wl_X4 w h)) hown hK hP 0 rfl rfl 28 (by decide) (hts _ (.tail _ wm_29)) (fun _ h9 => h9) rfl dX4_put_127 ?_
      obtain ⟨hg20, hf⟩ := of_gd hf
      obtain ⟨d21, hf, ek22⟩ := of_addc hf
      have bhg20 := (wdb_in hg20).1
      have hPc := hP.sub (ws' := [(A 19, .inl (cI, (Ms.neo z), .inl (Ms.aeo z)))]) [19] rfl
      have hDc := hD.sub (ws' := [(A 19, .inl (cI, (Ms.neo z), .inl (Ms.aeo z)))]) [19] (by decide) rfl
      refine gcA (q0 := 19) (gS FX [.ref (A 19)] (c_md_wider l G cI cL cZ cB (A 19) (Ms.neo z) (Ms.aeo z) _ (wdb_in hg20)) (cwS 1 hts (gi_S wm_69 wm_70 wm_6 wm_71) rfl rfl rfl hdS_X4_wider ⟨Nat.le_of_ble_eq_true rfl, Nat.le_of_ble_eq_true rfl⟩) hK hPc hDc rfl hl.1 (Nat.le_of_ble_eq_true rfl) dX4_put_130 ⟨by show _ ≤ mcT; omega, by show _ ≤ msT; omega⟩) hP rfl hS hD hA (fun x19 H locs hP hD hS => ?_)
      refine va_put (D := G) (ci := 4) (v := .ref x19) (ty := .array .int) (C := RX4) (T := TX4) (N := 32) hx hb hts (fun w h => .tail _ (wl_X4 w h)) tyX4 tyX4_ok nmX4 hown hK hP hD hS 0 rfl rfl 28 (by decide) (hts _ (.tail _ wm_29)) (fun _ h9 => h9) rfl (by decide +kernel) rfl rfl (Nat.le_of_ble_eq_true rfl) dX4_put_133 (fun H locs hP hD hS => ?_)
      have hP := hP.sub (ws' := (mw cI cL cZ cB q (va_up A 19 x19) (Ms.weo (Ms.sneo (Ms.wem (Ms.snem (Ms.sthr z t0) (2 * (Ms.nem z))) (wdI (Ms.aem z) (Ms.nem z))) (2 * (Ms.neo z))) (wdI (Ms.aeo z) (Ms.neo z))))) [0, 1, 2, 3, 4, 5, 6, 7, 8, 9, 10, 11, 12, 13, 14, 15, 16, 17, 18, 22, 20, 21] rfl
      have hD := hD.sub (ws' := (mw cI cL cZ cB q (va_up A 19 x19) (Ms.weo (Ms.sneo (Ms.wem (Ms.snem (Ms.sthr z t0) (2 * (Ms.nem z))) (wdI (Ms.aem z) (Ms.nem z))) (2 * (Ms.neo z))) (wdI (Ms.aeo z) (Ms.neo z))))) [0, 1, 2, 3, 4, 5, 6, 7, 8, 9, 10, 11, 12, 13, 14, 15, 16, 17, 18, 22, 20, 21] (by decide) rfl
      generalize va_up A 19 x19 = A at hP hD
      refine lv_aload_n hx hb dX4_put_136 rfl (lv_at hl 0 rfl) ?_
      refine lv_aload_n hx hb dX4_put_137 rfl (lv_at hl 0 rfl) ?_
      refine va_get (D := G) (ci := 4) (v := .ref (A 20)) (C := RX4) (T := TX4) (N := 32) hx hb hts (fun w h => .tail _ (wl_X4 w h)) hown hK hP 0 rfl rfl 29 (by decide) (hts _ (.tail _ wm_28)) (fun _ h9 => h9) rfl dX4_put_138 ?_
      obtain ⟨hg24, hf⟩ := of_gd hf
      obtain ⟨d25, hf, ek26⟩ := of_addc hf
      have bhg24 := (wdb_in hg24).1
      have hPc := hP.sub (ws' := [(A 20, .inl (cI, (Ms.net z), .inl (Ms.aet z)))]) [20] rfl
      have hDc := hD.sub (ws' := [(A 20, .inl (cI, (Ms.net z), .inl (Ms.aet z)))]) [20] (by decide) rfl
      refine gcA (q0 := 20) (gS FX [.ref (A 20)] (c_md_wider l G cI cL cZ cB (A 20) (Ms.net z) (Ms.aet z) _ (wdb_in hg24)) (cwS 1 hts (gi_S wm_69 wm_70 wm_6 wm_71) rfl rfl rfl hdS_X4_wider ⟨Nat.le_of_ble_eq_true rfl, Nat.le_of_ble_eq_true rfl⟩) hK hPc hDc rfl hl.1 (Nat.le_of_ble_eq_true rfl) dX4_put_141 ⟨by show _ ≤ mcT; omega, by show _ ≤ msT; omega⟩) hP rfl hS hD hA (fun x23 H locs hP hD hS => ?_)
      refine va_put (D := G) (ci := 4) (v := .ref x23) (ty := .array .int) (C := RX4) (T := TX4) (N := 32) hx hb hts (fun w h => .tail _ (wl_X4 w h)) tyX4 tyX4_ok nmX4 hown hK hP hD hS 0 rfl rfl 29 (by decide) (hts _ (.tail _ wm_28)) (fun _ h9 => h9) rfl (by decide +kernel) rfl rfl (Nat.le_of_ble_eq_true rfl) dX4_put_144 (fun H locs hP hD hS => ?_)
      have hP := hP.sub (ws' := (mw cI cL cZ cB q (va_up A 20 x23) (Ms.wet (Ms.snet (Ms.weo (Ms.sneo (Ms.wem (Ms.snem (Ms.sthr z t0) (2 * (Ms.nem z))) (wdI (Ms.aem z) (Ms.nem z))) (2 * (Ms.neo z))) (wdI (Ms.aeo z) (Ms.neo z))) (2 * (Ms.net z))) (wdI (Ms.aet z) (Ms.net z))))) [0, 1, 2, 3, 4, 5, 6, 7, 8, 9, 10, 11, 12, 13, 14, 15, 16, 17, 18, 19, 22, 21] rfl
      have hD := hD.sub (ws' := (mw cI cL cZ cB q (va_up A 20 x23) (Ms.wet (Ms.snet (Ms.weo (Ms.sneo (Ms.wem (Ms.snem (Ms.sthr z t0) (2 * (Ms.nem z))) (wdI (Ms.aem z) (Ms.nem z))) (2 * (Ms.neo z))) (wdI (Ms.aeo z) (Ms.neo z))) (2 * (Ms.net z))) (wdI (Ms.aet z) (Ms.net z))))) [0, 1, 2, 3, 4, 5, 6, 7, 8, 9, 10, 11, 12, 13, 14, 15, 16, 17, 18, 19, 22, 21] (by decide) rfl
      generalize va_up A 20 x23 = A at hP hD
      refine lv_aload_n hx hb dX4_put_147 rfl (lv_at hl 0 rfl) ?_
      refine lv_aload_n hx hb dX4_put_148 rfl (lv_at hl 0 rfl) ?_
      refine va_get (D := G) (ci := 4) (v := .ref (A 21)) (C := RX4) (T := TX4) (N := 32) hx hb hts (fun w h => .tail _ (wl_X4 w h)) hown hK hP 0 rfl rfl 30 (by decide) (hts _ (.tail _ wm_30)) (fun _ h9 => h9) rfl dX4_put_149 ?_
      obtain ⟨hg28, hf⟩ := of_gd hf
      obtain ⟨d29, hf, ek30⟩ := of_addc hf
      have bhg28 := (wdb_in hg28).1
      have hPc := hP.sub (ws' := [(A 21, .inl (cL, (Ms.nev z), .inr (.inl (Ms.aev z))))]) [21] rfl
      have hDc := hD.sub (ws' := [(A 21, .inl (cL, (Ms.nev z), .inr (.inl (Ms.aev z))))]) [21] (by decide) rfl
      refine gcA (q0 := 21) (gS FX [.ref (A 21)] (c_md_widerLongs l G cI cL cZ cB (A 21) (Ms.nev z) (Ms.aev z) _ (wdb_in hg28)) (cwS 1 hts (gi_S wm_86 wm_87 wm_6 wm_88) rfl rfl rfl hdS_X4_widerLongs ⟨Nat.le_of_ble_eq_true rfl, Nat.le_of_ble_eq_true rfl⟩) hK hPc hDc rfl hl.1 (Nat.le_of_ble_eq_true rfl) dX4_put_152 ⟨by show _ ≤ mcT; omega, by show _ ≤ msT; omega⟩) hP rfl hS hD hA (fun x27 H locs hP hD hS => ?_)
      refine va_put (D := G) (ci := 4) (v := .ref x27) (ty := .array .long) (C := RX4) (T := TX4) (N := 32) hx hb hts (fun w h => .tail _ (wl_X4 w h)) tyX4 tyX4_ok nmX4 hown hK hP hD hS 0 rfl rfl 30 (by decide) (hts _ (.tail _ wm_30)) (fun _ h9 => h9) rfl (by decide +kernel) rfl rfl (Nat.le_of_ble_eq_true rfl) dX4_put_155 (fun H locs hP hD hS => ?_)
      have hP := hP.sub (ws' := (mw cI cL cZ cB q (va_up A 21 x27) (Ms.wev (Ms.snev (Ms.wet (Ms.snet (Ms.weo (Ms.sneo (Ms.wem (Ms.snem (Ms.sthr z t0) (2 * (Ms.nem z))) (wdI (Ms.aem z) (Ms.nem z))) (2 * (Ms.neo z))) (wdI (Ms.aeo z) (Ms.neo z))) (2 * (Ms.net z))) (wdI (Ms.aet z) (Ms.net z))) (2 * (Ms.nev z))) (wdJ (Ms.aev z) (Ms.nev z))))) [0, 1, 2, 3, 4, 5, 6, 7, 8, 9, 10, 11, 12, 13, 14, 15, 16, 17, 18, 19, 20, 22] rfl
      have hD := hD.sub (ws' := (mw cI cL cZ cB q (va_up A 21 x27) (Ms.wev (Ms.snev (Ms.wet (Ms.snet (Ms.weo (Ms.sneo (Ms.wem (Ms.snem (Ms.sthr z t0) (2 * (Ms.nem z))) (wdI (Ms.aem z) (Ms.nem z))) (2 * (Ms.neo z))) (wdI (Ms.aeo z) (Ms.neo z))) (2 * (Ms.net z))) (wdI (Ms.aet z) (Ms.net z))) (2 * (Ms.nev z))) (wdJ (Ms.aev z) (Ms.nev z))))) [0, 1, 2, 3, 4, 5, 6, 7, 8, 9, 10, 11, 12, 13, 14, 15, 16, 17, 18, 19, 20, 22] (by decide) rfl
      generalize va_up A 21 x27 = A at hP hD
      exact L_md_put_j158 _ _ _ _ _ _ _ _ _ _ _ _ _ _ _ _ _ _ _ C hK _ _ _ _ _ _ _ _ _ _ hP hD hS (lv_sub hl [0, 1, 2] rfl) hf (by omega) (by omega)
  · have hf := (if_pos c13).symm.trans hf
    refine lv_iconst (v := 0) hx hb dX4_put_100 (by decide) ?_
    obtain ⟨hc0, hj0⟩ := of_some2 hf
    subst hj0
    exact grWi hx hb hr hlocks hP hK hD hS dX4_put_101 (by omega) (by omega)
set_option maxHeartbeats 4000000 in
set_option maxRecDepth 100000 in
theorem c_md_put (l : Launch) (G : va_G) (cI cL cZ cB : ClassId) (q : Nat) (A : Nat → Nat) (z : Ms) (sz : Nat) (p0 : Int32) (p1 : Int32) (c0 : Nat) (O0 : Ms × Int32) (hf : md_put z p0 p1 = some (c0, O0)) : Met l yX4_put vX4_put { frames := 5, cells := 0 + c0 / 64, slots := 0 + c0, locals := 116 } (gPc G vwCl (mt cI cL cZ cB) [.ref q, .int p0, .int p1] (mw cI cL cZ cB q A z) sz) (qWi G vwCl (mt cI cL cZ cB) (mw cI cL cZ cB q A z) sz (mw cI cL cZ cB q) O0) (0 + c0 / 64) (0 + c0) (va_A (mw cI cL cZ cB q A z) sz) := by
  refine gMet (by decide) rfl (Nat.le_of_ble_eq_true rfl) ?_
  intro p e s m below meth c ls C hK hP hD hsz hl
  subst hsz
  obtain ⟨hx, hb, hr, hml, hown, hts, hlocks⟩ := id C
  have FX : CallFix p m c cX4_put 8 s _ vX4_put RX4 := ⟨hx, hb, hml, hown, hts⟩
  have hA : ∀ q9 : Nat, s.heap.size ≤ q9 → va_A (mw cI cL cZ cB q A z) s.heap.size q9 := fun q9 h => Or.inr h
  have hS : va_S (va_A (mw cI cL cZ cB q A z) s.heap.size) s.heap s.heap [] := va_S.rf
  have hl : lv_has ls 8 [(0, .ref q), (1, .int p0), (2, .int p1)] := hl
  unfold md_put at hf
  refine lv_aload_n hx hb dX4_put_0 rfl (lv_at hl 0 rfl) ?_
  refine lv_aload_n hx hb dX4_put_1 rfl (lv_at hl 0 rfl) ?_
  refine lv_iload_n hx hb dX4_put_2 rfl (lv_at hl 1 rfl) ?_
  refine lv_iload_n hx hb dX4_put_3 rfl (lv_at hl 2 rfl) ?_
  refine lv_iconst (v := 1) hx hb dX4_put_4 (by decide) ?_
  obtain ⟨r1, ho1, hf⟩ := of_b0 hf
  refine gcRi (gV FX [.int p0, .int p1, .int 1] (c_md_wrong l G cI cL cZ cB q A z _ p0 p1 1 _ ho1) (cwV 3 hts (gi_V wm_158 wm_159 wm_160 wm_6 wm_161) rfl rfl rfl hdV_X4_wrong ⟨Nat.le_of_ble_eq_true rfl, Nat.le_of_ble_eq_true rfl⟩) hK hP hD 0 rfl rfl rfl hl.1 (Nat.le_of_ble_eq_true rfl) dX4_put_5 ⟨by show _ ≤ 0 + c0 / 64; omega, by show _ ≤ 0 + c0; omega⟩) hS hD hA (fun H locs hP hS => ?_)
  refine va_put (D := G) (ci := 4) (v := .int r1) (ty := .int) (C := RX4) (T := TX4) (N := 32) hx hb hts (fun w h => .tail _ (wl_X4 w h)) tyX4 tyX4_ok nmX4 hown hK hP hD hS 0 rfl rfl 0 (by decide) (hts _ (.tail _ wm_0)) (fun _ h9 => h9) rfl (by decide +kernel) rfl rfl (Nat.le_of_ble_eq_true rfl) dX4_put_8 (fun H locs hP hD hS => ?_)
  have hP : va_P G vwCl (mw cI cL cZ cB q A (Ms.sthr z r1)) H := hP
  have hD : va_D _ (mw cI cL cZ cB q A (Ms.sthr z r1)) := hD
  refine lv_aload_n hx hb dX4_put_11 rfl (lv_at hl 0 rfl) ?_
  refine va_get (D := G) (ci := 4) (v := .int r1) (C := RX4) (T := TX4) (N := 32) hx hb hts (fun w h => .tail _ (wl_X4 w h)) hown hK hP 0 rfl rfl 0 (by decide) (hts _ (.tail _ wm_0)) (fun _ h9 => h9) rfl dX4_put_12 ?_
  refine lv_if_le (tgt := 20) hx hb dX4_put_15 (by decide) (fun c2 => ?_) (fun c2 => ?_)
  · have hf := (if_pos c2).symm.trans hf
    refine lv_aload_n hx hb dX4_put_20 rfl (lv_at hl 0 rfl) ?_
    refine va_get (D := G) (ci := 4) (v := .ref (A 1)) (C := RX4) (T := TX4) (N := 32) hx hb hts (fun w h => .tail _ (wl_X4 w h)) hown hK hP 0 rfl rfl 7 (by decide) (hts _ (.tail _ wm_1)) (fun _ h9 => h9) rfl dX4_put_21 ?_
    refine lv_iload_n hx hb dX4_put_24 rfl (lv_at hl 1 rfl) ?_
    obtain ⟨hg3, hf⟩ := of_gd hf
    refine va_iald (f := (Ms.atg z)) (n := (Ms.ntg z)) hx hb hK hP 1 0 rfl rfl (inb_in hg3) dX4_put_25 ?_
    refine lv_istore_n (lv' := [(3, .int ((Ms.atg z) p0.toNatClampNeg)), (0, .ref q), (1, .int p0), (2, .int p1)]) hx hb dX4_put_26 rfl hl (by decide) rfl (fun ls hl => ?_)
    refine lv_aload_n hx hb dX4_put_27 rfl (lv_at hl 1 rfl) ?_
    refine lv_iload_n hx hb dX4_put_28 rfl (lv_at hl 2 rfl) ?_
    refine lv_iload_n hx hb dX4_put_29 rfl (lv_at hl 3 rfl) ?_
    obtain ⟨r4, ho4, hf⟩ := of_b0 hf
    refine gcRi (gV FX [.int p0, .int p1] (c_md_find l G cI cL cZ cB q A (Ms.sthr z r1) _ p0 p1 _ ho4) (cwV 2 hts (gi_V wm_154 wm_155 wm_156 wm_6 wm_157) rfl rfl rfl hdV_X4_find ⟨Nat.le_of_ble_eq_true rfl, Nat.le_of_ble_eq_true rfl⟩) hK hP hD 0 rfl rfl rfl hl.1 (Nat.le_of_ble_eq_true rfl) dX4_put_30 ⟨by show _ ≤ 0 + c0 / 64; omega, by show _ ≤ 0 + c0; omega⟩) hS hD hA (fun H locs hP hS => ?_)
    refine lv_istore (lv' := [(4, .int r4), (3, .int ((Ms.atg z) p0.toNatClampNeg)), (0, .ref q), (1, .int p0), (2, .int p1)]) hx hb dX4_put_33 hl (by decide) rfl (fun ls hl => ?_)
    refine lv_iload hx hb dX4_put_35 (lv_at hl 0 rfl) ?_
    refine lv_if_lt (tgt := 74) hx hb dX4_put_37 (by decide) (fun c5 => ?_) (fun c5 => ?_)
    · have hf := (if_pos c5).symm.trans hf
      refine lv_aload_n hx hb dX4_put_74 rfl (lv_at hl 2 rfl) ?_
      refine lv_iload_n hx hb dX4_put_75 rfl (lv_at hl 1 rfl) ?_
      obtain ⟨z6, r6, ho6, hf⟩ := of_bw hf
      refine gcWi (gV FX [.int ((Ms.atg z) p0.toNatClampNeg)] (c_md_renews l G cI cL cZ cB q A (Ms.sthr z r1) _ ((Ms.atg z) p0.toNatClampNeg) _ ho6) (cwV 1 hts (gi_V wm_146 wm_147 wm_148 wm_6 wm_149) rfl rfl rfl hdV_X4_renews ⟨Nat.le_of_ble_eq_true rfl, Nat.le_of_ble_eq_true rfl⟩) hK hP hD 0 rfl rfl rfl hl.1 (Nat.le_of_ble_eq_true rfl) dX4_put_76 ⟨by show _ ≤ 0 + c0 / 64; omega, by show _ ≤ 0 + c0; omega⟩) hS hD hA (fun A H locs hP hD hS => ?_)
      refine lv_istore (lv' := [(5, .int r6), (4, .int r4), (3, .int ((Ms.atg z) p0.toNatClampNeg)), (0, .ref q), (1, .int p0), (2, .int p1)]) hx hb dX4_put_79 hl (by decide) rfl (fun ls hl => ?_)
      refine lv_aload_n hx hb dX4_put_81 rfl (lv_at hl 3 rfl) ?_
      refine lv_iload hx hb dX4_put_82 (lv_at hl 0 rfl) ?_
      refine lv_if_eq (tgt := 91) hx hb dX4_put_84 (by decide) (fun c7 => ?_) (fun c7 => ?_)
      · have hf := (if_pos c7).symm.trans hf
        refine lv_iconst (v := 4) hx hb dX4_put_91 (by decide) ?_
        exact L_md_put_j92 _ _ _ _ _ _ _ _ _ _ _ _ _ _ _ _ _ _ _ C hK _ _ _ _ _ _ _ _ _ _ _ _ hP hD hS (lv_sub hl [3, 5, 2, 0] rfl) hf (by omega) (by omega)
      · have hf := (if_neg c7).symm.trans hf
        refine lv_iconst (v := 0) hx hb dX4_put_87 (by decide) ?_
        refine lv_goto (tgt := 92) hx hb dX4_put_88 (by decide) ?_
        exact L_md_put_j92 _ _ _ _ _ _ _ _ _ _ _ _ _ _ _ _ _ _ _ C hK _ _ _ _ _ _ _ _ _ _ _ _ hP hD hS (lv_sub hl [3, 5, 2, 0] rfl) hf (by omega) (by omega)
    · have hf := (if_neg c5).symm.trans hf
      refine lv_aload_n hx hb dX4_put_40 rfl (lv_at hl 2 rfl) ?_
      refine lv_iload hx hb dX4_put_41 (lv_at hl 0 rfl) ?_
      refine lv_iload_n hx hb dX4_put_43 rfl (lv_at hl 4 rfl) ?_
      refine lv_aload_n hx hb dX4_put_44 rfl (lv_at hl 2 rfl) ?_
      refine va_get (D := G) (ci := 4) (v := .ref (A 6)) (C := RX4) (T := TX4) (N := 32) hx hb hts (fun w h => .tail _ (wl_X4 w h)) hown hK hP 0 rfl rfl 13 (by decide) (hts _ (.tail _ wm_9)) (fun _ h9 => h9) rfl dX4_put_45 ?_
      refine lv_iload_n hx hb dX4_put_48 rfl (lv_at hl 1 rfl) ?_
      obtain ⟨hg8, hf⟩ := of_gd hf
      refine va_iald (f := (Ms.ake z)) (n := (Ms.nke z)) hx hb hK hP 6 0 rfl rfl (inb_in hg8) dX4_put_49 ?_
      refine lv_aload_n hx hb dX4_put_50 rfl (lv_at hl 2 rfl) ?_
      refine va_get (D := G) (ci := 4) (v := .ref (A 6)) (C := RX4) (T := TX4) (N := 32) hx hb hts (fun w h => .tail _ (wl_X4 w h)) hown hK hP 0 rfl rfl 13 (by decide) (hts _ (.tail _ wm_9)) (fun _ h9 => h9) rfl dX4_put_51 ?_
      refine lv_iload_n hx hb dX4_put_54 rfl (lv_at hl 1 rfl) ?_
      obtain ⟨hg9, hf⟩ := of_gd hf
      refine va_iald (f := (Ms.ake z)) (n := (Ms.nke z)) hx hb hK hP 6 0 rfl rfl (inb_in hg9) dX4_put_55 ?_
      refine lv_aload_n hx hb dX4_put_56 rfl (lv_at hl 2 rfl) ?_
      refine va_get (D := G) (ci := 4) (v := .ref (A 7)) (C := RX4) (T := TX4) (N := 32) hx hb hts (fun w h => .tail _ (wl_X4 w h)) hown hK hP 0 rfl rfl 14 (by decide) (hts _ (.tail _ wm_10)) (fun _ h9 => h9) rfl dX4_put_57 ?_
      refine lv_iload_n hx hb dX4_put_60 rfl (lv_at hl 1 rfl) ?_
      obtain ⟨hg10, hf⟩ := of_gd hf
      refine va_iald (f := (Ms.ava z)) (n := (Ms.nva z)) hx hb hK hP 7 0 rfl rfl (inb_in hg10) dX4_put_61 ?_
      refine lv_iadd hx hb dX4_put_62 ?_
      obtain ⟨z11, o9, ho11, hf⟩ := of_bw hf
      refine gcWv (gV FX [.int r4, .int p1, .int ((Ms.ake z) ((Ms.atg z) p0.toNatClampNeg).toNatClampNeg), .int (((Ms.ake z) ((Ms.atg z) p0.toNatClampNeg).toNatClampNeg) + ((Ms.ava z) ((Ms.atg z) p0.toNatClampNeg).toNatClampNeg))] (c_md_setEntry l G cI cL cZ cB q A (Ms.sthr z r1) _ r4 p1 ((Ms.ake z) ((Ms.atg z) p0.toNatClampNeg).toNatClampNeg) (((Ms.ake z) ((Ms.atg z) p0.toNatClampNeg).toNatClampNeg) + ((Ms.ava z) ((Ms.atg z) p0.toNatClampNeg).toNatClampNeg)) _ ho11) (cwV 4 hts (gi_V wm_150 wm_151 wm_152 wm_6 wm_153) rfl rfl rfl hdV_X4_setEntry ⟨Nat.le_of_ble_eq_true rfl, Nat.le_of_ble_eq_true rfl⟩) hK hP hD 0 rfl rfl rfl hl.1 (Nat.le_of_ble_eq_true rfl) dX4_put_63 ⟨by show _ ≤ 0 + c0 / 64; omega, by show _ ≤ 0 + c0; omega⟩) hS hD hA (fun A H locs hP hD hS => ?_)
      refine lv_aload_n hx hb dX4_put_66 rfl (lv_at hl 2 rfl) ?_
      refine va_get (D := G) (ci := 4) (v := .ref (A 19)) (C := RX4) (T := TX4) (N := 32) hx hb hts (fun w h => .tail _ (wl_X4 w h)) hown hK hP 0 rfl rfl 28 (by decide) (hts _ (.tail _ wm_29)) (fun _ h9 => h9) rfl dX4_put_67 ?_
      refine lv_iload hx hb dX4_put_70 (lv_at hl 0 rfl) ?_
      obtain ⟨hg12, hf⟩ := of_gd hf
      refine va_iald (f := (Ms.aeo z11)) (n := (Ms.neo z11)) hx hb hK hP 19 0 rfl rfl (inb_in hg12) dX4_put_72 ?_
      obtain ⟨hc0, hj0⟩ := of_some2 hf
      subst hj0
      exact grWi hx hb hr hlocks hP hK hD hS dX4_put_73 (by omega) (by omega)
  · have hf := (if_neg c2).symm.trans hf
    refine lv_iconst (v := 0) hx hb dX4_put_18 (by decide) ?_
    obtain ⟨hc0, hj0⟩ := of_some2 hf
    subst hj0
    exact grWi hx hb hr hlocks hP hK hD hS dX4_put_19 (by omega) (by omega)
