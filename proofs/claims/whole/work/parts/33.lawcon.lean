set_option maxHeartbeats 4000000 in
set_option maxRecDepth 100000 in
theorem c_la_number (l : Launch) (hl0 : l.stackTraces = false) (G : va_G) (cL cZ : ClassId) (Q : Nat → Nat) (b : Nat) (A : Nat → Nat) (z : Lo) (sz : Nat) (p1 : Int32) (p2 : Int64) (O0 : Lo × Int32) (hf : la_number z p1 p2 = some O0) : Met l yL_number vL_number { frames := 10, cells := 1, slots := 6, locals := 243 } (gPn txC G vwCl (ct cL cZ) [.ref (Q 0), .int p1, .long p2] (lwd cL cZ Q b A z) sz) (qWi G vwCl (ct cL cZ) (lwd cL cZ Q b A z) sz (lwd cL cZ Q b) O0) 1 6 (va_A (lwd cL cZ Q b A z) sz) := by
  refine gMetW (by decide) rfl (Nat.le_of_ble_eq_true rfl) ?_
  intro p e s m below meth c ls C hE hK hP hD hT hN hsz hl
  subst hsz
  obtain ⟨hx, hb, hr, hml, hown, hts, hlocks⟩ := id C
  have FX : CallFix p m c cL_number 5 s _ vL_number RL := ⟨hx, hb, hml, hown, hts⟩
  have hA : ∀ q9 : Nat, s.heap.size ≤ q9 → va_A (lwd cL cZ Q b A z) s.heap.size q9 := fun q9 h => Or.inr h
  have hS : va_S (va_A (lwd cL cZ Q b A z) s.heap.size) s.heap s.heap [] := va_S.rf
  have hl : lv_has ls 5 [(0, .ref (Q 0)), (1, .int p1), (2, .long p2)] := hl
  unfold la_number at hf
  refine lv_aload_n hx hb dL_number_0 rfl (lv_at hl 0 rfl) ?_
  refine lv_iload_n hx hb dL_number_1 rfl (lv_at hl 1 rfl) ?_
  refine lv_lload_n hx hb dL_number_2 rfl (lv_at hl 2 rfl) ?_
  have hP : va_P G vwCl (cw cL cZ Q A (Lo.h z) ++ [(b, .inl (cL, 1, .inr (.inl (Lo.aot z))))]) _ := hP
  have hD : va_D _ (cw cL cZ Q A (Lo.h z) ++ [(b, .inl (cL, 1, .inr (.inl (Lo.aot z))))]) := hD
  obtain ⟨O1, ho1, hf⟩ := of_hbwt hf
  refine gfXv (gVx FX [.int p1, .long p2] (c_wh_number l hl0 G cL cZ Q A (Lo.h z) _ p1 p2 _ ho1) (cwV 2 hts (gi_V wn_0 wn_1 wn_2 wn_3 wn_4) rfl rfl rfl hdV_X3_number ⟨Nat.le_of_ble_eq_true rfl, Nat.le_of_ble_eq_true rfl⟩) hK (gPl hP) (gDl hD) hT hS hA 0 rfl rfl rfl hl.1 (Nat.le_of_ble_eq_true rfl) dL_number_3 ⟨by show _ ≤ 1; omega, by show _ ≤ 6; omega⟩) hP hS hD hA (fun E9 A z1 ce q9 H locs hO9 hP hD hS hce hcv hcl => ?_) (fun o9 A z1 H locs hO9 hP hD hS => ?_)
  · rcases hf with ⟨s9, e9, he9, hf⟩ | ⟨s9, r9, he9, hf⟩
    · have hq9 := hO9.symm.trans he9
      obtain ⟨hq8, hq7⟩ := Prod.mk.inj hq9
      subst hq8
      have hq6 := Sum.inl.inj hq7
      subst hq6
      have hP : va_P G vwCl (lwd cL cZ Q b A (Lo.sh z z1)) H := hP
      have hD : va_D _ (lwd cL cZ Q b A (Lo.sh z z1)) := hD
      rcases Decidable.em (E9 = "java/lang/IllegalArgumentException") with hc9 | hc9
      · subst hc9
        have hf := (if_pos rfl).symm.trans hf
        refine gcatch (h1 := []) (h2 := []) (st := 0) (en := 6) (hd := 9) (ct := 13) (name := "java/lang/IllegalArgumentException") hown hE (fun _ h => absurd h List.not_mem_nil) (by decide) (by decide) (hts _ (.tail _ wn_5)) (va_Nw.use rfl (hT.2.2.2.1 _ (by decide +kernel))) hce hcv hcl ?_
        refine lv_astore (lv' := [(4, .ref q9), (0, .ref (Q 0)), (1, .int p1), (2, .long p2)]) hx hb dL_number_9 hl (by decide) rfl (fun ls hl => ?_)
        refine lv_iconst (v := 1) hx hb dL_number_11 (by decide) ?_
        obtain rfl := Option.some.inj hf
        exact grWi hx hb hr hlocks hP hK hD hS dL_number_12 (by omega) (by omega)
      have hf := (if_neg hc9).symm.trans hf
      cases hf
    · exact nomatch (Prod.mk.inj (hO9.symm.trans he9)).2
  · rcases hf with ⟨s9, e9, he9, hf⟩ | ⟨s9, r9, he9, hf⟩
    · exact nomatch (Prod.mk.inj (hO9.symm.trans he9)).2
    · have hq9 := hO9.symm.trans he9
      obtain ⟨hq8, hq7⟩ := Prod.mk.inj hq9
      subst hq8
      have hq6 := Sum.inr.inj hq7
      subst hq6
      have hP : va_P G vwCl (lwd cL cZ Q b A (Lo.sh z z1)) H := hP
      have hD : va_D _ (lwd cL cZ Q b A (Lo.sh z z1)) := hD
      refine lv_goto (tgt := 13) hx hb dL_number_6 (by decide) ?_
      refine lv_iconst (v := 0) hx hb dL_number_13 (by decide) ?_
      obtain rfl := Option.some.inj hf
      exact grWi hx hb hr hlocks hP hK hD hS dL_number_14 (by omega) (by omega)
set_option maxHeartbeats 4000000 in
set_option maxRecDepth 100000 in
theorem c_la_nil (l : Launch) (hl0 : l.stackTraces = false) (G : va_G) (cL cZ : ClassId) (Q : Nat → Nat) (b : Nat) (A : Nat → Nat) (z : Lo) (sz : Nat) (p1 : Int32) (O0 : Lo × Int32) (hf : la_nil z p1 = some O0) : Met l yL_nil vL_nil { frames := 10, cells := 1, slots := 6, locals := 241 } (gPn txC G vwCl (ct cL cZ) [.ref (Q 0), .int p1] (lwd cL cZ Q b A z) sz) (qWi G vwCl (ct cL cZ) (lwd cL cZ Q b A z) sz (lwd cL cZ Q b) O0) 1 6 (va_A (lwd cL cZ Q b A z) sz) := by
  refine gMetW (by decide) rfl (Nat.le_of_ble_eq_true rfl) ?_
  intro p e s m below meth c ls C hE hK hP hD hT hN hsz hl
  subst hsz
  obtain ⟨hx, hb, hr, hml, hown, hts, hlocks⟩ := id C
  have FX : CallFix p m c cL_nil 3 s _ vL_nil RL := ⟨hx, hb, hml, hown, hts⟩
  have hA : ∀ q9 : Nat, s.heap.size ≤ q9 → va_A (lwd cL cZ Q b A z) s.heap.size q9 := fun q9 h => Or.inr h
  have hS : va_S (va_A (lwd cL cZ Q b A z) s.heap.size) s.heap s.heap [] := va_S.rf
  have hl : lv_has ls 3 [(0, .ref (Q 0)), (1, .int p1)] := hl
  unfold la_nil at hf
  refine lv_aload_n hx hb dL_nil_0 rfl (lv_at hl 0 rfl) ?_
  refine lv_iload_n hx hb dL_nil_1 rfl (lv_at hl 1 rfl) ?_
  have hP : va_P G vwCl (cw cL cZ Q A (Lo.h z) ++ [(b, .inl (cL, 1, .inr (.inl (Lo.aot z))))]) _ := hP
  have hD : va_D _ (cw cL cZ Q A (Lo.h z) ++ [(b, .inl (cL, 1, .inr (.inl (Lo.aot z))))]) := hD
  obtain ⟨O1, ho1, hf⟩ := of_hbwt hf
  refine gfXv (gVx FX [.int p1] (c_wh_nil l hl0 G cL cZ Q A (Lo.h z) _ p1 _ ho1) (cwV 1 hts (gi_V wn_6 wn_7 wn_8 wn_3 wn_9) rfl rfl rfl hdV_X3_nil ⟨Nat.le_of_ble_eq_true rfl, Nat.le_of_ble_eq_true rfl⟩) hK (gPl hP) (gDl hD) hT hS hA 0 rfl rfl rfl hl.1 (Nat.le_of_ble_eq_true rfl) dL_nil_2 ⟨by show _ ≤ 1; omega, by show _ ≤ 6; omega⟩) hP hS hD hA (fun E9 A z1 ce q9 H locs hO9 hP hD hS hce hcv hcl => ?_) (fun o9 A z1 H locs hO9 hP hD hS => ?_)
  · rcases hf with ⟨s9, e9, he9, hf⟩ | ⟨s9, r9, he9, hf⟩
    · have hq9 := hO9.symm.trans he9
      obtain ⟨hq8, hq7⟩ := Prod.mk.inj hq9
      subst hq8
      have hq6 := Sum.inl.inj hq7
      subst hq6
      have hP : va_P G vwCl (lwd cL cZ Q b A (Lo.sh z z1)) H := hP
      have hD : va_D _ (lwd cL cZ Q b A (Lo.sh z z1)) := hD
      rcases Decidable.em (E9 = "java/lang/IllegalArgumentException") with hc9 | hc9
      · subst hc9
        have hf := (if_pos rfl).symm.trans hf
        refine gcatch (h1 := []) (h2 := []) (st := 0) (en := 5) (hd := 8) (ct := 13) (name := "java/lang/IllegalArgumentException") hown hE (fun _ h => absurd h List.not_mem_nil) (by decide) (by decide) (hts _ (.tail _ wn_5)) (va_Nw.use rfl (hT.2.2.2.1 _ (by decide +kernel))) hce hcv hcl ?_
        refine lv_astore_n (lv' := [(2, .ref q9), (0, .ref (Q 0)), (1, .int p1)]) hx hb dL_nil_8 rfl hl (by decide) rfl (fun ls hl => ?_)
        refine lv_iconst (v := 1) hx hb dL_nil_9 (by decide) ?_
        obtain rfl := Option.some.inj hf
        exact grWi hx hb hr hlocks hP hK hD hS dL_nil_10 (by omega) (by omega)
      have hf := (if_neg hc9).symm.trans hf
      cases hf
    · exact nomatch (Prod.mk.inj (hO9.symm.trans he9)).2
  · rcases hf with ⟨s9, e9, he9, hf⟩ | ⟨s9, r9, he9, hf⟩
    · exact nomatch (Prod.mk.inj (hO9.symm.trans he9)).2
    · have hq9 := hO9.symm.trans he9
      obtain ⟨hq8, hq7⟩ := Prod.mk.inj hq9
      subst hq8
      have hq6 := Sum.inr.inj hq7
      subst hq6
      have hP : va_P G vwCl (lwd cL cZ Q b A (Lo.sh z z1)) H := hP
      have hD : va_D _ (lwd cL cZ Q b A (Lo.sh z z1)) := hD
      refine lv_goto (tgt := 11) hx hb dL_nil_5 (by decide) ?_
      refine lv_iconst (v := 0) hx hb dL_nil_11 (by decide) ?_
      obtain rfl := Option.some.inj hf
      exact grWi hx hb hr hlocks hP hK hD hS dL_nil_12 (by omega) (by omega)
set_option maxHeartbeats 4000000 in
set_option maxRecDepth 100000 in
theorem c_la_move (l : Launch) (hl0 : l.stackTraces = false) (G : va_G) (cL cZ : ClassId) (Q : Nat → Nat) (b : Nat) (A : Nat → Nat) (z : Lo) (sz : Nat) (p1 : Int32) (p2 : Int32) (O0 : Lo × Int32) (hf : la_move z p1 p2 = some O0) : Met l yL_move vL_move { frames := 10, cells := 2, slots := 12, locals := 242 } (gPn txC G vwCl (ct cL cZ) [.ref (Q 0), .int p1, .int p2] (lwd cL cZ Q b A z) sz) (qWi G vwCl (ct cL cZ) (lwd cL cZ Q b A z) sz (lwd cL cZ Q b) O0) 2 12 (va_A (lwd cL cZ Q b A z) sz) := by
  refine gMetW (by decide) rfl (Nat.le_of_ble_eq_true rfl) ?_
  intro p e s m below meth c ls C hE hK hP hD hT hN hsz hl
  subst hsz
  obtain ⟨hx, hb, hr, hml, hown, hts, hlocks⟩ := id C
  have FX : CallFix p m c cL_move 4 s _ vL_move RL := ⟨hx, hb, hml, hown, hts⟩
  have hA : ∀ q9 : Nat, s.heap.size ≤ q9 → va_A (lwd cL cZ Q b A z) s.heap.size q9 := fun q9 h => Or.inr h
  have hS : va_S (va_A (lwd cL cZ Q b A z) s.heap.size) s.heap s.heap [] := va_S.rf
  have hl : lv_has ls 4 [(0, .ref (Q 0)), (1, .int p1), (2, .int p2)] := hl
  unfold la_move at hf
  refine lv_aload_n hx hb dL_move_0 rfl (lv_at hl 0 rfl) ?_
  refine lv_iload_n hx hb dL_move_1 rfl (lv_at hl 1 rfl) ?_
  refine lv_iload_n hx hb dL_move_2 rfl (lv_at hl 2 rfl) ?_
  have hP : va_P G vwCl (cw cL cZ Q A (Lo.h z) ++ [(b, .inl (cL, 1, .inr (.inl (Lo.aot z))))]) _ := hP
  have hD : va_D _ (cw cL cZ Q A (Lo.h z) ++ [(b, .inl (cL, 1, .inr (.inl (Lo.aot z))))]) := hD
  obtain ⟨O1, ho1, hf⟩ := of_hbwt hf
  refine gfXv (gVx FX [.int p1, .int p2] (c_wh_move l hl0 G cL cZ Q A (Lo.h z) _ p1 p2 _ ho1) (cwV 2 hts (gi_V wn_10 wn_11 wn_12 wn_3 wn_13) rfl rfl rfl hdV_X3_move ⟨Nat.le_of_ble_eq_true rfl, Nat.le_of_ble_eq_true rfl⟩) hK (gPl hP) (gDl hD) hT hS hA 0 rfl rfl rfl hl.1 (Nat.le_of_ble_eq_true rfl) dL_move_3 ⟨by show _ ≤ 2; omega, by show _ ≤ 12; omega⟩) hP hS hD hA (fun E9 A z1 ce q9 H locs hO9 hP hD hS hce hcv hcl => ?_) (fun o9 A z1 H locs hO9 hP hD hS => ?_)
  · rcases hf with ⟨s9, e9, he9, hf⟩ | ⟨s9, r9, he9, hf⟩
    · have hq9 := hO9.symm.trans he9
      obtain ⟨hq8, hq7⟩ := Prod.mk.inj hq9
      subst hq8
      have hq6 := Sum.inl.inj hq7
      subst hq6
      have hP : va_P G vwCl (lwd cL cZ Q b A (Lo.sh z z1)) H := hP
      have hD : va_D _ (lwd cL cZ Q b A (Lo.sh z z1)) := hD
      rcases Decidable.em (E9 = "java/lang/IllegalArgumentException") with hc9 | hc9
      · subst hc9
        have hf := (if_pos rfl).symm.trans hf
        refine gcatch (h1 := []) (h2 := []) (st := 0) (en := 6) (hd := 9) (ct := 13) (name := "java/lang/IllegalArgumentException") hown hE (fun _ h => absurd h List.not_mem_nil) (by decide) (by decide) (hts _ (.tail _ wn_5)) (va_Nw.use rfl (hT.2.2.2.1 _ (by decide +kernel))) hce hcv hcl ?_
        refine lv_astore_n (lv' := [(3, .ref q9), (0, .ref (Q 0)), (1, .int p1), (2, .int p2)]) hx hb dL_move_9 rfl hl (by decide) rfl (fun ls hl => ?_)
        refine lv_iconst (v := 1) hx hb dL_move_10 (by decide) ?_
        obtain rfl := Option.some.inj hf
        exact grWi hx hb hr hlocks hP hK hD hS dL_move_11 (by omega) (by omega)
      have hf := (if_neg hc9).symm.trans hf
      cases hf
    · exact nomatch (Prod.mk.inj (hO9.symm.trans he9)).2
  · rcases hf with ⟨s9, e9, he9, hf⟩ | ⟨s9, r9, he9, hf⟩
    · exact nomatch (Prod.mk.inj (hO9.symm.trans he9)).2
    · have hq9 := hO9.symm.trans he9
      obtain ⟨hq8, hq7⟩ := Prod.mk.inj hq9
      subst hq8
      have hq6 := Sum.inr.inj hq7
      subst hq6
      have hP : va_P G vwCl (lwd cL cZ Q b A (Lo.sh z z1)) H := hP
      have hD : va_D _ (lwd cL cZ Q b A (Lo.sh z z1)) := hD
      refine lv_goto (tgt := 12) hx hb dL_move_6 (by decide) ?_
      refine lv_iconst (v := 0) hx hb dL_move_12 (by decide) ?_
      obtain rfl := Option.some.inj hf
      exact grWi hx hb hr hlocks hP hK hD hS dL_move_13 (by omega) (by omega)
set_option maxHeartbeats 4000000 in
set_option maxRecDepth 100000 in
theorem c_la_make (l : Launch) (hl0 : l.stackTraces = false) (G : va_G) (cL cZ : ClassId) (Q : Nat → Nat) (b : Nat) (A : Nat → Nat) (z : Lo) (sz : Nat) (p1 : Int32) (p2 : Int32) (c0 : Nat) (O0 : Lo × Int32) (hf : la_make z p1 p2 = some (c0, O0)) : Met l yL_make vL_make { frames := 11, cells := 8, slots := 18 + c0, locals := 265 } (gPn txC G vwCl (ct cL cZ) [.ref (Q 0), .int p1, .int p2, .ref b] (lwd cL cZ Q b A z) sz) (qWi G vwCl (ct cL cZ) (lwd cL cZ Q b A z) sz (lwd cL cZ Q b) O0) 8 (18 + c0) (va_A (lwd cL cZ Q b A z) sz) := by
  refine gMetW (by decide) rfl (Nat.le_of_ble_eq_true rfl) ?_
  intro p e s m below meth c ls C hE hK hP hD hT hN hsz hl
  subst hsz
  obtain ⟨hx, hb, hr, hml, hown, hts, hlocks⟩ := id C
  have FX : CallFix p m c cL_make 5 s _ vL_make RL := ⟨hx, hb, hml, hown, hts⟩
  have hA : ∀ q9 : Nat, s.heap.size ≤ q9 → va_A (lwd cL cZ Q b A z) s.heap.size q9 := fun q9 h => Or.inr h
  have hS : va_S (va_A (lwd cL cZ Q b A z) s.heap.size) s.heap s.heap [] := va_S.rf
  have hl : lv_has ls 5 [(0, .ref (Q 0)), (1, .int p1), (2, .int p2), (3, .ref b)] := hl
  unfold la_make at hf
  refine lv_aload_n hx hb dL_make_0 rfl (lv_at hl 3 rfl) ?_
  refine lv_iconst (v := 0) hx hb dL_make_1 (by decide) ?_
  refine lv_aload_n hx hb dL_make_2 rfl (lv_at hl 0 rfl) ?_
  refine lv_iload_n hx hb dL_make_3 rfl (lv_at hl 1 rfl) ?_
  refine lv_iload_n hx hb dL_make_4 rfl (lv_at hl 2 rfl) ?_
  have hP : va_P G vwCl (cw cL cZ Q A (Lo.h z) ++ [(b, .inl (cL, 1, .inr (.inl (Lo.aot z))))]) _ := hP
  have hD : va_D _ (cw cL cZ Q A (Lo.h z) ++ [(b, .inl (cL, 1, .inr (.inl (Lo.aot z))))]) := hD
  obtain ⟨k1, O1, d1, ho1, ek1, hf⟩ := of_hbcwt hf
  refine gfXi (gVx FX [.int p1, .int p2] (c_wh_make l hl0 G cL cZ Q A (Lo.h z) _ p1 p2 k1 _ ho1) (cwV 2 hts (gi_V wn_14 wn_15 wn_16 wn_3 wn_17) rfl rfl rfl hdV_X3_make ⟨Nat.le_of_ble_eq_true rfl, Nat.le_of_ble_eq_true rfl⟩) hK (gPl hP) (gDl hD) hT hS hA 0 rfl rfl rfl hl.1 (Nat.le_of_ble_eq_true rfl) dL_make_5 ⟨by show _ ≤ 8; omega, by show _ ≤ 18 + c0; omega⟩) hP hS hD hA (fun E9 A z1 ce q9 H locs hO9 hP hD hS hce hcv hcl => ?_) (fun r1 A z1 H locs hO9 hP hD hS => ?_)
  · rcases hf with ⟨s9, e9, he9, hf⟩ | ⟨s9, r9, he9, hf⟩
    · have hq9 := hO9.symm.trans he9
      obtain ⟨hq8, hq7⟩ := Prod.mk.inj hq9
      subst hq8
      have hq6 := Sum.inl.inj hq7
      subst hq6
      have hP : va_P G vwCl (lwd cL cZ Q b A (Lo.sh z z1)) H := hP
      have hD : va_D _ (lwd cL cZ Q b A (Lo.sh z z1)) := hD
      rcases Decidable.em (E9 = "java/lang/IllegalArgumentException") with hc9 | hc9
      · subst hc9
        have hf := (if_pos rfl).symm.trans hf
        refine gcatch (h1 := []) (h2 := [(0, 10, 17, 27)]) (st := 0) (en := 10) (hd := 13) (ct := 13) (name := "java/lang/IllegalArgumentException") hown hE (fun _ h => absurd h List.not_mem_nil) (by decide) (by decide) (hts _ (.tail _ wn_5)) (va_Nw.use rfl (hT.2.2.2.1 _ (by decide +kernel))) hce hcv hcl ?_
        refine lv_astore (lv' := [(4, .ref q9), (0, .ref (Q 0)), (1, .int p1), (2, .int p2), (3, .ref b)]) hx hb dL_make_13 hl (by decide) rfl (fun ls hl => ?_)
        refine lv_iconst (v := 1) hx hb dL_make_15 (by decide) ?_
        obtain ⟨hc0, hj0⟩ := of_some2 hf
        subst hj0
        exact grWi hx hb hr hlocks hP hK hD hS dL_make_16 (by omega) (by omega)
      have hf := (if_neg hc9).symm.trans hf
      rcases Decidable.em (E9 = "java/lang/IllegalStateException") with hc9 | hc9
      · subst hc9
        have hf := (if_pos rfl).symm.trans hf
        refine gcatch (h1 := [(0, 10, 13, 13)]) (h2 := []) (st := 0) (en := 10) (hd := 17) (ct := 27) (name := "java/lang/IllegalStateException") hown hE (List.forall_mem_cons.mpr ⟨⟨by decide, "java/lang/IllegalArgumentException", (hts _ (.tail _ wn_5)), hN ("java/lang/IllegalStateException", "java/lang/IllegalArgumentException") (by decide +kernel)⟩, (fun _ h => absurd h List.not_mem_nil)⟩) (by decide) (by decide) (hts _ (.tail _ wn_18)) (va_Nw.use rfl (hT.2.2.2.1 _ (by decide +kernel))) hce hcv hcl ?_
        refine lv_astore (lv' := [(4, .ref q9), (0, .ref (Q 0)), (1, .int p1), (2, .int p2), (3, .ref b)]) hx hb dL_make_17 hl (by decide) rfl (fun ls hl => ?_)
        refine lv_iconst (v := 2) hx hb dL_make_19 (by decide) ?_
        obtain ⟨hc0, hj0⟩ := of_some2 hf
        subst hj0
        exact grWi hx hb hr hlocks hP hK hD hS dL_make_20 (by omega) (by omega)
      have hf := (if_neg hc9).symm.trans hf
      cases hf
    · exact nomatch (Prod.mk.inj (hO9.symm.trans he9)).2
  · rcases hf with ⟨s9, e9, he9, hf⟩ | ⟨s9, r9, he9, hf⟩
    · exact nomatch (Prod.mk.inj (hO9.symm.trans he9)).2
    · have hq9 := hO9.symm.trans he9
      obtain ⟨hq8, hq7⟩ := Prod.mk.inj hq9
      subst hq8
      have hq6 := Sum.inr.inj hq7
      subst hq6
      have hP : va_P G vwCl (lwd cL cZ Q b A (Lo.sh z z1)) H := hP
      have hD : va_D _ (lwd cL cZ Q b A (Lo.sh z z1)) := hD
      refine lv_i2l hx hb dL_make_8 rfl ?_
      obtain ⟨hg2, hf⟩ := of_gd hf
      refine va_last (f := (Lo.aot z)) (n := 1) hx hb hK hP hD hS 9 0 rfl rfl (inb_in hg2) dL_make_9 (fun H locs hP hD hS => ?_)
      have hP : va_P G vwCl (lwd cL cZ Q b A (Lo.wot (Lo.sh z z1) (vp_updL (Lo.aot z) ((0 : Int32).toNatClampNeg) (r1.toInt64)))) H := hP
      have hD : va_D _ (lwd cL cZ Q b A (Lo.wot (Lo.sh z z1) (vp_updL (Lo.aot z) ((0 : Int32).toNatClampNeg) (r1.toInt64)))) := hD
      refine lv_goto (tgt := 21) hx hb dL_make_10 (by decide) ?_
      refine lv_iconst (v := 0) hx hb dL_make_21 (by decide) ?_
      obtain ⟨hc0, hj0⟩ := of_some2 hf
      subst hj0
      exact grWi hx hb hr hlocks hP hK hD hS dL_make_22 (by omega) (by omega)
set_option maxHeartbeats 4000000 in
set_option maxRecDepth 100000 in
theorem c_la_text (l : Launch) (hl0 : l.stackTraces = false) (G : va_G) (cL cZ : ClassId) (Q : Nat → Nat) (b : Nat) (A : Nat → Nat) (z : Lo) (sz : Nat) (p1 : Int32) (p2 : Int32) (c0 : Nat) (O0 : Lo × Int32) (hf : la_text z p1 p2 = some (c0, O0)) : Met l yL_text vL_text { frames := 11, cells := 8, slots := 18 + c0, locals := 265 } (gPn txC G vwCl (ct cL cZ) [.ref (Q 0), .int p1, .int p2, .ref b] (lwd cL cZ Q b A z) sz) (qWi G vwCl (ct cL cZ) (lwd cL cZ Q b A z) sz (lwd cL cZ Q b) O0) 8 (18 + c0) (va_A (lwd cL cZ Q b A z) sz) := by
  refine gMetW (by decide) rfl (Nat.le_of_ble_eq_true rfl) ?_
  intro p e s m below meth c ls C hE hK hP hD hT hN hsz hl
  subst hsz
  obtain ⟨hx, hb, hr, hml, hown, hts, hlocks⟩ := id C
  have FX : CallFix p m c cL_text 5 s _ vL_text RL := ⟨hx, hb, hml, hown, hts⟩
  have hA : ∀ q9 : Nat, s.heap.size ≤ q9 → va_A (lwd cL cZ Q b A z) s.heap.size q9 := fun q9 h => Or.inr h
  have hS : va_S (va_A (lwd cL cZ Q b A z) s.heap.size) s.heap s.heap [] := va_S.rf
  have hl : lv_has ls 5 [(0, .ref (Q 0)), (1, .int p1), (2, .int p2), (3, .ref b)] := hl
  unfold la_text at hf
  refine lv_aload_n hx hb dL_text_0 rfl (lv_at hl 3 rfl) ?_
  refine lv_iconst (v := 0) hx hb dL_text_1 (by decide) ?_
  refine lv_aload_n hx hb dL_text_2 rfl (lv_at hl 0 rfl) ?_
  refine lv_iload_n hx hb dL_text_3 rfl (lv_at hl 1 rfl) ?_
  refine lv_iload_n hx hb dL_text_4 rfl (lv_at hl 2 rfl) ?_
  have hP : va_P G vwCl (cw cL cZ Q A (Lo.h z) ++ [(b, .inl (cL, 1, .inr (.inl (Lo.aot z))))]) _ := hP
  have hD : va_D _ (cw cL cZ Q A (Lo.h z) ++ [(b, .inl (cL, 1, .inr (.inl (Lo.aot z))))]) := hD
  obtain ⟨k1, O1, d1, ho1, ek1, hf⟩ := of_hbcwt hf
  refine gfXi (gVx FX [.int p1, .int p2] (c_wh_text l hl0 G cL cZ Q A (Lo.h z) _ p1 p2 k1 _ ho1) (cwV 2 hts (gi_V wn_19 wn_20 wn_21 wn_3 wn_22) rfl rfl rfl hdV_X3_text ⟨Nat.le_of_ble_eq_true rfl, Nat.le_of_ble_eq_true rfl⟩) hK (gPl hP) (gDl hD) hT hS hA 0 rfl rfl rfl hl.1 (Nat.le_of_ble_eq_true rfl) dL_text_5 ⟨by show _ ≤ 8; omega, by show _ ≤ 18 + c0; omega⟩) hP hS hD hA (fun E9 A z1 ce q9 H locs hO9 hP hD hS hce hcv hcl => ?_) (fun r1 A z1 H locs hO9 hP hD hS => ?_)
  · rcases hf with ⟨s9, e9, he9, hf⟩ | ⟨s9, r9, he9, hf⟩
    · have hq9 := hO9.symm.trans he9
      obtain ⟨hq8, hq7⟩ := Prod.mk.inj hq9
      subst hq8
      have hq6 := Sum.inl.inj hq7
      subst hq6
      have hP : va_P G vwCl (lwd cL cZ Q b A (Lo.sh z z1)) H := hP
      have hD : va_D _ (lwd cL cZ Q b A (Lo.sh z z1)) := hD
      rcases Decidable.em (E9 = "java/lang/IllegalArgumentException") with hc9 | hc9
      · subst hc9
        have hf := (if_pos rfl).symm.trans hf
        refine gcatch (h1 := []) (h2 := [(0, 10, 17, 27)]) (st := 0) (en := 10) (hd := 13) (ct := 13) (name := "java/lang/IllegalArgumentException") hown hE (fun _ h => absurd h List.not_mem_nil) (by decide) (by decide) (hts _ (.tail _ wn_5)) (va_Nw.use rfl (hT.2.2.2.1 _ (by decide +kernel))) hce hcv hcl ?_
        refine lv_astore (lv' := [(4, .ref q9), (0, .ref (Q 0)), (1, .int p1), (2, .int p2), (3, .ref b)]) hx hb dL_text_13 hl (by decide) rfl (fun ls hl => ?_)
        refine lv_iconst (v := 1) hx hb dL_text_15 (by decide) ?_
        obtain ⟨hc0, hj0⟩ := of_some2 hf
        subst hj0
        exact grWi hx hb hr hlocks hP hK hD hS dL_text_16 (by omega) (by omega)
      have hf := (if_neg hc9).symm.trans hf
      rcases Decidable.em (E9 = "java/lang/IllegalStateException") with hc9 | hc9
      · subst hc9
        have hf := (if_pos rfl).symm.trans hf
        refine gcatch (h1 := [(0, 10, 13, 13)]) (h2 := []) (st := 0) (en := 10) (hd := 17) (ct := 27) (name := "java/lang/IllegalStateException") hown hE (List.forall_mem_cons.mpr ⟨⟨by decide, "java/lang/IllegalArgumentException", (hts _ (.tail _ wn_5)), hN ("java/lang/IllegalStateException", "java/lang/IllegalArgumentException") (by decide +kernel)⟩, (fun _ h => absurd h List.not_mem_nil)⟩) (by decide) (by decide) (hts _ (.tail _ wn_18)) (va_Nw.use rfl (hT.2.2.2.1 _ (by decide +kernel))) hce hcv hcl ?_
        refine lv_astore (lv' := [(4, .ref q9), (0, .ref (Q 0)), (1, .int p1), (2, .int p2), (3, .ref b)]) hx hb dL_text_17 hl (by decide) rfl (fun ls hl => ?_)
        refine lv_iconst (v := 2) hx hb dL_text_19 (by decide) ?_
        obtain ⟨hc0, hj0⟩ := of_some2 hf
        subst hj0
        exact grWi hx hb hr hlocks hP hK hD hS dL_text_20 (by omega) (by omega)
      have hf := (if_neg hc9).symm.trans hf
      cases hf
    · exact nomatch (Prod.mk.inj (hO9.symm.trans he9)).2
  · rcases hf with ⟨s9, e9, he9, hf⟩ | ⟨s9, r9, he9, hf⟩
    · exact nomatch (Prod.mk.inj (hO9.symm.trans he9)).2
    · have hq9 := hO9.symm.trans he9
      obtain ⟨hq8, hq7⟩ := Prod.mk.inj hq9
      subst hq8
      have hq6 := Sum.inr.inj hq7
      subst hq6
      have hP : va_P G vwCl (lwd cL cZ Q b A (Lo.sh z z1)) H := hP
      have hD : va_D _ (lwd cL cZ Q b A (Lo.sh z z1)) := hD
      refine lv_i2l hx hb dL_text_8 rfl ?_
      obtain ⟨hg2, hf⟩ := of_gd hf
      refine va_last (f := (Lo.aot z)) (n := 1) hx hb hK hP hD hS 9 0 rfl rfl (inb_in hg2) dL_text_9 (fun H locs hP hD hS => ?_)
      have hP : va_P G vwCl (lwd cL cZ Q b A (Lo.wot (Lo.sh z z1) (vp_updL (Lo.aot z) ((0 : Int32).toNatClampNeg) (r1.toInt64)))) H := hP
      have hD : va_D _ (lwd cL cZ Q b A (Lo.wot (Lo.sh z z1) (vp_updL (Lo.aot z) ((0 : Int32).toNatClampNeg) (r1.toInt64)))) := hD
      refine lv_goto (tgt := 21) hx hb dL_text_10 (by decide) ?_
      refine lv_iconst (v := 0) hx hb dL_text_21 (by decide) ?_
      obtain ⟨hc0, hj0⟩ := of_some2 hf
      subst hj0
      exact grWi hx hb hr hlocks hP hK hD hS dL_text_22 (by omega) (by omega)
set_option maxHeartbeats 4000000 in
set_option maxRecDepth 100000 in
theorem c_la_map (l : Launch) (hl0 : l.stackTraces = false) (G : va_G) (cL cZ : ClassId) (Q : Nat → Nat) (b : Nat) (A : Nat → Nat) (z : Lo) (sz : Nat) (p1 : Int32) (p2 : Int32) (p3 : Int32) (p4 : Int32) (c0 : Nat) (O0 : Lo × Int32) (hf : la_map z p1 p2 p3 p4 = some (c0, O0)) : Met l yL_map vL_map { frames := 11, cells := 15, slots := 30 + c0, locals := 270 } (gPn txC G vwCl (ct cL cZ) [.ref (Q 0), .int p1, .int p2, .int p3, .int p4, .ref b] (lwd cL cZ Q b A z) sz) (qWi G vwCl (ct cL cZ) (lwd cL cZ Q b A z) sz (lwd cL cZ Q b) O0) 15 (30 + c0) (va_A (lwd cL cZ Q b A z) sz) := by
  refine gMetW (by decide) rfl (Nat.le_of_ble_eq_true rfl) ?_
  intro p e s m below meth c ls C hE hK hP hD hT hN hsz hl
  subst hsz
  obtain ⟨hx, hb, hr, hml, hown, hts, hlocks⟩ := id C
  have FX : CallFix p m c cL_map 7 s _ vL_map RL := ⟨hx, hb, hml, hown, hts⟩
  have hA : ∀ q9 : Nat, s.heap.size ≤ q9 → va_A (lwd cL cZ Q b A z) s.heap.size q9 := fun q9 h => Or.inr h
  have hS : va_S (va_A (lwd cL cZ Q b A z) s.heap.size) s.heap s.heap [] := va_S.rf
  have hl : lv_has ls 7 [(0, .ref (Q 0)), (1, .int p1), (2, .int p2), (3, .int p3), (4, .int p4), (5, .ref b)] := hl
  unfold la_map at hf
  refine lv_aload hx hb dL_map_0 (lv_at hl 5 rfl) ?_
  refine lv_iconst (v := 0) hx hb dL_map_2 (by decide) ?_
  refine lv_aload_n hx hb dL_map_3 rfl (lv_at hl 0 rfl) ?_
  refine lv_iload_n hx hb dL_map_4 rfl (lv_at hl 1 rfl) ?_
  refine lv_iload_n hx hb dL_map_5 rfl (lv_at hl 2 rfl) ?_
  refine lv_iload_n hx hb dL_map_6 rfl (lv_at hl 3 rfl) ?_
  refine lv_iload hx hb dL_map_7 (lv_at hl 4 rfl) ?_
  have hP : va_P G vwCl (cw cL cZ Q A (Lo.h z) ++ [(b, .inl (cL, 1, .inr (.inl (Lo.aot z))))]) _ := hP
  have hD : va_D _ (cw cL cZ Q A (Lo.h z) ++ [(b, .inl (cL, 1, .inr (.inl (Lo.aot z))))]) := hD
  obtain ⟨k1, O1, d1, ho1, ek1, hf⟩ := of_hbcwt hf
  refine gfXi (gVx FX [.int p1, .int p2, .int p3, .int p4] (c_wh_map l hl0 G cL cZ Q A (Lo.h z) _ p1 p2 p3 p4 k1 _ ho1) (cwV 4 hts (gi_V wn_23 wn_24 wn_25 wn_3 wn_26) rfl rfl rfl hdV_X3_map ⟨Nat.le_of_ble_eq_true rfl, Nat.le_of_ble_eq_true rfl⟩) hK (gPl hP) (gDl hD) hT hS hA 0 rfl rfl rfl hl.1 (Nat.le_of_ble_eq_true rfl) dL_map_9 ⟨by show _ ≤ 15; omega, by show _ ≤ 30 + c0; omega⟩) hP hS hD hA (fun E9 A z1 ce q9 H locs hO9 hP hD hS hce hcv hcl => ?_) (fun r1 A z1 H locs hO9 hP hD hS => ?_)
  · rcases hf with ⟨s9, e9, he9, hf⟩ | ⟨s9, r9, he9, hf⟩
    · have hq9 := hO9.symm.trans he9
      obtain ⟨hq8, hq7⟩ := Prod.mk.inj hq9
      subst hq8
      have hq6 := Sum.inl.inj hq7
      subst hq6
      have hP : va_P G vwCl (lwd cL cZ Q b A (Lo.sh z z1)) H := hP
      have hD : va_D _ (lwd cL cZ Q b A (Lo.sh z z1)) := hD
      rcases Decidable.em (E9 = "java/lang/IllegalArgumentException") with hc9 | hc9
      · subst hc9
        have hf := (if_pos rfl).symm.trans hf
        refine gcatch (h1 := []) (h2 := [(0, 14, 21, 27)]) (st := 0) (en := 14) (hd := 17) (ct := 13) (name := "java/lang/IllegalArgumentException") hown hE (fun _ h => absurd h List.not_mem_nil) (by decide) (by decide) (hts _ (.tail _ wn_5)) (va_Nw.use rfl (hT.2.2.2.1 _ (by decide +kernel))) hce hcv hcl ?_
        refine lv_astore (lv' := [(6, .ref q9), (0, .ref (Q 0)), (1, .int p1), (2, .int p2), (3, .int p3), (4, .int p4), (5, .ref b)]) hx hb dL_map_17 hl (by decide) rfl (fun ls hl => ?_)
        refine lv_iconst (v := 1) hx hb dL_map_19 (by decide) ?_
        obtain ⟨hc0, hj0⟩ := of_some2 hf
        subst hj0
        exact grWi hx hb hr hlocks hP hK hD hS dL_map_20 (by omega) (by omega)
      have hf := (if_neg hc9).symm.trans hf
      rcases Decidable.em (E9 = "java/lang/IllegalStateException") with hc9 | hc9
      · subst hc9
        have hf := (if_pos rfl).symm.trans hf
        refine gcatch (h1 := [(0, 14, 17, 13)]) (h2 := []) (st := 0) (en := 14) (hd := 21) (ct := 27) (name := "java/lang/IllegalStateException") hown hE (List.forall_mem_cons.mpr ⟨⟨by decide, "java/lang/IllegalArgumentException", (hts _ (.tail _ wn_5)), hN ("java/lang/IllegalStateException", "java/lang/IllegalArgumentException") (by decide +kernel)⟩, (fun _ h => absurd h List.not_mem_nil)⟩) (by decide) (by decide) (hts _ (.tail _ wn_18)) (va_Nw.use rfl (hT.2.2.2.1 _ (by decide +kernel))) hce hcv hcl ?_
        refine lv_astore (lv' := [(6, .ref q9), (0, .ref (Q 0)), (1, .int p1), (2, .int p2), (3, .int p3), (4, .int p4), (5, .ref b)]) hx hb dL_map_21 hl (by decide) rfl (fun ls hl => ?_)
        refine lv_iconst (v := 2) hx hb dL_map_23 (by decide) ?_
        obtain ⟨hc0, hj0⟩ := of_some2 hf
        subst hj0
        exact grWi hx hb hr hlocks hP hK hD hS dL_map_24 (by omega) (by omega)
      have hf := (if_neg hc9).symm.trans hf
      cases hf
    · exact nomatch (Prod.mk.inj (hO9.symm.trans he9)).2
  · rcases hf with ⟨s9, e9, he9, hf⟩ | ⟨s9, r9, he9, hf⟩
    · exact nomatch (Prod.mk.inj (hO9.symm.trans he9)).2
    · have hq9 := hO9.symm.trans he9
      obtain ⟨hq8, hq7⟩ := Prod.mk.inj hq9
      subst hq8
      have hq6 := Sum.inr.inj hq7
      subst hq6
      have hP : va_P G vwCl (lwd cL cZ Q b A (Lo.sh z z1)) H := hP
      have hD : va_D _ (lwd cL cZ Q b A (Lo.sh z z1)) := hD
      refine lv_i2l hx hb dL_map_12 rfl ?_
      obtain ⟨hg2, hf⟩ := of_gd hf
      refine va_last (f := (Lo.aot z)) (n := 1) hx hb hK hP hD hS 9 0 rfl rfl (inb_in hg2) dL_map_13 (fun H locs hP hD hS => ?_)
      have hP : va_P G vwCl (lwd cL cZ Q b A (Lo.wot (Lo.sh z z1) (vp_updL (Lo.aot z) ((0 : Int32).toNatClampNeg) (r1.toInt64)))) H := hP
      have hD : va_D _ (lwd cL cZ Q b A (Lo.wot (Lo.sh z z1) (vp_updL (Lo.aot z) ((0 : Int32).toNatClampNeg) (r1.toInt64)))) := hD
      refine lv_goto (tgt := 25) hx hb dL_map_14 (by decide) ?_
      refine lv_iconst (v := 0) hx hb dL_map_25 (by decide) ?_
      obtain ⟨hc0, hj0⟩ := of_some2 hf
      subst hj0
      exact grWi hx hb hr hlocks hP hK hD hS dL_map_26 (by omega) (by omega)
set_option maxHeartbeats 4000000 in
set_option maxRecDepth 100000 in
theorem c_la_join (l : Launch) (hl0 : l.stackTraces = false) (G : va_G) (cL cZ : ClassId) (Q : Nat → Nat) (b : Nat) (A : Nat → Nat) (z : Lo) (sz : Nat) (p1 : Int32) (p2 : Int32) (p3 : Int32) (c0 : Nat) (O0 : Lo × Int32) (hf : la_join z p1 p2 p3 = some (c0, O0)) : Met l yL_join vL_join { frames := 12, cells := 11, slots := 36 + c0, locals := 294 } (gPn txC G vwCl (ct cL cZ) [.ref (Q 0), .int p1, .int p2, .int p3, .ref b] (lwd cL cZ Q b A z) sz) (qWi G vwCl (ct cL cZ) (lwd cL cZ Q b A z) sz (lwd cL cZ Q b) O0) 11 (36 + c0) (va_A (lwd cL cZ Q b A z) sz) := by
  refine gMetW (by decide) rfl (Nat.le_of_ble_eq_true rfl) ?_
  intro p e s m below meth c ls C hE hK hP hD hT hN hsz hl
  subst hsz
  obtain ⟨hx, hb, hr, hml, hown, hts, hlocks⟩ := id C
  have FX : CallFix p m c cL_join 6 s _ vL_join RL := ⟨hx, hb, hml, hown, hts⟩
  have hA : ∀ q9 : Nat, s.heap.size ≤ q9 → va_A (lwd cL cZ Q b A z) s.heap.size q9 := fun q9 h => Or.inr h
  have hS : va_S (va_A (lwd cL cZ Q b A z) s.heap.size) s.heap s.heap [] := va_S.rf
  have hl : lv_has ls 6 [(0, .ref (Q 0)), (1, .int p1), (2, .int p2), (3, .int p3), (4, .ref b)] := hl
  unfold la_join at hf
  refine lv_aload hx hb dL_join_0 (lv_at hl 4 rfl) ?_
  refine lv_iconst (v := 0) hx hb dL_join_2 (by decide) ?_
  refine lv_aload_n hx hb dL_join_3 rfl (lv_at hl 0 rfl) ?_
  refine lv_iload_n hx hb dL_join_4 rfl (lv_at hl 1 rfl) ?_
  refine lv_iload_n hx hb dL_join_5 rfl (lv_at hl 2 rfl) ?_
  refine lv_iload_n hx hb dL_join_6 rfl (lv_at hl 3 rfl) ?_
  have hP : va_P G vwCl (cw cL cZ Q A (Lo.h z) ++ [(b, .inl (cL, 1, .inr (.inl (Lo.aot z))))]) _ := hP
  have hD : va_D _ (cw cL cZ Q A (Lo.h z) ++ [(b, .inl (cL, 1, .inr (.inl (Lo.aot z))))]) := hD
  obtain ⟨k1, O1, d1, ho1, ek1, hf⟩ := of_hbcwt hf
  refine gfXi (gVx FX [.int p1, .int p2, .int p3] (c_wh_join l hl0 G cL cZ Q A (Lo.h z) _ p1 p2 p3 k1 _ ho1) (cwV 3 hts (gi_V wn_27 wn_28 wn_29 wn_3 wn_30) rfl rfl rfl hdV_X3_join ⟨Nat.le_of_ble_eq_true rfl, Nat.le_of_ble_eq_true rfl⟩) hK (gPl hP) (gDl hD) hT hS hA 0 rfl rfl rfl hl.1 (Nat.le_of_ble_eq_true rfl) dL_join_7 ⟨by show _ ≤ 11; omega, by show _ ≤ 36 + c0; omega⟩) hP hS hD hA (fun E9 A z1 ce q9 H locs hO9 hP hD hS hce hcv hcl => ?_) (fun r1 A z1 H locs hO9 hP hD hS => ?_)
  · rcases hf with ⟨s9, e9, he9, hf⟩ | ⟨s9, r9, he9, hf⟩
    · have hq9 := hO9.symm.trans he9
      obtain ⟨hq8, hq7⟩ := Prod.mk.inj hq9
      subst hq8
      have hq6 := Sum.inl.inj hq7
      subst hq6
      have hP : va_P G vwCl (lwd cL cZ Q b A (Lo.sh z z1)) H := hP
      have hD : va_D _ (lwd cL cZ Q b A (Lo.sh z z1)) := hD
      rcases Decidable.em (E9 = "java/lang/IllegalArgumentException") with hc9 | hc9
      · subst hc9
        have hf := (if_pos rfl).symm.trans hf
        refine gcatch (h1 := []) (h2 := [(0, 12, 19, 40), (0, 12, 23, 27)]) (st := 0) (en := 12) (hd := 15) (ct := 13) (name := "java/lang/IllegalArgumentException") hown hE (fun _ h => absurd h List.not_mem_nil) (by decide) (by decide) (hts _ (.tail _ wn_5)) (va_Nw.use rfl (hT.2.2.2.1 _ (by decide +kernel))) hce hcv hcl ?_
        refine lv_astore (lv' := [(5, .ref q9), (0, .ref (Q 0)), (1, .int p1), (2, .int p2), (3, .int p3), (4, .ref b)]) hx hb dL_join_15 hl (by decide) rfl (fun ls hl => ?_)
        refine lv_iconst (v := 1) hx hb dL_join_17 (by decide) ?_
        obtain ⟨hc0, hj0⟩ := of_some2 hf
        subst hj0
        exact grWi hx hb hr hlocks hP hK hD hS dL_join_18 (by omega) (by omega)
      have hf := (if_neg hc9).symm.trans hf
      rcases Decidable.em (E9 = "java/lang/UnsupportedOperationException") with hc9 | hc9
      · subst hc9
        have hf := (if_pos rfl).symm.trans hf
        refine gcatch (h1 := [(0, 12, 15, 13)]) (h2 := [(0, 12, 23, 27)]) (st := 0) (en := 12) (hd := 19) (ct := 40) (name := "java/lang/UnsupportedOperationException") hown hE (List.forall_mem_cons.mpr ⟨⟨by decide, "java/lang/IllegalArgumentException", (hts _ (.tail _ wn_5)), hN ("java/lang/UnsupportedOperationException", "java/lang/IllegalArgumentException") (by decide +kernel)⟩, (fun _ h => absurd h List.not_mem_nil)⟩) (by decide) (by decide) (hts _ (.tail _ wn_31)) (va_Nw.use rfl (hT.2.2.2.1 _ (by decide +kernel))) hce hcv hcl ?_
        refine lv_astore (lv' := [(5, .ref q9), (0, .ref (Q 0)), (1, .int p1), (2, .int p2), (3, .int p3), (4, .ref b)]) hx hb dL_join_19 hl (by decide) rfl (fun ls hl => ?_)
        refine lv_iconst (v := 2) hx hb dL_join_21 (by decide) ?_
        obtain ⟨hc0, hj0⟩ := of_some2 hf
        subst hj0
        exact grWi hx hb hr hlocks hP hK hD hS dL_join_22 (by omega) (by omega)
      have hf := (if_neg hc9).symm.trans hf
      rcases Decidable.em (E9 = "java/lang/IllegalStateException") with hc9 | hc9
      · subst hc9
        have hf := (if_pos rfl).symm.trans hf
        refine gcatch (h1 := [(0, 12, 15, 13), (0, 12, 19, 40)]) (h2 := []) (st := 0) (en := 12) (hd := 23) (ct := 27) (name := "java/lang/IllegalStateException") hown hE (List.forall_mem_cons.mpr ⟨⟨by decide, "java/lang/IllegalArgumentException", (hts _ (.tail _ wn_5)), hN ("java/lang/IllegalStateException", "java/lang/IllegalArgumentException") (by decide +kernel)⟩, (List.forall_mem_cons.mpr ⟨⟨by decide, "java/lang/UnsupportedOperationException", (hts _ (.tail _ wn_31)), hN ("java/lang/IllegalStateException", "java/lang/UnsupportedOperationException") (by decide +kernel)⟩, (fun _ h => absurd h List.not_mem_nil)⟩)⟩) (by decide) (by decide) (hts _ (.tail _ wn_18)) (va_Nw.use rfl (hT.2.2.2.1 _ (by decide +kernel))) hce hcv hcl ?_
        refine lv_astore (lv' := [(5, .ref q9), (0, .ref (Q 0)), (1, .int p1), (2, .int p2), (3, .int p3), (4, .ref b)]) hx hb dL_join_23 hl (by decide) rfl (fun ls hl => ?_)
        refine lv_iconst (v := 3) hx hb dL_join_25 (by decide) ?_
        obtain ⟨hc0, hj0⟩ := of_some2 hf
        subst hj0
        exact grWi hx hb hr hlocks hP hK hD hS dL_join_26 (by omega) (by omega)
      have hf := (if_neg hc9).symm.trans hf
      cases hf
    · exact nomatch (Prod.mk.inj (hO9.symm.trans he9)).2
  · rcases hf with ⟨s9, e9, he9, hf⟩ | ⟨s9, r9, he9, hf⟩
    · exact nomatch (Prod.mk.inj (hO9.symm.trans he9)).2
    · have hq9 := hO9.symm.trans he9
      obtain ⟨hq8, hq7⟩ := Prod.mk.inj hq9
      subst hq8
      have hq6 := Sum.inr.inj hq7
      subst hq6
      have hP : va_P G vwCl (lwd cL cZ Q b A (Lo.sh z z1)) H := hP
      have hD : va_D _ (lwd cL cZ Q b A (Lo.sh z z1)) := hD
      refine lv_i2l hx hb dL_join_10 rfl ?_
      obtain ⟨hg2, hf⟩ := of_gd hf
      refine va_last (f := (Lo.aot z)) (n := 1) hx hb hK hP hD hS 9 0 rfl rfl (inb_in hg2) dL_join_11 (fun H locs hP hD hS => ?_)
      have hP : va_P G vwCl (lwd cL cZ Q b A (Lo.wot (Lo.sh z z1) (vp_updL (Lo.aot z) ((0 : Int32).toNatClampNeg) (r1.toInt64)))) H := hP
      have hD : va_D _ (lwd cL cZ Q b A (Lo.wot (Lo.sh z z1) (vp_updL (Lo.aot z) ((0 : Int32).toNatClampNeg) (r1.toInt64)))) := hD
      refine lv_goto (tgt := 27) hx hb dL_join_12 (by decide) ?_
      refine lv_iconst (v := 0) hx hb dL_join_27 (by decide) ?_
      obtain ⟨hc0, hj0⟩ := of_some2 hf
      subst hj0
      exact grWi hx hb hr hlocks hP hK hD hS dL_join_28 (by omega) (by omega)
set_option maxHeartbeats 4000000 in
set_option maxRecDepth 100000 in
theorem c_la_part (l : Launch) (hl0 : l.stackTraces = false) (G : va_G) (cL cZ : ClassId) (Q : Nat → Nat) (b : Nat) (A : Nat → Nat) (z : Lo) (sz : Nat) (p1 : Int32) (p2 : Int32) (p3 : Int32) (p4 : Int32) (c0 : Nat) (O0 : Lo × Int32) (hf : la_part z p1 p2 p3 p4 = some (c0, O0)) : Met l yL_part vL_part { frames := 12, cells := 9, slots := 24 + c0, locals := 295 } (gPn txC G vwCl (ct cL cZ) [.ref (Q 0), .int p1, .int p2, .int p3, .int p4, .ref b] (lwd cL cZ Q b A z) sz) (qWi G vwCl (ct cL cZ) (lwd cL cZ Q b A z) sz (lwd cL cZ Q b) O0) 9 (24 + c0) (va_A (lwd cL cZ Q b A z) sz) := by
  refine gMetW (by decide) rfl (Nat.le_of_ble_eq_true rfl) ?_
  intro p e s m below meth c ls C hE hK hP hD hT hN hsz hl
  subst hsz
  obtain ⟨hx, hb, hr, hml, hown, hts, hlocks⟩ := id C
  have FX : CallFix p m c cL_part 7 s _ vL_part RL := ⟨hx, hb, hml, hown, hts⟩
  have hA : ∀ q9 : Nat, s.heap.size ≤ q9 → va_A (lwd cL cZ Q b A z) s.heap.size q9 := fun q9 h => Or.inr h
  have hS : va_S (va_A (lwd cL cZ Q b A z) s.heap.size) s.heap s.heap [] := va_S.rf
  have hl : lv_has ls 7 [(0, .ref (Q 0)), (1, .int p1), (2, .int p2), (3, .int p3), (4, .int p4), (5, .ref b)] := hl
  unfold la_part at hf
  refine lv_aload hx hb dL_part_0 (lv_at hl 5 rfl) ?_
  refine lv_iconst (v := 0) hx hb dL_part_2 (by decide) ?_
  refine lv_aload_n hx hb dL_part_3 rfl (lv_at hl 0 rfl) ?_
  refine lv_iload_n hx hb dL_part_4 rfl (lv_at hl 1 rfl) ?_
  refine lv_iload_n hx hb dL_part_5 rfl (lv_at hl 2 rfl) ?_
  refine lv_iload_n hx hb dL_part_6 rfl (lv_at hl 3 rfl) ?_
  refine lv_iload hx hb dL_part_7 (lv_at hl 4 rfl) ?_
  have hP : va_P G vwCl (cw cL cZ Q A (Lo.h z) ++ [(b, .inl (cL, 1, .inr (.inl (Lo.aot z))))]) _ := hP
  have hD : va_D _ (cw cL cZ Q A (Lo.h z) ++ [(b, .inl (cL, 1, .inr (.inl (Lo.aot z))))]) := hD
  obtain ⟨k1, O1, d1, ho1, ek1, hf⟩ := of_hbcwt hf
  refine gfXi (gVx FX [.int p1, .int p2, .int p3, .int p4] (c_wh_part l hl0 G cL cZ Q A (Lo.h z) _ p1 p2 p3 p4 k1 _ ho1) (cwV 4 hts (gi_V wn_32 wn_33 wn_34 wn_3 wn_35) rfl rfl rfl hdV_X3_part ⟨Nat.le_of_ble_eq_true rfl, Nat.le_of_ble_eq_true rfl⟩) hK (gPl hP) (gDl hD) hT hS hA 0 rfl rfl rfl hl.1 (Nat.le_of_ble_eq_true rfl) dL_part_9 ⟨by show _ ≤ 9; omega, by show _ ≤ 24 + c0; omega⟩) hP hS hD hA (fun E9 A z1 ce q9 H locs hO9 hP hD hS hce hcv hcl => ?_) (fun r1 A z1 H locs hO9 hP hD hS => ?_)
  · rcases hf with ⟨s9, e9, he9, hf⟩ | ⟨s9, r9, he9, hf⟩
    · have hq9 := hO9.symm.trans he9
      obtain ⟨hq8, hq7⟩ := Prod.mk.inj hq9
      subst hq8
      have hq6 := Sum.inl.inj hq7
      subst hq6
      have hP : va_P G vwCl (lwd cL cZ Q b A (Lo.sh z z1)) H := hP
      have hD : va_D _ (lwd cL cZ Q b A (Lo.sh z z1)) := hD
      rcases Decidable.em (E9 = "java/lang/IllegalArgumentException") with hc9 | hc9
      · subst hc9
        have hf := (if_pos rfl).symm.trans hf
        refine gcatch (h1 := []) (h2 := [(0, 14, 21, 40), (0, 14, 25, 45), (0, 14, 29, 27)]) (st := 0) (en := 14) (hd := 17) (ct := 13) (name := "java/lang/IllegalArgumentException") hown hE (fun _ h => absurd h List.not_mem_nil) (by decide) (by decide) (hts _ (.tail _ wn_5)) (va_Nw.use rfl (hT.2.2.2.1 _ (by decide +kernel))) hce hcv hcl ?_
        refine lv_astore (lv' := [(6, .ref q9), (0, .ref (Q 0)), (1, .int p1), (2, .int p2), (3, .int p3), (4, .int p4), (5, .ref b)]) hx hb dL_part_17 hl (by decide) rfl (fun ls hl => ?_)
        refine lv_iconst (v := 1) hx hb dL_part_19 (by decide) ?_
        obtain ⟨hc0, hj0⟩ := of_some2 hf
        subst hj0
        exact grWi hx hb hr hlocks hP hK hD hS dL_part_20 (by omega) (by omega)
      have hf := (if_neg hc9).symm.trans hf
      rcases Decidable.em (E9 = "java/lang/UnsupportedOperationException") with hc9 | hc9
      · subst hc9
        have hf := (if_pos rfl).symm.trans hf
        refine gcatch (h1 := [(0, 14, 17, 13)]) (h2 := [(0, 14, 25, 45), (0, 14, 29, 27)]) (st := 0) (en := 14) (hd := 21) (ct := 40) (name := "java/lang/UnsupportedOperationException") hown hE (List.forall_mem_cons.mpr ⟨⟨by decide, "java/lang/IllegalArgumentException", (hts _ (.tail _ wn_5)), hN ("java/lang/UnsupportedOperationException", "java/lang/IllegalArgumentException") (by decide +kernel)⟩, (fun _ h => absurd h List.not_mem_nil)⟩) (by decide) (by decide) (hts _ (.tail _ wn_31)) (va_Nw.use rfl (hT.2.2.2.1 _ (by decide +kernel))) hce hcv hcl ?_
        refine lv_astore (lv' := [(6, .ref q9), (0, .ref (Q 0)), (1, .int p1), (2, .int p2), (3, .int p3), (4, .int p4), (5, .ref b)]) hx hb dL_part_21 hl (by decide) rfl (fun ls hl => ?_)
        refine lv_iconst (v := 2) hx hb dL_part_23 (by decide) ?_
        obtain ⟨hc0, hj0⟩ := of_some2 hf
        subst hj0
        exact grWi hx hb hr hlocks hP hK hD hS dL_part_24 (by omega) (by omega)
      have hf := (if_neg hc9).symm.trans hf
      rcases Decidable.em (E9 = "java/lang/IndexOutOfBoundsException") with hc9 | hc9
      · subst hc9
        have hf := (if_pos rfl).symm.trans hf
        refine gcatch (h1 := [(0, 14, 17, 13), (0, 14, 21, 40)]) (h2 := [(0, 14, 29, 27)]) (st := 0) (en := 14) (hd := 25) (ct := 45) (name := "java/lang/IndexOutOfBoundsException") hown hE (List.forall_mem_cons.mpr ⟨⟨by decide, "java/lang/IllegalArgumentException", (hts _ (.tail _ wn_5)), hN ("java/lang/IndexOutOfBoundsException", "java/lang/IllegalArgumentException") (by decide +kernel)⟩, (List.forall_mem_cons.mpr ⟨⟨by decide, "java/lang/UnsupportedOperationException", (hts _ (.tail _ wn_31)), hN ("java/lang/IndexOutOfBoundsException", "java/lang/UnsupportedOperationException") (by decide +kernel)⟩, (fun _ h => absurd h List.not_mem_nil)⟩)⟩) (by decide) (by decide) (hts _ (.tail _ wn_36)) (va_Nw.use rfl (hT.2.2.2.1 _ (by decide +kernel))) hce hcv hcl ?_
        refine lv_astore (lv' := [(6, .ref q9), (0, .ref (Q 0)), (1, .int p1), (2, .int p2), (3, .int p3), (4, .int p4), (5, .ref b)]) hx hb dL_part_25 hl (by decide) rfl (fun ls hl => ?_)
        refine lv_iconst (v := 3) hx hb dL_part_27 (by decide) ?_
        obtain ⟨hc0, hj0⟩ := of_some2 hf
        subst hj0
        exact grWi hx hb hr hlocks hP hK hD hS dL_part_28 (by omega) (by omega)
      have hf := (if_neg hc9).symm.trans hf
      rcases Decidable.em (E9 = "java/lang/IllegalStateException") with hc9 | hc9
      · subst hc9
        have hf := (if_pos rfl).symm.trans hf
        refine gcatch (h1 := [(0, 14, 17, 13), (0, 14, 21, 40), (0, 14, 25, 45)]) (h2 := []) (st := 0) (en := 14) (hd := 29) (ct := 27) (name := "java/lang/IllegalStateException") hown hE (List.forall_mem_cons.mpr ⟨⟨by decide, "java/lang/IllegalArgumentException", (hts _ (.tail _ wn_5)), hN ("java/lang/IllegalStateException", "java/lang/IllegalArgumentException") (by decide +kernel)⟩, (List.forall_mem_cons.mpr ⟨⟨by decide, "java/lang/UnsupportedOperationException", (hts _ (.tail _ wn_31)), hN ("java/lang/IllegalStateException", "java/lang/UnsupportedOperationException") (by decide +kernel)⟩, (List.forall_mem_cons.mpr ⟨⟨by decide, "java/lang/IndexOutOfBoundsException", (hts _ (.tail _ wn_36)), hN ("java/lang/IllegalStateException", "java/lang/IndexOutOfBoundsException") (by decide +kernel)⟩, (fun _ h => absurd h List.not_mem_nil)⟩)⟩)⟩) (by decide) (by decide) (hts _ (.tail _ wn_18)) (va_Nw.use rfl (hT.2.2.2.1 _ (by decide +kernel))) hce hcv hcl ?_
        refine lv_astore (lv' := [(6, .ref q9), (0, .ref (Q 0)), (1, .int p1), (2, .int p2), (3, .int p3), (4, .int p4), (5, .ref b)]) hx hb dL_part_29 hl (by decide) rfl (fun ls hl => ?_)
        refine lv_iconst (v := 4) hx hb dL_part_31 (by decide) ?_
        obtain ⟨hc0, hj0⟩ := of_some2 hf
        subst hj0
        exact grWi hx hb hr hlocks hP hK hD hS dL_part_32 (by omega) (by omega)
      have hf := (if_neg hc9).symm.trans hf
      cases hf
    · exact nomatch (Prod.mk.inj (hO9.symm.trans he9)).2
  · rcases hf with ⟨s9, e9, he9, hf⟩ | ⟨s9, r9, he9, hf⟩
    · exact nomatch (Prod.mk.inj (hO9.symm.trans he9)).2
    · have hq9 := hO9.symm.trans he9
      obtain ⟨hq8, hq7⟩ := Prod.mk.inj hq9
      subst hq8
      have hq6 := Sum.inr.inj hq7
      subst hq6
      have hP : va_P G vwCl (lwd cL cZ Q b A (Lo.sh z z1)) H := hP
      have hD : va_D _ (lwd cL cZ Q b A (Lo.sh z z1)) := hD
      refine lv_i2l hx hb dL_part_12 rfl ?_
      obtain ⟨hg2, hf⟩ := of_gd hf
      refine va_last (f := (Lo.aot z)) (n := 1) hx hb hK hP hD hS 9 0 rfl rfl (inb_in hg2) dL_part_13 (fun H locs hP hD hS => ?_)
      have hP : va_P G vwCl (lwd cL cZ Q b A (Lo.wot (Lo.sh z z1) (vp_updL (Lo.aot z) ((0 : Int32).toNatClampNeg) (r1.toInt64)))) H := hP
      have hD : va_D _ (lwd cL cZ Q b A (Lo.wot (Lo.sh z z1) (vp_updL (Lo.aot z) ((0 : Int32).toNatClampNeg) (r1.toInt64)))) := hD
      refine lv_goto (tgt := 33) hx hb dL_part_14 (by decide) ?_
      refine lv_iconst (v := 0) hx hb dL_part_33 (by decide) ?_
      obtain ⟨hc0, hj0⟩ := of_some2 hf
      subst hj0
      exact grWi hx hb hr hlocks hP hK hD hS dL_part_34 (by omega) (by omega)
set_option maxHeartbeats 4000000 in
set_option maxRecDepth 100000 in
theorem c_la_compare (l : Launch) (hl0 : l.stackTraces = false) (G : va_G) (cL cZ : ClassId) (Q : Nat → Nat) (b : Nat) (A : Nat → Nat) (z : Lo) (sz : Nat) (p1 : Int32) (p2 : Int32) (O0 : Lo × Int32) (hf : la_compare z p1 p2 = some O0) : Met l yL_compare vL_compare { frames := 10, cells := 4, slots := 24, locals := 246 } (gPn txC G vwCl (ct cL cZ) [.ref (Q 0), .int p1, .int p2, .ref b] (lwd cL cZ Q b A z) sz) (qWi G vwCl (ct cL cZ) (lwd cL cZ Q b A z) sz (lwd cL cZ Q b) O0) 4 24 (va_A (lwd cL cZ Q b A z) sz) := by
  refine gMetW (by decide) rfl (Nat.le_of_ble_eq_true rfl) ?_
  intro p e s m below meth c ls C hE hK hP hD hT hN hsz hl
  subst hsz
  obtain ⟨hx, hb, hr, hml, hown, hts, hlocks⟩ := id C
  have FX : CallFix p m c cL_compare 5 s _ vL_compare RL := ⟨hx, hb, hml, hown, hts⟩
  have hA : ∀ q9 : Nat, s.heap.size ≤ q9 → va_A (lwd cL cZ Q b A z) s.heap.size q9 := fun q9 h => Or.inr h
  have hS : va_S (va_A (lwd cL cZ Q b A z) s.heap.size) s.heap s.heap [] := va_S.rf
  have hl : lv_has ls 5 [(0, .ref (Q 0)), (1, .int p1), (2, .int p2), (3, .ref b)] := hl
  unfold la_compare at hf
  refine lv_aload_n hx hb dL_compare_0 rfl (lv_at hl 3 rfl) ?_
  refine lv_iconst (v := 0) hx hb dL_compare_1 (by decide) ?_
  refine lv_aload_n hx hb dL_compare_2 rfl (lv_at hl 0 rfl) ?_
  refine lv_iload_n hx hb dL_compare_3 rfl (lv_at hl 1 rfl) ?_
  refine lv_iload_n hx hb dL_compare_4 rfl (lv_at hl 2 rfl) ?_
  have hP : va_P G vwCl (cw cL cZ Q A (Lo.h z) ++ [(b, .inl (cL, 1, .inr (.inl (Lo.aot z))))]) _ := hP
  have hD : va_D _ (cw cL cZ Q A (Lo.h z) ++ [(b, .inl (cL, 1, .inr (.inl (Lo.aot z))))]) := hD
  obtain ⟨O1, ho1, hf⟩ := of_hbt hf
  refine gfTi (gVx FX [.int p1, .int p2] (c_wh_compare l hl0 G cL cZ Q A (Lo.h z) _ p1 p2 _ ho1) (cwV 2 hts (gi_V wn_37 wn_38 wn_39 wn_3 wn_40) rfl rfl rfl hdV_X3_compare ⟨Nat.le_of_ble_eq_true rfl, Nat.le_of_ble_eq_true rfl⟩) hK (gPl hP) (gDl hD) hT hS hA 0 rfl rfl rfl hl.1 (Nat.le_of_ble_eq_true rfl) dL_compare_5 ⟨by show _ ≤ 4; omega, by show _ ≤ 24; omega⟩) hP hS hD hA (fun E9 ce q9 H locs hO9 hP hS hce hcv hcl => ?_) (fun r1 H locs hO9 hP hS => ?_)
  · rcases hf with ⟨e9, he9, hf⟩ | ⟨r9, he9, hf⟩
    · have hq6 := Sum.inl.inj (hO9.symm.trans he9)
      subst hq6
      have hP : va_P G vwCl (lwd cL cZ Q b A z) H := hP
      rcases Decidable.em (E9 = "java/lang/IllegalArgumentException") with hc9 | hc9
      · subst hc9
        have hf := (if_pos rfl).symm.trans hf
        refine gcatch (h1 := []) (h2 := [(0, 10, 17, 40)]) (st := 0) (en := 10) (hd := 13) (ct := 13) (name := "java/lang/IllegalArgumentException") hown hE (fun _ h => absurd h List.not_mem_nil) (by decide) (by decide) (hts _ (.tail _ wn_5)) (va_Nw.use rfl (hT.2.2.2.1 _ (by decide +kernel))) hce hcv hcl ?_
        refine lv_astore (lv' := [(4, .ref q9), (0, .ref (Q 0)), (1, .int p1), (2, .int p2), (3, .ref b)]) hx hb dL_compare_13 hl (by decide) rfl (fun ls hl => ?_)
        refine lv_iconst (v := 1) hx hb dL_compare_15 (by decide) ?_
        obtain rfl := Option.some.inj hf
        exact grWi hx hb hr hlocks hP hK hD hS dL_compare_16 (by omega) (by omega)
      have hf := (if_neg hc9).symm.trans hf
      rcases Decidable.em (E9 = "java/lang/UnsupportedOperationException") with hc9 | hc9
      · subst hc9
        have hf := (if_pos rfl).symm.trans hf
        refine gcatch (h1 := [(0, 10, 13, 13)]) (h2 := []) (st := 0) (en := 10) (hd := 17) (ct := 40) (name := "java/lang/UnsupportedOperationException") hown hE (List.forall_mem_cons.mpr ⟨⟨by decide, "java/lang/IllegalArgumentException", (hts _ (.tail _ wn_5)), hN ("java/lang/UnsupportedOperationException", "java/lang/IllegalArgumentException") (by decide +kernel)⟩, (fun _ h => absurd h List.not_mem_nil)⟩) (by decide) (by decide) (hts _ (.tail _ wn_31)) (va_Nw.use rfl (hT.2.2.2.1 _ (by decide +kernel))) hce hcv hcl ?_
        refine lv_astore (lv' := [(4, .ref q9), (0, .ref (Q 0)), (1, .int p1), (2, .int p2), (3, .ref b)]) hx hb dL_compare_17 hl (by decide) rfl (fun ls hl => ?_)
        refine lv_iconst (v := 2) hx hb dL_compare_19 (by decide) ?_
        obtain rfl := Option.some.inj hf
        exact grWi hx hb hr hlocks hP hK hD hS dL_compare_20 (by omega) (by omega)
      have hf := (if_neg hc9).symm.trans hf
      cases hf
    · exact nomatch hO9.symm.trans he9
  · rcases hf with ⟨e9, he9, hf⟩ | ⟨r9, he9, hf⟩
    · exact nomatch hO9.symm.trans he9
    · have hq6 := Sum.inr.inj (hO9.symm.trans he9)
      subst hq6
      have hP : va_P G vwCl (lwd cL cZ Q b A z) H := hP
      refine lv_i2l hx hb dL_compare_8 rfl ?_
      obtain ⟨hg2, hf⟩ := of_gd hf
      refine va_last (f := (Lo.aot z)) (n := 1) hx hb hK hP hD hS 9 0 rfl rfl (inb_in hg2) dL_compare_9 (fun H locs hP hD hS => ?_)
      have hP : va_P G vwCl (lwd cL cZ Q b A (Lo.wot z (vp_updL (Lo.aot z) ((0 : Int32).toNatClampNeg) (r1.toInt64)))) H := hP
      have hD : va_D _ (lwd cL cZ Q b A (Lo.wot z (vp_updL (Lo.aot z) ((0 : Int32).toNatClampNeg) (r1.toInt64)))) := hD
      refine lv_goto (tgt := 21) hx hb dL_compare_10 (by decide) ?_
      refine lv_iconst (v := 0) hx hb dL_compare_21 (by decide) ?_
      obtain rfl := Option.some.inj hf
      exact grWi hx hb hr hlocks hP hK hD hS dL_compare_22 (by omega) (by omega)
set_option maxHeartbeats 4000000 in
set_option maxRecDepth 100000 in
theorem c_la_byteAt (l : Launch) (hl0 : l.stackTraces = false) (G : va_G) (cL cZ : ClassId) (Q : Nat → Nat) (b : Nat) (A : Nat → Nat) (z : Lo) (sz : Nat) (p1 : Int32) (p2 : Int32) (O0 : Lo × Int32) (hf : la_byteAt z p1 p2 = some O0) : Met l yL_byteAt vL_byteAt { frames := 10, cells := 3, slots := 18, locals := 245 } (gPn txC G vwCl (ct cL cZ) [.ref (Q 0), .int p1, .int p2, .ref b] (lwd cL cZ Q b A z) sz) (qWi G vwCl (ct cL cZ) (lwd cL cZ Q b A z) sz (lwd cL cZ Q b) O0) 3 18 (va_A (lwd cL cZ Q b A z) sz) := by
  refine gMetW (by decide) rfl (Nat.le_of_ble_eq_true rfl) ?_
  intro p e s m below meth c ls C hE hK hP hD hT hN hsz hl
  subst hsz
  obtain ⟨hx, hb, hr, hml, hown, hts, hlocks⟩ := id C
  have FX : CallFix p m c cL_byteAt 5 s _ vL_byteAt RL := ⟨hx, hb, hml, hown, hts⟩
  have hA : ∀ q9 : Nat, s.heap.size ≤ q9 → va_A (lwd cL cZ Q b A z) s.heap.size q9 := fun q9 h => Or.inr h
  have hS : va_S (va_A (lwd cL cZ Q b A z) s.heap.size) s.heap s.heap [] := va_S.rf
  have hl : lv_has ls 5 [(0, .ref (Q 0)), (1, .int p1), (2, .int p2), (3, .ref b)] := hl
  unfold la_byteAt at hf
  refine lv_aload_n hx hb dL_byteAt_0 rfl (lv_at hl 3 rfl) ?_
  refine lv_iconst (v := 0) hx hb dL_byteAt_1 (by decide) ?_
  refine lv_aload_n hx hb dL_byteAt_2 rfl (lv_at hl 0 rfl) ?_
  refine lv_iload_n hx hb dL_byteAt_3 rfl (lv_at hl 1 rfl) ?_
  refine lv_iload_n hx hb dL_byteAt_4 rfl (lv_at hl 2 rfl) ?_
  have hP : va_P G vwCl (cw cL cZ Q A (Lo.h z) ++ [(b, .inl (cL, 1, .inr (.inl (Lo.aot z))))]) _ := hP
  have hD : va_D _ (cw cL cZ Q A (Lo.h z) ++ [(b, .inl (cL, 1, .inr (.inl (Lo.aot z))))]) := hD
  obtain ⟨O1, ho1, hf⟩ := of_hbt hf
  refine gfTi (gVx FX [.int p1, .int p2] (c_wh_byteAt l hl0 G cL cZ Q A (Lo.h z) _ p1 p2 _ ho1) (cwV 2 hts (gi_V wn_41 wn_42 wn_43 wn_3 wn_44) rfl rfl rfl hdV_X3_byteAt ⟨Nat.le_of_ble_eq_true rfl, Nat.le_of_ble_eq_true rfl⟩) hK (gPl hP) (gDl hD) hT hS hA 0 rfl rfl rfl hl.1 (Nat.le_of_ble_eq_true rfl) dL_byteAt_5 ⟨by show _ ≤ 3; omega, by show _ ≤ 18; omega⟩) hP hS hD hA (fun E9 ce q9 H locs hO9 hP hS hce hcv hcl => ?_) (fun r1 H locs hO9 hP hS => ?_)
  · rcases hf with ⟨e9, he9, hf⟩ | ⟨r9, he9, hf⟩
    · have hq6 := Sum.inl.inj (hO9.symm.trans he9)
      subst hq6
      have hP : va_P G vwCl (lwd cL cZ Q b A z) H := hP
      rcases Decidable.em (E9 = "java/lang/IllegalArgumentException") with hc9 | hc9
      · subst hc9
        have hf := (if_pos rfl).symm.trans hf
        refine gcatch (h1 := []) (h2 := [(0, 10, 17, 40), (0, 10, 21, 45)]) (st := 0) (en := 10) (hd := 13) (ct := 13) (name := "java/lang/IllegalArgumentException") hown hE (fun _ h => absurd h List.not_mem_nil) (by decide) (by decide) (hts _ (.tail _ wn_5)) (va_Nw.use rfl (hT.2.2.2.1 _ (by decide +kernel))) hce hcv hcl ?_
        refine lv_astore (lv' := [(4, .ref q9), (0, .ref (Q 0)), (1, .int p1), (2, .int p2), (3, .ref b)]) hx hb dL_byteAt_13 hl (by decide) rfl (fun ls hl => ?_)
        refine lv_iconst (v := 1) hx hb dL_byteAt_15 (by decide) ?_
        obtain rfl := Option.some.inj hf
        exact grWi hx hb hr hlocks hP hK hD hS dL_byteAt_16 (by omega) (by omega)
      have hf := (if_neg hc9).symm.trans hf
      rcases Decidable.em (E9 = "java/lang/UnsupportedOperationException") with hc9 | hc9
      · subst hc9
        have hf := (if_pos rfl).symm.trans hf
        refine gcatch (h1 := [(0, 10, 13, 13)]) (h2 := [(0, 10, 21, 45)]) (st := 0) (en := 10) (hd := 17) (ct := 40) (name := "java/lang/UnsupportedOperationException") hown hE (List.forall_mem_cons.mpr ⟨⟨by decide, "java/lang/IllegalArgumentException", (hts _ (.tail _ wn_5)), hN ("java/lang/UnsupportedOperationException", "java/lang/IllegalArgumentException") (by decide +kernel)⟩, (fun _ h => absurd h List.not_mem_nil)⟩) (by decide) (by decide) (hts _ (.tail _ wn_31)) (va_Nw.use rfl (hT.2.2.2.1 _ (by decide +kernel))) hce hcv hcl ?_
        refine lv_astore (lv' := [(4, .ref q9), (0, .ref (Q 0)), (1, .int p1), (2, .int p2), (3, .ref b)]) hx hb dL_byteAt_17 hl (by decide) rfl (fun ls hl => ?_)
        refine lv_iconst (v := 2) hx hb dL_byteAt_19 (by decide) ?_
        obtain rfl := Option.some.inj hf
        exact grWi hx hb hr hlocks hP hK hD hS dL_byteAt_20 (by omega) (by omega)
      have hf := (if_neg hc9).symm.trans hf
      rcases Decidable.em (E9 = "java/lang/IndexOutOfBoundsException") with hc9 | hc9
      · subst hc9
        have hf := (if_pos rfl).symm.trans hf
        refine gcatch (h1 := [(0, 10, 13, 13), (0, 10, 17, 40)]) (h2 := []) (st := 0) (en := 10) (hd := 21) (ct := 45) (name := "java/lang/IndexOutOfBoundsException") hown hE (List.forall_mem_cons.mpr ⟨⟨by decide, "java/lang/IllegalArgumentException", (hts _ (.tail _ wn_5)), hN ("java/lang/IndexOutOfBoundsException", "java/lang/IllegalArgumentException") (by decide +kernel)⟩, (List.forall_mem_cons.mpr ⟨⟨by decide, "java/lang/UnsupportedOperationException", (hts _ (.tail _ wn_31)), hN ("java/lang/IndexOutOfBoundsException", "java/lang/UnsupportedOperationException") (by decide +kernel)⟩, (fun _ h => absurd h List.not_mem_nil)⟩)⟩) (by decide) (by decide) (hts _ (.tail _ wn_36)) (va_Nw.use rfl (hT.2.2.2.1 _ (by decide +kernel))) hce hcv hcl ?_
        refine lv_astore (lv' := [(4, .ref q9), (0, .ref (Q 0)), (1, .int p1), (2, .int p2), (3, .ref b)]) hx hb dL_byteAt_21 hl (by decide) rfl (fun ls hl => ?_)
        refine lv_iconst (v := 3) hx hb dL_byteAt_23 (by decide) ?_
        obtain rfl := Option.some.inj hf
        exact grWi hx hb hr hlocks hP hK hD hS dL_byteAt_24 (by omega) (by omega)
      have hf := (if_neg hc9).symm.trans hf
      cases hf
    · exact nomatch hO9.symm.trans he9
  · rcases hf with ⟨e9, he9, hf⟩ | ⟨r9, he9, hf⟩
    · exact nomatch hO9.symm.trans he9
    · have hq6 := Sum.inr.inj (hO9.symm.trans he9)
      subst hq6
      have hP : va_P G vwCl (lwd cL cZ Q b A z) H := hP
      refine lv_i2l hx hb dL_byteAt_8 rfl ?_
      obtain ⟨hg2, hf⟩ := of_gd hf
      refine va_last (f := (Lo.aot z)) (n := 1) hx hb hK hP hD hS 9 0 rfl rfl (inb_in hg2) dL_byteAt_9 (fun H locs hP hD hS => ?_)
      have hP : va_P G vwCl (lwd cL cZ Q b A (Lo.wot z (vp_updL (Lo.aot z) ((0 : Int32).toNatClampNeg) (r1.toInt64)))) H := hP
      have hD : va_D _ (lwd cL cZ Q b A (Lo.wot z (vp_updL (Lo.aot z) ((0 : Int32).toNatClampNeg) (r1.toInt64)))) := hD
      refine lv_goto (tgt := 25) hx hb dL_byteAt_10 (by decide) ?_
      refine lv_iconst (v := 0) hx hb dL_byteAt_25 (by decide) ?_
      obtain rfl := Option.some.inj hf
      exact grWi hx hb hr hlocks hP hK hD hS dL_byteAt_26 (by omega) (by omega)
set_option maxHeartbeats 4000000 in
set_option maxRecDepth 100000 in
theorem c_la_setByte (l : Launch) (hl0 : l.stackTraces = false) (G : va_G) (cL cZ : ClassId) (Q : Nat → Nat) (b : Nat) (A : Nat → Nat) (z : Lo) (sz : Nat) (p1 : Int32) (p2 : Int32) (p3 : Int32) (O0 : Lo × Int32) (hf : la_setByte z p1 p2 p3 = some O0) : Met l yL_setByte vL_setByte { frames := 10, cells := 3, slots := 18, locals := 246 } (gPn txC G vwCl (ct cL cZ) [.ref (Q 0), .int p1, .int p2, .int p3] (lwd cL cZ Q b A z) sz) (qWi G vwCl (ct cL cZ) (lwd cL cZ Q b A z) sz (lwd cL cZ Q b) O0) 3 18 (va_A (lwd cL cZ Q b A z) sz) := by
  refine gMetW (by decide) rfl (Nat.le_of_ble_eq_true rfl) ?_
  intro p e s m below meth c ls C hE hK hP hD hT hN hsz hl
  subst hsz
  obtain ⟨hx, hb, hr, hml, hown, hts, hlocks⟩ := id C
  have FX : CallFix p m c cL_setByte 5 s _ vL_setByte RL := ⟨hx, hb, hml, hown, hts⟩
  have hA : ∀ q9 : Nat, s.heap.size ≤ q9 → va_A (lwd cL cZ Q b A z) s.heap.size q9 := fun q9 h => Or.inr h
  have hS : va_S (va_A (lwd cL cZ Q b A z) s.heap.size) s.heap s.heap [] := va_S.rf
  have hl : lv_has ls 5 [(0, .ref (Q 0)), (1, .int p1), (2, .int p2), (3, .int p3)] := hl
  unfold la_setByte at hf
  refine lv_aload_n hx hb dL_setByte_0 rfl (lv_at hl 0 rfl) ?_
  refine lv_iload_n hx hb dL_setByte_1 rfl (lv_at hl 1 rfl) ?_
  refine lv_iload_n hx hb dL_setByte_2 rfl (lv_at hl 2 rfl) ?_
  refine lv_iload_n hx hb dL_setByte_3 rfl (lv_at hl 3 rfl) ?_
  have hP : va_P G vwCl (cw cL cZ Q A (Lo.h z) ++ [(b, .inl (cL, 1, .inr (.inl (Lo.aot z))))]) _ := hP
  have hD : va_D _ (cw cL cZ Q A (Lo.h z) ++ [(b, .inl (cL, 1, .inr (.inl (Lo.aot z))))]) := hD
  obtain ⟨O1, ho1, hf⟩ := of_hbwt hf
  refine gfXv (gVx FX [.int p1, .int p2, .int p3] (c_wh_setByte l hl0 G cL cZ Q A (Lo.h z) _ p1 p2 p3 _ ho1) (cwV 3 hts (gi_V wn_45 wn_46 wn_47 wn_3 wn_48) rfl rfl rfl hdV_X3_setByte ⟨Nat.le_of_ble_eq_true rfl, Nat.le_of_ble_eq_true rfl⟩) hK (gPl hP) (gDl hD) hT hS hA 0 rfl rfl rfl hl.1 (Nat.le_of_ble_eq_true rfl) dL_setByte_4 ⟨by show _ ≤ 3; omega, by show _ ≤ 18; omega⟩) hP hS hD hA (fun E9 A z1 ce q9 H locs hO9 hP hD hS hce hcv hcl => ?_) (fun o9 A z1 H locs hO9 hP hD hS => ?_)
  · rcases hf with ⟨s9, e9, he9, hf⟩ | ⟨s9, r9, he9, hf⟩
    · have hq9 := hO9.symm.trans he9
      obtain ⟨hq8, hq7⟩ := Prod.mk.inj hq9
      subst hq8
      have hq6 := Sum.inl.inj hq7
      subst hq6
      have hP : va_P G vwCl (lwd cL cZ Q b A (Lo.sh z z1)) H := hP
      have hD : va_D _ (lwd cL cZ Q b A (Lo.sh z z1)) := hD
      rcases Decidable.em (E9 = "java/lang/IllegalArgumentException") with hc9 | hc9
      · subst hc9
        have hf := (if_pos rfl).symm.trans hf
        refine gcatch (h1 := []) (h2 := [(0, 7, 14, 40), (0, 7, 18, 45)]) (st := 0) (en := 7) (hd := 10) (ct := 13) (name := "java/lang/IllegalArgumentException") hown hE (fun _ h => absurd h List.not_mem_nil) (by decide) (by decide) (hts _ (.tail _ wn_5)) (va_Nw.use rfl (hT.2.2.2.1 _ (by decide +kernel))) hce hcv hcl ?_
        refine lv_astore (lv' := [(4, .ref q9), (0, .ref (Q 0)), (1, .int p1), (2, .int p2), (3, .int p3)]) hx hb dL_setByte_10 hl (by decide) rfl (fun ls hl => ?_)
        refine lv_iconst (v := 1) hx hb dL_setByte_12 (by decide) ?_
        obtain rfl := Option.some.inj hf
        exact grWi hx hb hr hlocks hP hK hD hS dL_setByte_13 (by omega) (by omega)
      have hf := (if_neg hc9).symm.trans hf
      rcases Decidable.em (E9 = "java/lang/UnsupportedOperationException") with hc9 | hc9
      · subst hc9
        have hf := (if_pos rfl).symm.trans hf
        refine gcatch (h1 := [(0, 7, 10, 13)]) (h2 := [(0, 7, 18, 45)]) (st := 0) (en := 7) (hd := 14) (ct := 40) (name := "java/lang/UnsupportedOperationException") hown hE (List.forall_mem_cons.mpr ⟨⟨by decide, "java/lang/IllegalArgumentException", (hts _ (.tail _ wn_5)), hN ("java/lang/UnsupportedOperationException", "java/lang/IllegalArgumentException") (by decide +kernel)⟩, (fun _ h => absurd h List.not_mem_nil)⟩) (by decide) (by decide) (hts _ (.tail _ wn_31)) (va_Nw.use rfl (hT.2.2.2.1 _ (by decide +kernel))) hce hcv hcl ?_
        refine lv_astore (lv' := [(4, .ref q9), (0, .ref (Q 0)), (1, .int p1), (2, .int p2), (3, .int p3)]) hx hb dL_setByte_14 hl (by decide) rfl (fun ls hl => ?_)
        refine lv_iconst (v := 2) hx hb dL_setByte_16 (by decide) ?_
        obtain rfl := Option.some.inj hf
        exact grWi hx hb hr hlocks hP hK hD hS dL_setByte_17 (by omega) (by omega)
      have hf := (if_neg hc9).symm.trans hf
      rcases Decidable.em (E9 = "java/lang/IndexOutOfBoundsException") with hc9 | hc9
      · subst hc9
        have hf := (if_pos rfl).symm.trans hf
        refine gcatch (h1 := [(0, 7, 10, 13), (0, 7, 14, 40)]) (h2 := []) (st := 0) (en := 7) (hd := 18) (ct := 45) (name := "java/lang/IndexOutOfBoundsException") hown hE (List.forall_mem_cons.mpr ⟨⟨by decide, "java/lang/IllegalArgumentException", (hts _ (.tail _ wn_5)), hN ("java/lang/IndexOutOfBoundsException", "java/lang/IllegalArgumentException") (by decide +kernel)⟩, (List.forall_mem_cons.mpr ⟨⟨by decide, "java/lang/UnsupportedOperationException", (hts _ (.tail _ wn_31)), hN ("java/lang/IndexOutOfBoundsException", "java/lang/UnsupportedOperationException") (by decide +kernel)⟩, (fun _ h => absurd h List.not_mem_nil)⟩)⟩) (by decide) (by decide) (hts _ (.tail _ wn_36)) (va_Nw.use rfl (hT.2.2.2.1 _ (by decide +kernel))) hce hcv hcl ?_
        refine lv_astore (lv' := [(4, .ref q9), (0, .ref (Q 0)), (1, .int p1), (2, .int p2), (3, .int p3)]) hx hb dL_setByte_18 hl (by decide) rfl (fun ls hl => ?_)
        refine lv_iconst (v := 3) hx hb dL_setByte_20 (by decide) ?_
        obtain rfl := Option.some.inj hf
        exact grWi hx hb hr hlocks hP hK hD hS dL_setByte_21 (by omega) (by omega)
      have hf := (if_neg hc9).symm.trans hf
      cases hf
    · exact nomatch (Prod.mk.inj (hO9.symm.trans he9)).2
  · rcases hf with ⟨s9, e9, he9, hf⟩ | ⟨s9, r9, he9, hf⟩
    · exact nomatch (Prod.mk.inj (hO9.symm.trans he9)).2
    · have hq9 := hO9.symm.trans he9
      obtain ⟨hq8, hq7⟩ := Prod.mk.inj hq9
      subst hq8
      have hq6 := Sum.inr.inj hq7
      subst hq6
      have hP : va_P G vwCl (lwd cL cZ Q b A (Lo.sh z z1)) H := hP
      have hD : va_D _ (lwd cL cZ Q b A (Lo.sh z z1)) := hD
      refine lv_goto (tgt := 22) hx hb dL_setByte_7 (by decide) ?_
      refine lv_iconst (v := 0) hx hb dL_setByte_22 (by decide) ?_
      obtain rfl := Option.some.inj hf
      exact grWi hx hb hr hlocks hP hK hD hS dL_setByte_23 (by omega) (by omega)
set_option maxHeartbeats 4000000 in
set_option maxRecDepth 100000 in
theorem c_la_shift (l : Launch) (hl0 : l.stackTraces = false) (G : va_G) (cL cZ : ClassId) (Q : Nat → Nat) (b : Nat) (A : Nat → Nat) (z : Lo) (sz : Nat) (p1 : Int32) (p2 : Int32) (p3 : Int32) (O0 : Lo × Int32) (hf : la_shift z p1 p2 p3 = some O0) : Met l yL_shift vL_shift { frames := 10, cells := 4, slots := 24, locals := 247 } (gPn txC G vwCl (ct cL cZ) [.ref (Q 0), .int p1, .int p2, .int p3] (lwd cL cZ Q b A z) sz) (qWi G vwCl (ct cL cZ) (lwd cL cZ Q b A z) sz (lwd cL cZ Q b) O0) 4 24 (va_A (lwd cL cZ Q b A z) sz) := by
  refine gMetW (by decide) rfl (Nat.le_of_ble_eq_true rfl) ?_
  intro p e s m below meth c ls C hE hK hP hD hT hN hsz hl
  subst hsz
  obtain ⟨hx, hb, hr, hml, hown, hts, hlocks⟩ := id C
  have FX : CallFix p m c cL_shift 5 s _ vL_shift RL := ⟨hx, hb, hml, hown, hts⟩
  have hA : ∀ q9 : Nat, s.heap.size ≤ q9 → va_A (lwd cL cZ Q b A z) s.heap.size q9 := fun q9 h => Or.inr h
  have hS : va_S (va_A (lwd cL cZ Q b A z) s.heap.size) s.heap s.heap [] := va_S.rf
  have hl : lv_has ls 5 [(0, .ref (Q 0)), (1, .int p1), (2, .int p2), (3, .int p3)] := hl
  unfold la_shift at hf
  refine lv_aload_n hx hb dL_shift_0 rfl (lv_at hl 0 rfl) ?_
  refine lv_iload_n hx hb dL_shift_1 rfl (lv_at hl 1 rfl) ?_
  refine lv_iload_n hx hb dL_shift_2 rfl (lv_at hl 2 rfl) ?_
  refine lv_iload_n hx hb dL_shift_3 rfl (lv_at hl 3 rfl) ?_
  have hP : va_P G vwCl (cw cL cZ Q A (Lo.h z) ++ [(b, .inl (cL, 1, .inr (.inl (Lo.aot z))))]) _ := hP
  have hD : va_D _ (cw cL cZ Q A (Lo.h z) ++ [(b, .inl (cL, 1, .inr (.inl (Lo.aot z))))]) := hD
  obtain ⟨O1, ho1, hf⟩ := of_hbwt hf
  refine gfXv (gVx FX [.int p1, .int p2, .int p3] (c_wh_shift l hl0 G cL cZ Q A (Lo.h z) _ p1 p2 p3 _ ho1) (cwV 3 hts (gi_V wn_49 wn_50 wn_51 wn_3 wn_52) rfl rfl rfl hdV_X3_shift ⟨Nat.le_of_ble_eq_true rfl, Nat.le_of_ble_eq_true rfl⟩) hK (gPl hP) (gDl hD) hT hS hA 0 rfl rfl rfl hl.1 (Nat.le_of_ble_eq_true rfl) dL_shift_4 ⟨by show _ ≤ 4; omega, by show _ ≤ 24; omega⟩) hP hS hD hA (fun E9 A z1 ce q9 H locs hO9 hP hD hS hce hcv hcl => ?_) (fun o9 A z1 H locs hO9 hP hD hS => ?_)
  · rcases hf with ⟨s9, e9, he9, hf⟩ | ⟨s9, r9, he9, hf⟩
    · have hq9 := hO9.symm.trans he9
      obtain ⟨hq8, hq7⟩ := Prod.mk.inj hq9
      subst hq8
      have hq6 := Sum.inl.inj hq7
      subst hq6
      have hP : va_P G vwCl (lwd cL cZ Q b A (Lo.sh z z1)) H := hP
      have hD : va_D _ (lwd cL cZ Q b A (Lo.sh z z1)) := hD
      rcases Decidable.em (E9 = "java/lang/IllegalArgumentException") with hc9 | hc9
      · subst hc9
        have hf := (if_pos rfl).symm.trans hf
        refine gcatch (h1 := []) (h2 := [(0, 7, 14, 40), (0, 7, 18, 45)]) (st := 0) (en := 7) (hd := 10) (ct := 13) (name := "java/lang/IllegalArgumentException") hown hE (fun _ h => absurd h List.not_mem_nil) (by decide) (by decide) (hts _ (.tail _ wn_5)) (va_Nw.use rfl (hT.2.2.2.1 _ (by decide +kernel))) hce hcv hcl ?_
        refine lv_astore (lv' := [(4, .ref q9), (0, .ref (Q 0)), (1, .int p1), (2, .int p2), (3, .int p3)]) hx hb dL_shift_10 hl (by decide) rfl (fun ls hl => ?_)
        refine lv_iconst (v := 1) hx hb dL_shift_12 (by decide) ?_
        obtain rfl := Option.some.inj hf
        exact grWi hx hb hr hlocks hP hK hD hS dL_shift_13 (by omega) (by omega)
      have hf := (if_neg hc9).symm.trans hf
      rcases Decidable.em (E9 = "java/lang/UnsupportedOperationException") with hc9 | hc9
      · subst hc9
        have hf := (if_pos rfl).symm.trans hf
        refine gcatch (h1 := [(0, 7, 10, 13)]) (h2 := [(0, 7, 18, 45)]) (st := 0) (en := 7) (hd := 14) (ct := 40) (name := "java/lang/UnsupportedOperationException") hown hE (List.forall_mem_cons.mpr ⟨⟨by decide, "java/lang/IllegalArgumentException", (hts _ (.tail _ wn_5)), hN ("java/lang/UnsupportedOperationException", "java/lang/IllegalArgumentException") (by decide +kernel)⟩, (fun _ h => absurd h List.not_mem_nil)⟩) (by decide) (by decide) (hts _ (.tail _ wn_31)) (va_Nw.use rfl (hT.2.2.2.1 _ (by decide +kernel))) hce hcv hcl ?_
        refine lv_astore (lv' := [(4, .ref q9), (0, .ref (Q 0)), (1, .int p1), (2, .int p2), (3, .int p3)]) hx hb dL_shift_14 hl (by decide) rfl (fun ls hl => ?_)
        refine lv_iconst (v := 2) hx hb dL_shift_16 (by decide) ?_
        obtain rfl := Option.some.inj hf
        exact grWi hx hb hr hlocks hP hK hD hS dL_shift_17 (by omega) (by omega)
      have hf := (if_neg hc9).symm.trans hf
      rcases Decidable.em (E9 = "java/lang/IndexOutOfBoundsException") with hc9 | hc9
      · subst hc9
        have hf := (if_pos rfl).symm.trans hf
        refine gcatch (h1 := [(0, 7, 10, 13), (0, 7, 14, 40)]) (h2 := []) (st := 0) (en := 7) (hd := 18) (ct := 45) (name := "java/lang/IndexOutOfBoundsException") hown hE (List.forall_mem_cons.mpr ⟨⟨by decide, "java/lang/IllegalArgumentException", (hts _ (.tail _ wn_5)), hN ("java/lang/IndexOutOfBoundsException", "java/lang/IllegalArgumentException") (by decide +kernel)⟩, (List.forall_mem_cons.mpr ⟨⟨by decide, "java/lang/UnsupportedOperationException", (hts _ (.tail _ wn_31)), hN ("java/lang/IndexOutOfBoundsException", "java/lang/UnsupportedOperationException") (by decide +kernel)⟩, (fun _ h => absurd h List.not_mem_nil)⟩)⟩) (by decide) (by decide) (hts _ (.tail _ wn_36)) (va_Nw.use rfl (hT.2.2.2.1 _ (by decide +kernel))) hce hcv hcl ?_
        refine lv_astore (lv' := [(4, .ref q9), (0, .ref (Q 0)), (1, .int p1), (2, .int p2), (3, .int p3)]) hx hb dL_shift_18 hl (by decide) rfl (fun ls hl => ?_)
        refine lv_iconst (v := 3) hx hb dL_shift_20 (by decide) ?_
        obtain rfl := Option.some.inj hf
        exact grWi hx hb hr hlocks hP hK hD hS dL_shift_21 (by omega) (by omega)
      have hf := (if_neg hc9).symm.trans hf
      cases hf
    · exact nomatch (Prod.mk.inj (hO9.symm.trans he9)).2
  · rcases hf with ⟨s9, e9, he9, hf⟩ | ⟨s9, r9, he9, hf⟩
    · exact nomatch (Prod.mk.inj (hO9.symm.trans he9)).2
    · have hq9 := hO9.symm.trans he9
      obtain ⟨hq8, hq7⟩ := Prod.mk.inj hq9
      subst hq8
      have hq6 := Sum.inr.inj hq7
      subst hq6
      have hP : va_P G vwCl (lwd cL cZ Q b A (Lo.sh z z1)) H := hP
      have hD : va_D _ (lwd cL cZ Q b A (Lo.sh z z1)) := hD
      refine lv_goto (tgt := 22) hx hb dL_shift_7 (by decide) ?_
      refine lv_iconst (v := 0) hx hb dL_shift_22 (by decide) ?_
      obtain rfl := Option.some.inj hf
      exact grWi hx hb hr hlocks hP hK hD hS dL_shift_23 (by omega) (by omega)
set_option maxHeartbeats 4000000 in
set_option maxRecDepth 100000 in
theorem c_la_load (l : Launch) (hl0 : l.stackTraces = false) (G : va_G) (cL cZ : ClassId) (Q : Nat → Nat) (b : Nat) (A : Nat → Nat) (z : Lo) (sz : Nat) (p1 : Int32) (p2 : Int32) (p3 : Int32) (O0 : Lo × Int32) (hf : la_load z p1 p2 p3 = some O0) : Met l yL_load vL_load { frames := 11, cells := 4, slots := 24, locals := 270 } (gPn txC G vwCl (ct cL cZ) [.ref (Q 0), .int p1, .int p2, .int p3] (lwd cL cZ Q b A z) sz) (qWi G vwCl (ct cL cZ) (lwd cL cZ Q b A z) sz (lwd cL cZ Q b) O0) 4 24 (va_A (lwd cL cZ Q b A z) sz) := by
  refine gMetW (by decide) rfl (Nat.le_of_ble_eq_true rfl) ?_
  intro p e s m below meth c ls C hE hK hP hD hT hN hsz hl
  subst hsz
  obtain ⟨hx, hb, hr, hml, hown, hts, hlocks⟩ := id C
  have FX : CallFix p m c cL_load 5 s _ vL_load RL := ⟨hx, hb, hml, hown, hts⟩
  have hA : ∀ q9 : Nat, s.heap.size ≤ q9 → va_A (lwd cL cZ Q b A z) s.heap.size q9 := fun q9 h => Or.inr h
  have hS : va_S (va_A (lwd cL cZ Q b A z) s.heap.size) s.heap s.heap [] := va_S.rf
  have hl : lv_has ls 5 [(0, .ref (Q 0)), (1, .int p1), (2, .int p2), (3, .int p3)] := hl
  unfold la_load at hf
  refine lv_aload_n hx hb dL_load_0 rfl (lv_at hl 0 rfl) ?_
  refine lv_iload_n hx hb dL_load_1 rfl (lv_at hl 1 rfl) ?_
  refine lv_iload_n hx hb dL_load_2 rfl (lv_at hl 2 rfl) ?_
  refine lv_iload_n hx hb dL_load_3 rfl (lv_at hl 3 rfl) ?_
  have hP : va_P G vwCl (cw cL cZ Q A (Lo.h z) ++ [(b, .inl (cL, 1, .inr (.inl (Lo.aot z))))]) _ := hP
  have hD : va_D _ (cw cL cZ Q A (Lo.h z) ++ [(b, .inl (cL, 1, .inr (.inl (Lo.aot z))))]) := hD
  obtain ⟨O1, ho1, hf⟩ := of_hbwt hf
  refine gfXv (gVx FX [.int p1, .int p2, .int p3] (c_wh_load l hl0 G cL cZ Q A (Lo.h z) _ p1 p2 p3 _ ho1) (cwV 3 hts (gi_V wn_53 wn_54 wn_55 wn_3 wn_56) rfl rfl rfl hdV_X3_load ⟨Nat.le_of_ble_eq_true rfl, Nat.le_of_ble_eq_true rfl⟩) hK (gPl hP) (gDl hD) hT hS hA 0 rfl rfl rfl hl.1 (Nat.le_of_ble_eq_true rfl) dL_load_4 ⟨by show _ ≤ 4; omega, by show _ ≤ 24; omega⟩) hP hS hD hA (fun E9 A z1 ce q9 H locs hO9 hP hD hS hce hcv hcl => ?_) (fun o9 A z1 H locs hO9 hP hD hS => ?_)
  · rcases hf with ⟨s9, e9, he9, hf⟩ | ⟨s9, r9, he9, hf⟩
    · have hq9 := hO9.symm.trans he9
      obtain ⟨hq8, hq7⟩ := Prod.mk.inj hq9
      subst hq8
      have hq6 := Sum.inl.inj hq7
      subst hq6
      have hP : va_P G vwCl (lwd cL cZ Q b A (Lo.sh z z1)) H := hP
      have hD : va_D _ (lwd cL cZ Q b A (Lo.sh z z1)) := hD
      rcases Decidable.em (E9 = "java/lang/IllegalArgumentException") with hc9 | hc9
      · subst hc9
        have hf := (if_pos rfl).symm.trans hf
        refine gcatch (h1 := []) (h2 := [(0, 7, 14, 40), (0, 7, 18, 45)]) (st := 0) (en := 7) (hd := 10) (ct := 13) (name := "java/lang/IllegalArgumentException") hown hE (fun _ h => absurd h List.not_mem_nil) (by decide) (by decide) (hts _ (.tail _ wn_5)) (va_Nw.use rfl (hT.2.2.2.1 _ (by decide +kernel))) hce hcv hcl ?_
        refine lv_astore (lv' := [(4, .ref q9), (0, .ref (Q 0)), (1, .int p1), (2, .int p2), (3, .int p3)]) hx hb dL_load_10 hl (by decide) rfl (fun ls hl => ?_)
        refine lv_iconst (v := 1) hx hb dL_load_12 (by decide) ?_
        obtain rfl := Option.some.inj hf
        exact grWi hx hb hr hlocks hP hK hD hS dL_load_13 (by omega) (by omega)
      have hf := (if_neg hc9).symm.trans hf
      rcases Decidable.em (E9 = "java/lang/UnsupportedOperationException") with hc9 | hc9
      · subst hc9
        have hf := (if_pos rfl).symm.trans hf
        refine gcatch (h1 := [(0, 7, 10, 13)]) (h2 := [(0, 7, 18, 45)]) (st := 0) (en := 7) (hd := 14) (ct := 40) (name := "java/lang/UnsupportedOperationException") hown hE (List.forall_mem_cons.mpr ⟨⟨by decide, "java/lang/IllegalArgumentException", (hts _ (.tail _ wn_5)), hN ("java/lang/UnsupportedOperationException", "java/lang/IllegalArgumentException") (by decide +kernel)⟩, (fun _ h => absurd h List.not_mem_nil)⟩) (by decide) (by decide) (hts _ (.tail _ wn_31)) (va_Nw.use rfl (hT.2.2.2.1 _ (by decide +kernel))) hce hcv hcl ?_
        refine lv_astore (lv' := [(4, .ref q9), (0, .ref (Q 0)), (1, .int p1), (2, .int p2), (3, .int p3)]) hx hb dL_load_14 hl (by decide) rfl (fun ls hl => ?_)
        refine lv_iconst (v := 2) hx hb dL_load_16 (by decide) ?_
        obtain rfl := Option.some.inj hf
        exact grWi hx hb hr hlocks hP hK hD hS dL_load_17 (by omega) (by omega)
      have hf := (if_neg hc9).symm.trans hf
      rcases Decidable.em (E9 = "java/lang/IndexOutOfBoundsException") with hc9 | hc9
      · subst hc9
        have hf := (if_pos rfl).symm.trans hf
        refine gcatch (h1 := [(0, 7, 10, 13), (0, 7, 14, 40)]) (h2 := []) (st := 0) (en := 7) (hd := 18) (ct := 45) (name := "java/lang/IndexOutOfBoundsException") hown hE (List.forall_mem_cons.mpr ⟨⟨by decide, "java/lang/IllegalArgumentException", (hts _ (.tail _ wn_5)), hN ("java/lang/IndexOutOfBoundsException", "java/lang/IllegalArgumentException") (by decide +kernel)⟩, (List.forall_mem_cons.mpr ⟨⟨by decide, "java/lang/UnsupportedOperationException", (hts _ (.tail _ wn_31)), hN ("java/lang/IndexOutOfBoundsException", "java/lang/UnsupportedOperationException") (by decide +kernel)⟩, (fun _ h => absurd h List.not_mem_nil)⟩)⟩) (by decide) (by decide) (hts _ (.tail _ wn_36)) (va_Nw.use rfl (hT.2.2.2.1 _ (by decide +kernel))) hce hcv hcl ?_
        refine lv_astore (lv' := [(4, .ref q9), (0, .ref (Q 0)), (1, .int p1), (2, .int p2), (3, .int p3)]) hx hb dL_load_18 hl (by decide) rfl (fun ls hl => ?_)
        refine lv_iconst (v := 3) hx hb dL_load_20 (by decide) ?_
        obtain rfl := Option.some.inj hf
        exact grWi hx hb hr hlocks hP hK hD hS dL_load_21 (by omega) (by omega)
      have hf := (if_neg hc9).symm.trans hf
      cases hf
    · exact nomatch (Prod.mk.inj (hO9.symm.trans he9)).2
  · rcases hf with ⟨s9, e9, he9, hf⟩ | ⟨s9, r9, he9, hf⟩
    · exact nomatch (Prod.mk.inj (hO9.symm.trans he9)).2
    · have hq9 := hO9.symm.trans he9
      obtain ⟨hq8, hq7⟩ := Prod.mk.inj hq9
      subst hq8
      have hq6 := Sum.inr.inj hq7
      subst hq6
      have hP : va_P G vwCl (lwd cL cZ Q b A (Lo.sh z z1)) H := hP
      have hD : va_D _ (lwd cL cZ Q b A (Lo.sh z z1)) := hD
      refine lv_goto (tgt := 22) hx hb dL_load_7 (by decide) ?_
      refine lv_iconst (v := 0) hx hb dL_load_22 (by decide) ?_
      obtain rfl := Option.some.inj hf
      exact grWi hx hb hr hlocks hP hK hD hS dL_load_23 (by omega) (by omega)
set_option maxHeartbeats 4000000 in
set_option maxRecDepth 100000 in
theorem c_la_store (l : Launch) (hl0 : l.stackTraces = false) (G : va_G) (cL cZ : ClassId) (Q : Nat → Nat) (b : Nat) (A : Nat → Nat) (z : Lo) (sz : Nat) (p1 : Int32) (p2 : Int32) (p3 : Int32) (O0 : Lo × Int32) (hf : la_store z p1 p2 p3 = some O0) : Met l yL_store vL_store { frames := 11, cells := 4, slots := 24, locals := 270 } (gPn txC G vwCl (ct cL cZ) [.ref (Q 0), .int p1, .int p2, .int p3] (lwd cL cZ Q b A z) sz) (qWi G vwCl (ct cL cZ) (lwd cL cZ Q b A z) sz (lwd cL cZ Q b) O0) 4 24 (va_A (lwd cL cZ Q b A z) sz) := by
  refine gMetW (by decide) rfl (Nat.le_of_ble_eq_true rfl) ?_
  intro p e s m below meth c ls C hE hK hP hD hT hN hsz hl
  subst hsz
  obtain ⟨hx, hb, hr, hml, hown, hts, hlocks⟩ := id C
  have FX : CallFix p m c cL_store 5 s _ vL_store RL := ⟨hx, hb, hml, hown, hts⟩
  have hA : ∀ q9 : Nat, s.heap.size ≤ q9 → va_A (lwd cL cZ Q b A z) s.heap.size q9 := fun q9 h => Or.inr h
  have hS : va_S (va_A (lwd cL cZ Q b A z) s.heap.size) s.heap s.heap [] := va_S.rf
  have hl : lv_has ls 5 [(0, .ref (Q 0)), (1, .int p1), (2, .int p2), (3, .int p3)] := hl
  unfold la_store at hf
  refine lv_aload_n hx hb dL_store_0 rfl (lv_at hl 0 rfl) ?_
  refine lv_iload_n hx hb dL_store_1 rfl (lv_at hl 1 rfl) ?_
  refine lv_iload_n hx hb dL_store_2 rfl (lv_at hl 2 rfl) ?_
  refine lv_iload_n hx hb dL_store_3 rfl (lv_at hl 3 rfl) ?_
  have hP : va_P G vwCl (cw cL cZ Q A (Lo.h z) ++ [(b, .inl (cL, 1, .inr (.inl (Lo.aot z))))]) _ := hP
  have hD : va_D _ (cw cL cZ Q A (Lo.h z) ++ [(b, .inl (cL, 1, .inr (.inl (Lo.aot z))))]) := hD
  obtain ⟨O1, ho1, hf⟩ := of_hbwt hf
  refine gfXv (gVx FX [.int p1, .int p2, .int p3] (c_wh_store l hl0 G cL cZ Q A (Lo.h z) _ p1 p2 p3 _ ho1) (cwV 3 hts (gi_V wn_57 wn_58 wn_59 wn_3 wn_60) rfl rfl rfl hdV_X3_store ⟨Nat.le_of_ble_eq_true rfl, Nat.le_of_ble_eq_true rfl⟩) hK (gPl hP) (gDl hD) hT hS hA 0 rfl rfl rfl hl.1 (Nat.le_of_ble_eq_true rfl) dL_store_4 ⟨by show _ ≤ 4; omega, by show _ ≤ 24; omega⟩) hP hS hD hA (fun E9 A z1 ce q9 H locs hO9 hP hD hS hce hcv hcl => ?_) (fun o9 A z1 H locs hO9 hP hD hS => ?_)
  · rcases hf with ⟨s9, e9, he9, hf⟩ | ⟨s9, r9, he9, hf⟩
    · have hq9 := hO9.symm.trans he9
      obtain ⟨hq8, hq7⟩ := Prod.mk.inj hq9
      subst hq8
      have hq6 := Sum.inl.inj hq7
      subst hq6
      have hP : va_P G vwCl (lwd cL cZ Q b A (Lo.sh z z1)) H := hP
      have hD : va_D _ (lwd cL cZ Q b A (Lo.sh z z1)) := hD
      rcases Decidable.em (E9 = "java/lang/IllegalArgumentException") with hc9 | hc9
      · subst hc9
        have hf := (if_pos rfl).symm.trans hf
        refine gcatch (h1 := []) (h2 := [(0, 7, 14, 40), (0, 7, 18, 45)]) (st := 0) (en := 7) (hd := 10) (ct := 13) (name := "java/lang/IllegalArgumentException") hown hE (fun _ h => absurd h List.not_mem_nil) (by decide) (by decide) (hts _ (.tail _ wn_5)) (va_Nw.use rfl (hT.2.2.2.1 _ (by decide +kernel))) hce hcv hcl ?_
        refine lv_astore (lv' := [(4, .ref q9), (0, .ref (Q 0)), (1, .int p1), (2, .int p2), (3, .int p3)]) hx hb dL_store_10 hl (by decide) rfl (fun ls hl => ?_)
        refine lv_iconst (v := 1) hx hb dL_store_12 (by decide) ?_
        obtain rfl := Option.some.inj hf
        exact grWi hx hb hr hlocks hP hK hD hS dL_store_13 (by omega) (by omega)
      have hf := (if_neg hc9).symm.trans hf
      rcases Decidable.em (E9 = "java/lang/UnsupportedOperationException") with hc9 | hc9
      · subst hc9
        have hf := (if_pos rfl).symm.trans hf
        refine gcatch (h1 := [(0, 7, 10, 13)]) (h2 := [(0, 7, 18, 45)]) (st := 0) (en := 7) (hd := 14) (ct := 40) (name := "java/lang/UnsupportedOperationException") hown hE (List.forall_mem_cons.mpr ⟨⟨by decide, "java/lang/IllegalArgumentException", (hts _ (.tail _ wn_5)), hN ("java/lang/UnsupportedOperationException", "java/lang/IllegalArgumentException") (by decide +kernel)⟩, (fun _ h => absurd h List.not_mem_nil)⟩) (by decide) (by decide) (hts _ (.tail _ wn_31)) (va_Nw.use rfl (hT.2.2.2.1 _ (by decide +kernel))) hce hcv hcl ?_
        refine lv_astore (lv' := [(4, .ref q9), (0, .ref (Q 0)), (1, .int p1), (2, .int p2), (3, .int p3)]) hx hb dL_store_14 hl (by decide) rfl (fun ls hl => ?_)
        refine lv_iconst (v := 2) hx hb dL_store_16 (by decide) ?_
        obtain rfl := Option.some.inj hf
        exact grWi hx hb hr hlocks hP hK hD hS dL_store_17 (by omega) (by omega)
      have hf := (if_neg hc9).symm.trans hf
      rcases Decidable.em (E9 = "java/lang/IndexOutOfBoundsException") with hc9 | hc9
      · subst hc9
        have hf := (if_pos rfl).symm.trans hf
        refine gcatch (h1 := [(0, 7, 10, 13), (0, 7, 14, 40)]) (h2 := []) (st := 0) (en := 7) (hd := 18) (ct := 45) (name := "java/lang/IndexOutOfBoundsException") hown hE (List.forall_mem_cons.mpr ⟨⟨by decide, "java/lang/IllegalArgumentException", (hts _ (.tail _ wn_5)), hN ("java/lang/IndexOutOfBoundsException", "java/lang/IllegalArgumentException") (by decide +kernel)⟩, (List.forall_mem_cons.mpr ⟨⟨by decide, "java/lang/UnsupportedOperationException", (hts _ (.tail _ wn_31)), hN ("java/lang/IndexOutOfBoundsException", "java/lang/UnsupportedOperationException") (by decide +kernel)⟩, (fun _ h => absurd h List.not_mem_nil)⟩)⟩) (by decide) (by decide) (hts _ (.tail _ wn_36)) (va_Nw.use rfl (hT.2.2.2.1 _ (by decide +kernel))) hce hcv hcl ?_
        refine lv_astore (lv' := [(4, .ref q9), (0, .ref (Q 0)), (1, .int p1), (2, .int p2), (3, .int p3)]) hx hb dL_store_18 hl (by decide) rfl (fun ls hl => ?_)
        refine lv_iconst (v := 3) hx hb dL_store_20 (by decide) ?_
        obtain rfl := Option.some.inj hf
        exact grWi hx hb hr hlocks hP hK hD hS dL_store_21 (by omega) (by omega)
      have hf := (if_neg hc9).symm.trans hf
      cases hf
    · exact nomatch (Prod.mk.inj (hO9.symm.trans he9)).2
  · rcases hf with ⟨s9, e9, he9, hf⟩ | ⟨s9, r9, he9, hf⟩
    · exact nomatch (Prod.mk.inj (hO9.symm.trans he9)).2
    · have hq9 := hO9.symm.trans he9
      obtain ⟨hq8, hq7⟩ := Prod.mk.inj hq9
      subst hq8
      have hq6 := Sum.inr.inj hq7
      subst hq6
      have hP : va_P G vwCl (lwd cL cZ Q b A (Lo.sh z z1)) H := hP
      have hD : va_D _ (lwd cL cZ Q b A (Lo.sh z z1)) := hD
      refine lv_goto (tgt := 22) hx hb dL_store_7 (by decide) ?_
      refine lv_iconst (v := 0) hx hb dL_store_22 (by decide) ?_
      obtain rfl := Option.some.inj hf
      exact grWi hx hb hr hlocks hP hK hD hS dL_store_23 (by omega) (by omega)
set_option maxHeartbeats 4000000 in
set_option maxRecDepth 100000 in
theorem c_la_copy (l : Launch) (hl0 : l.stackTraces = false) (G : va_G) (cL cZ : ClassId) (Q : Nat → Nat) (b : Nat) (A : Nat → Nat) (z : Lo) (sz : Nat) (p1 : Int32) (p2 : Int32) (p3 : Int32) (O0 : Lo × Int32) (hf : la_copy z p1 p2 p3 = some O0) : Met l yL_copy vL_copy { frames := 10, cells := 7, slots := 42, locals := 245 } (gPn txC G vwCl (ct cL cZ) [.ref (Q 0), .int p1, .int p2, .int p3] (lwd cL cZ Q b A z) sz) (qWi G vwCl (ct cL cZ) (lwd cL cZ Q b A z) sz (lwd cL cZ Q b) O0) 7 42 (va_A (lwd cL cZ Q b A z) sz) := by
  refine gMetW (by decide) rfl (Nat.le_of_ble_eq_true rfl) ?_
  intro p e s m below meth c ls C hE hK hP hD hT hN hsz hl
  subst hsz
  obtain ⟨hx, hb, hr, hml, hown, hts, hlocks⟩ := id C
  have FX : CallFix p m c cL_copy 5 s _ vL_copy RL := ⟨hx, hb, hml, hown, hts⟩
  have hA : ∀ q9 : Nat, s.heap.size ≤ q9 → va_A (lwd cL cZ Q b A z) s.heap.size q9 := fun q9 h => Or.inr h
  have hS : va_S (va_A (lwd cL cZ Q b A z) s.heap.size) s.heap s.heap [] := va_S.rf
  have hl : lv_has ls 5 [(0, .ref (Q 0)), (1, .int p1), (2, .int p2), (3, .int p3)] := hl
  unfold la_copy at hf
  refine lv_aload_n hx hb dL_copy_0 rfl (lv_at hl 0 rfl) ?_
  refine lv_iload_n hx hb dL_copy_1 rfl (lv_at hl 1 rfl) ?_
  refine lv_iload_n hx hb dL_copy_2 rfl (lv_at hl 2 rfl) ?_
  refine lv_iload_n hx hb dL_copy_3 rfl (lv_at hl 3 rfl) ?_
  have hP : va_P G vwCl (cw cL cZ Q A (Lo.h z) ++ [(b, .inl (cL, 1, .inr (.inl (Lo.aot z))))]) _ := hP
  have hD : va_D _ (cw cL cZ Q A (Lo.h z) ++ [(b, .inl (cL, 1, .inr (.inl (Lo.aot z))))]) := hD
  obtain ⟨O1, ho1, hf⟩ := of_hbwt hf
  refine gfXv (gVx FX [.int p1, .int p2, .int p3] (c_wh_copy l hl0 G cL cZ Q A (Lo.h z) _ p1 p2 p3 _ ho1) (cwV 3 hts (gi_V wn_61 wn_62 wn_63 wn_3 wn_64) rfl rfl rfl hdV_X3_copy ⟨Nat.le_of_ble_eq_true rfl, Nat.le_of_ble_eq_true rfl⟩) hK (gPl hP) (gDl hD) hT hS hA 0 rfl rfl rfl hl.1 (Nat.le_of_ble_eq_true rfl) dL_copy_4 ⟨by show _ ≤ 7; omega, by show _ ≤ 42; omega⟩) hP hS hD hA (fun E9 A z1 ce q9 H locs hO9 hP hD hS hce hcv hcl => ?_) (fun o9 A z1 H locs hO9 hP hD hS => ?_)
  · rcases hf with ⟨s9, e9, he9, hf⟩ | ⟨s9, r9, he9, hf⟩
    · have hq9 := hO9.symm.trans he9
      obtain ⟨hq8, hq7⟩ := Prod.mk.inj hq9
      subst hq8
      have hq6 := Sum.inl.inj hq7
      subst hq6
      have hP : va_P G vwCl (lwd cL cZ Q b A (Lo.sh z z1)) H := hP
      have hD : va_D _ (lwd cL cZ Q b A (Lo.sh z z1)) := hD
      rcases Decidable.em (E9 = "java/lang/IllegalArgumentException") with hc9 | hc9
      · subst hc9
        have hf := (if_pos rfl).symm.trans hf
        refine gcatch (h1 := []) (h2 := [(0, 7, 14, 40), (0, 7, 18, 45)]) (st := 0) (en := 7) (hd := 10) (ct := 13) (name := "java/lang/IllegalArgumentException") hown hE (fun _ h => absurd h List.not_mem_nil) (by decide) (by decide) (hts _ (.tail _ wn_5)) (va_Nw.use rfl (hT.2.2.2.1 _ (by decide +kernel))) hce hcv hcl ?_
        refine lv_astore (lv' := [(4, .ref q9), (0, .ref (Q 0)), (1, .int p1), (2, .int p2), (3, .int p3)]) hx hb dL_copy_10 hl (by decide) rfl (fun ls hl => ?_)
        refine lv_iconst (v := 1) hx hb dL_copy_12 (by decide) ?_
        obtain rfl := Option.some.inj hf
        exact grWi hx hb hr hlocks hP hK hD hS dL_copy_13 (by omega) (by omega)
      have hf := (if_neg hc9).symm.trans hf
      rcases Decidable.em (E9 = "java/lang/UnsupportedOperationException") with hc9 | hc9
      · subst hc9
        have hf := (if_pos rfl).symm.trans hf
        refine gcatch (h1 := [(0, 7, 10, 13)]) (h2 := [(0, 7, 18, 45)]) (st := 0) (en := 7) (hd := 14) (ct := 40) (name := "java/lang/UnsupportedOperationException") hown hE (List.forall_mem_cons.mpr ⟨⟨by decide, "java/lang/IllegalArgumentException", (hts _ (.tail _ wn_5)), hN ("java/lang/UnsupportedOperationException", "java/lang/IllegalArgumentException") (by decide +kernel)⟩, (fun _ h => absurd h List.not_mem_nil)⟩) (by decide) (by decide) (hts _ (.tail _ wn_31)) (va_Nw.use rfl (hT.2.2.2.1 _ (by decide +kernel))) hce hcv hcl ?_
        refine lv_astore (lv' := [(4, .ref q9), (0, .ref (Q 0)), (1, .int p1), (2, .int p2), (3, .int p3)]) hx hb dL_copy_14 hl (by decide) rfl (fun ls hl => ?_)
        refine lv_iconst (v := 2) hx hb dL_copy_16 (by decide) ?_
        obtain rfl := Option.some.inj hf
        exact grWi hx hb hr hlocks hP hK hD hS dL_copy_17 (by omega) (by omega)
      have hf := (if_neg hc9).symm.trans hf
      rcases Decidable.em (E9 = "java/lang/IndexOutOfBoundsException") with hc9 | hc9
      · subst hc9
        have hf := (if_pos rfl).symm.trans hf
        refine gcatch (h1 := [(0, 7, 10, 13), (0, 7, 14, 40)]) (h2 := []) (st := 0) (en := 7) (hd := 18) (ct := 45) (name := "java/lang/IndexOutOfBoundsException") hown hE (List.forall_mem_cons.mpr ⟨⟨by decide, "java/lang/IllegalArgumentException", (hts _ (.tail _ wn_5)), hN ("java/lang/IndexOutOfBoundsException", "java/lang/IllegalArgumentException") (by decide +kernel)⟩, (List.forall_mem_cons.mpr ⟨⟨by decide, "java/lang/UnsupportedOperationException", (hts _ (.tail _ wn_31)), hN ("java/lang/IndexOutOfBoundsException", "java/lang/UnsupportedOperationException") (by decide +kernel)⟩, (fun _ h => absurd h List.not_mem_nil)⟩)⟩) (by decide) (by decide) (hts _ (.tail _ wn_36)) (va_Nw.use rfl (hT.2.2.2.1 _ (by decide +kernel))) hce hcv hcl ?_
        refine lv_astore (lv' := [(4, .ref q9), (0, .ref (Q 0)), (1, .int p1), (2, .int p2), (3, .int p3)]) hx hb dL_copy_18 hl (by decide) rfl (fun ls hl => ?_)
        refine lv_iconst (v := 3) hx hb dL_copy_20 (by decide) ?_
        obtain rfl := Option.some.inj hf
        exact grWi hx hb hr hlocks hP hK hD hS dL_copy_21 (by omega) (by omega)
      have hf := (if_neg hc9).symm.trans hf
      cases hf
    · exact nomatch (Prod.mk.inj (hO9.symm.trans he9)).2
  · rcases hf with ⟨s9, e9, he9, hf⟩ | ⟨s9, r9, he9, hf⟩
    · exact nomatch (Prod.mk.inj (hO9.symm.trans he9)).2
    · have hq9 := hO9.symm.trans he9
      obtain ⟨hq8, hq7⟩ := Prod.mk.inj hq9
      subst hq8
      have hq6 := Sum.inr.inj hq7
      subst hq6
      have hP : va_P G vwCl (lwd cL cZ Q b A (Lo.sh z z1)) H := hP
      have hD : va_D _ (lwd cL cZ Q b A (Lo.sh z z1)) := hD
      refine lv_goto (tgt := 22) hx hb dL_copy_7 (by decide) ?_
      refine lv_iconst (v := 0) hx hb dL_copy_22 (by decide) ?_
      obtain rfl := Option.some.inj hf
      exact grWi hx hb hr hlocks hP hK hD hS dL_copy_23 (by omega) (by omega)
set_option maxHeartbeats 4000000 in
set_option maxRecDepth 100000 in
theorem c_la_put (l : Launch) (hl0 : l.stackTraces = false) (G : va_G) (cL cZ : ClassId) (Q : Nat → Nat) (b : Nat) (A : Nat → Nat) (z : Lo) (sz : Nat) (p1 : Int32) (p2 : Int32) (c0 : Nat) (O0 : Lo × Int32) (hf : la_put z p1 p2 = some (c0, O0)) : Met l yL_put vL_put { frames := 12, cells := 12, slots := 42 + c0, locals := 290 } (gPn txC G vwCl (ct cL cZ) [.ref (Q 0), .int p1, .int p2, .ref b] (lwd cL cZ Q b A z) sz) (qWi G vwCl (ct cL cZ) (lwd cL cZ Q b A z) sz (lwd cL cZ Q b) O0) 12 (42 + c0) (va_A (lwd cL cZ Q b A z) sz) := by
  refine gMetW (by decide) rfl (Nat.le_of_ble_eq_true rfl) ?_
  intro p e s m below meth c ls C hE hK hP hD hT hN hsz hl
  subst hsz
  obtain ⟨hx, hb, hr, hml, hown, hts, hlocks⟩ := id C
  have FX : CallFix p m c cL_put 5 s _ vL_put RL := ⟨hx, hb, hml, hown, hts⟩
  have hA : ∀ q9 : Nat, s.heap.size ≤ q9 → va_A (lwd cL cZ Q b A z) s.heap.size q9 := fun q9 h => Or.inr h
  have hS : va_S (va_A (lwd cL cZ Q b A z) s.heap.size) s.heap s.heap [] := va_S.rf
  have hl : lv_has ls 5 [(0, .ref (Q 0)), (1, .int p1), (2, .int p2), (3, .ref b)] := hl
  unfold la_put at hf
  refine lv_aload_n hx hb dL_put_0 rfl (lv_at hl 3 rfl) ?_
  refine lv_iconst (v := 0) hx hb dL_put_1 (by decide) ?_
  refine lv_aload_n hx hb dL_put_2 rfl (lv_at hl 0 rfl) ?_
  refine lv_iload_n hx hb dL_put_3 rfl (lv_at hl 1 rfl) ?_
  refine lv_iload_n hx hb dL_put_4 rfl (lv_at hl 2 rfl) ?_
  have hP : va_P G vwCl (cw cL cZ Q A (Lo.h z) ++ [(b, .inl (cL, 1, .inr (.inl (Lo.aot z))))]) _ := hP
  have hD : va_D _ (cw cL cZ Q A (Lo.h z) ++ [(b, .inl (cL, 1, .inr (.inl (Lo.aot z))))]) := hD
  obtain ⟨k1, O1, d1, ho1, ek1, hf⟩ := of_hbcwt hf
  refine gfXi (gVx FX [.int p1, .int p2] (c_wh_put l hl0 G cL cZ Q A (Lo.h z) _ p1 p2 k1 _ ho1) (cwV 2 hts (gi_V wn_65 wn_66 wn_67 wn_3 wn_68) rfl rfl rfl hdV_X3_put ⟨Nat.le_of_ble_eq_true rfl, Nat.le_of_ble_eq_true rfl⟩) hK (gPl hP) (gDl hD) hT hS hA 0 rfl rfl rfl hl.1 (Nat.le_of_ble_eq_true rfl) dL_put_5 ⟨by show _ ≤ 12; omega, by show _ ≤ 42 + c0; omega⟩) hP hS hD hA (fun E9 A z1 ce q9 H locs hO9 hP hD hS hce hcv hcl => ?_) (fun r1 A z1 H locs hO9 hP hD hS => ?_)
  · rcases hf with ⟨s9, e9, he9, hf⟩ | ⟨s9, r9, he9, hf⟩
    · have hq9 := hO9.symm.trans he9
      obtain ⟨hq8, hq7⟩ := Prod.mk.inj hq9
      subst hq8
      have hq6 := Sum.inl.inj hq7
      subst hq6
      have hP : va_P G vwCl (lwd cL cZ Q b A (Lo.sh z z1)) H := hP
      have hD : va_D _ (lwd cL cZ Q b A (Lo.sh z z1)) := hD
      rcases Decidable.em (E9 = "java/lang/IllegalArgumentException") with hc9 | hc9
      · subst hc9
        have hf := (if_pos rfl).symm.trans hf
        refine gcatch (h1 := []) (h2 := [(0, 10, 17, 40), (0, 10, 21, 45), (0, 10, 25, 27)]) (st := 0) (en := 10) (hd := 13) (ct := 13) (name := "java/lang/IllegalArgumentException") hown hE (fun _ h => absurd h List.not_mem_nil) (by decide) (by decide) (hts _ (.tail _ wn_5)) (va_Nw.use rfl (hT.2.2.2.1 _ (by decide +kernel))) hce hcv hcl ?_
        refine lv_astore (lv' := [(4, .ref q9), (0, .ref (Q 0)), (1, .int p1), (2, .int p2), (3, .ref b)]) hx hb dL_put_13 hl (by decide) rfl (fun ls hl => ?_)
        refine lv_iconst (v := 1) hx hb dL_put_15 (by decide) ?_
        obtain ⟨hc0, hj0⟩ := of_some2 hf
        subst hj0
        exact grWi hx hb hr hlocks hP hK hD hS dL_put_16 (by omega) (by omega)
      have hf := (if_neg hc9).symm.trans hf
      rcases Decidable.em (E9 = "java/lang/UnsupportedOperationException") with hc9 | hc9
      · subst hc9
        have hf := (if_pos rfl).symm.trans hf
        refine gcatch (h1 := [(0, 10, 13, 13)]) (h2 := [(0, 10, 21, 45), (0, 10, 25, 27)]) (st := 0) (en := 10) (hd := 17) (ct := 40) (name := "java/lang/UnsupportedOperationException") hown hE (List.forall_mem_cons.mpr ⟨⟨by decide, "java/lang/IllegalArgumentException", (hts _ (.tail _ wn_5)), hN ("java/lang/UnsupportedOperationException", "java/lang/IllegalArgumentException") (by decide +kernel)⟩, (fun _ h => absurd h List.not_mem_nil)⟩) (by decide) (by decide) (hts _ (.tail _ wn_31)) (va_Nw.use rfl (hT.2.2.2.1 _ (by decide +kernel))) hce hcv hcl ?_
        refine lv_astore (lv' := [(4, .ref q9), (0, .ref (Q 0)), (1, .int p1), (2, .int p2), (3, .ref b)]) hx hb dL_put_17 hl (by decide) rfl (fun ls hl => ?_)
        refine lv_iconst (v := 2) hx hb dL_put_19 (by decide) ?_
        obtain ⟨hc0, hj0⟩ := of_some2 hf
        subst hj0
        exact grWi hx hb hr hlocks hP hK hD hS dL_put_20 (by omega) (by omega)
      have hf := (if_neg hc9).symm.trans hf
      rcases Decidable.em (E9 = "java/lang/IndexOutOfBoundsException") with hc9 | hc9
      · subst hc9
        have hf := (if_pos rfl).symm.trans hf
        refine gcatch (h1 := [(0, 10, 13, 13), (0, 10, 17, 40)]) (h2 := [(0, 10, 25, 27)]) (st := 0) (en := 10) (hd := 21) (ct := 45) (name := "java/lang/IndexOutOfBoundsException") hown hE (List.forall_mem_cons.mpr ⟨⟨by decide, "java/lang/IllegalArgumentException", (hts _ (.tail _ wn_5)), hN ("java/lang/IndexOutOfBoundsException", "java/lang/IllegalArgumentException") (by decide +kernel)⟩, (List.forall_mem_cons.mpr ⟨⟨by decide, "java/lang/UnsupportedOperationException", (hts _ (.tail _ wn_31)), hN ("java/lang/IndexOutOfBoundsException", "java/lang/UnsupportedOperationException") (by decide +kernel)⟩, (fun _ h => absurd h List.not_mem_nil)⟩)⟩) (by decide) (by decide) (hts _ (.tail _ wn_36)) (va_Nw.use rfl (hT.2.2.2.1 _ (by decide +kernel))) hce hcv hcl ?_
        refine lv_astore (lv' := [(4, .ref q9), (0, .ref (Q 0)), (1, .int p1), (2, .int p2), (3, .ref b)]) hx hb dL_put_21 hl (by decide) rfl (fun ls hl => ?_)
        refine lv_iconst (v := 3) hx hb dL_put_23 (by decide) ?_
        obtain ⟨hc0, hj0⟩ := of_some2 hf
        subst hj0
        exact grWi hx hb hr hlocks hP hK hD hS dL_put_24 (by omega) (by omega)
      have hf := (if_neg hc9).symm.trans hf
      rcases Decidable.em (E9 = "java/lang/IllegalStateException") with hc9 | hc9
      · subst hc9
        have hf := (if_pos rfl).symm.trans hf
        refine gcatch (h1 := [(0, 10, 13, 13), (0, 10, 17, 40), (0, 10, 21, 45)]) (h2 := []) (st := 0) (en := 10) (hd := 25) (ct := 27) (name := "java/lang/IllegalStateException") hown hE (List.forall_mem_cons.mpr ⟨⟨by decide, "java/lang/IllegalArgumentException", (hts _ (.tail _ wn_5)), hN ("java/lang/IllegalStateException", "java/lang/IllegalArgumentException") (by decide +kernel)⟩, (List.forall_mem_cons.mpr ⟨⟨by decide, "java/lang/UnsupportedOperationException", (hts _ (.tail _ wn_31)), hN ("java/lang/IllegalStateException", "java/lang/UnsupportedOperationException") (by decide +kernel)⟩, (List.forall_mem_cons.mpr ⟨⟨by decide, "java/lang/IndexOutOfBoundsException", (hts _ (.tail _ wn_36)), hN ("java/lang/IllegalStateException", "java/lang/IndexOutOfBoundsException") (by decide +kernel)⟩, (fun _ h => absurd h List.not_mem_nil)⟩)⟩)⟩) (by decide) (by decide) (hts _ (.tail _ wn_18)) (va_Nw.use rfl (hT.2.2.2.1 _ (by decide +kernel))) hce hcv hcl ?_
        refine lv_astore (lv' := [(4, .ref q9), (0, .ref (Q 0)), (1, .int p1), (2, .int p2), (3, .ref b)]) hx hb dL_put_25 hl (by decide) rfl (fun ls hl => ?_)
        refine lv_iconst (v := 4) hx hb dL_put_27 (by decide) ?_
        obtain ⟨hc0, hj0⟩ := of_some2 hf
        subst hj0
        exact grWi hx hb hr hlocks hP hK hD hS dL_put_28 (by omega) (by omega)
      have hf := (if_neg hc9).symm.trans hf
      cases hf
    · exact nomatch (Prod.mk.inj (hO9.symm.trans he9)).2
  · rcases hf with ⟨s9, e9, he9, hf⟩ | ⟨s9, r9, he9, hf⟩
    · exact nomatch (Prod.mk.inj (hO9.symm.trans he9)).2
    · have hq9 := hO9.symm.trans he9
      obtain ⟨hq8, hq7⟩ := Prod.mk.inj hq9
      subst hq8
      have hq6 := Sum.inr.inj hq7
      subst hq6
      have hP : va_P G vwCl (lwd cL cZ Q b A (Lo.sh z z1)) H := hP
      have hD : va_D _ (lwd cL cZ Q b A (Lo.sh z z1)) := hD
      refine lv_i2l hx hb dL_put_8 rfl ?_
      obtain ⟨hg2, hf⟩ := of_gd hf
      refine va_last (f := (Lo.aot z)) (n := 1) hx hb hK hP hD hS 9 0 rfl rfl (inb_in hg2) dL_put_9 (fun H locs hP hD hS => ?_)
      have hP : va_P G vwCl (lwd cL cZ Q b A (Lo.wot (Lo.sh z z1) (vp_updL (Lo.aot z) ((0 : Int32).toNatClampNeg) (r1.toInt64)))) H := hP
      have hD : va_D _ (lwd cL cZ Q b A (Lo.wot (Lo.sh z z1) (vp_updL (Lo.aot z) ((0 : Int32).toNatClampNeg) (r1.toInt64)))) := hD
      refine lv_goto (tgt := 29) hx hb dL_put_10 (by decide) ?_
      refine lv_iconst (v := 0) hx hb dL_put_29 (by decide) ?_
      obtain ⟨hc0, hj0⟩ := of_some2 hf
      subst hj0
      exact grWi hx hb hr hlocks hP hK hD hS dL_put_30 (by omega) (by omega)
set_option maxHeartbeats 4000000 in
set_option maxRecDepth 100000 in
theorem c_la_get (l : Launch) (hl0 : l.stackTraces = false) (G : va_G) (cL cZ : ClassId) (Q : Nat → Nat) (b : Nat) (A : Nat → Nat) (z : Lo) (sz : Nat) (p1 : Int32) (p2 : Int32) (O0 : Lo × Int32) (hf : la_get z p1 p2 = some O0) : Met l yL_get vL_get { frames := 11, cells := 6, slots := 36, locals := 267 } (gPn txC G vwCl (ct cL cZ) [.ref (Q 0), .int p1, .int p2, .ref b] (lwd cL cZ Q b A z) sz) (qWi G vwCl (ct cL cZ) (lwd cL cZ Q b A z) sz (lwd cL cZ Q b) O0) 6 36 (va_A (lwd cL cZ Q b A z) sz) := by
  refine gMetW (by decide) rfl (Nat.le_of_ble_eq_true rfl) ?_
  intro p e s m below meth c ls C hE hK hP hD hT hN hsz hl
  subst hsz
  obtain ⟨hx, hb, hr, hml, hown, hts, hlocks⟩ := id C
  have FX : CallFix p m c cL_get 5 s _ vL_get RL := ⟨hx, hb, hml, hown, hts⟩
  have hA : ∀ q9 : Nat, s.heap.size ≤ q9 → va_A (lwd cL cZ Q b A z) s.heap.size q9 := fun q9 h => Or.inr h
  have hS : va_S (va_A (lwd cL cZ Q b A z) s.heap.size) s.heap s.heap [] := va_S.rf
  have hl : lv_has ls 5 [(0, .ref (Q 0)), (1, .int p1), (2, .int p2), (3, .ref b)] := hl
  unfold la_get at hf
  refine lv_aload_n hx hb dL_get_0 rfl (lv_at hl 3 rfl) ?_
  refine lv_iconst (v := 0) hx hb dL_get_1 (by decide) ?_
  refine lv_aload_n hx hb dL_get_2 rfl (lv_at hl 0 rfl) ?_
  refine lv_iload_n hx hb dL_get_3 rfl (lv_at hl 1 rfl) ?_
  refine lv_iload_n hx hb dL_get_4 rfl (lv_at hl 2 rfl) ?_
  have hP : va_P G vwCl (cw cL cZ Q A (Lo.h z) ++ [(b, .inl (cL, 1, .inr (.inl (Lo.aot z))))]) _ := hP
  have hD : va_D _ (cw cL cZ Q A (Lo.h z) ++ [(b, .inl (cL, 1, .inr (.inl (Lo.aot z))))]) := hD
  obtain ⟨O1, ho1, hf⟩ := of_hbwt hf
  refine gfXi (gVx FX [.int p1, .int p2] (c_wh_get l hl0 G cL cZ Q A (Lo.h z) _ p1 p2 _ ho1) (cwV 2 hts (gi_V wn_69 wn_70 wn_71 wn_3 wn_72) rfl rfl rfl hdV_X3_get ⟨Nat.le_of_ble_eq_true rfl, Nat.le_of_ble_eq_true rfl⟩) hK (gPl hP) (gDl hD) hT hS hA 0 rfl rfl rfl hl.1 (Nat.le_of_ble_eq_true rfl) dL_get_5 ⟨by show _ ≤ 6; omega, by show _ ≤ 36; omega⟩) hP hS hD hA (fun E9 A z1 ce q9 H locs hO9 hP hD hS hce hcv hcl => ?_) (fun r1 A z1 H locs hO9 hP hD hS => ?_)
  · rcases hf with ⟨s9, e9, he9, hf⟩ | ⟨s9, r9, he9, hf⟩
    · have hq9 := hO9.symm.trans he9
      obtain ⟨hq8, hq7⟩ := Prod.mk.inj hq9
      subst hq8
      have hq6 := Sum.inl.inj hq7
      subst hq6
      have hP : va_P G vwCl (lwd cL cZ Q b A (Lo.sh z z1)) H := hP
      have hD : va_D _ (lwd cL cZ Q b A (Lo.sh z z1)) := hD
      rcases Decidable.em (E9 = "java/lang/IllegalArgumentException") with hc9 | hc9
      · subst hc9
        have hf := (if_pos rfl).symm.trans hf
        refine gcatch (h1 := []) (h2 := [(0, 10, 17, 40), (0, 10, 21, 45)]) (st := 0) (en := 10) (hd := 13) (ct := 13) (name := "java/lang/IllegalArgumentException") hown hE (fun _ h => absurd h List.not_mem_nil) (by decide) (by decide) (hts _ (.tail _ wn_5)) (va_Nw.use rfl (hT.2.2.2.1 _ (by decide +kernel))) hce hcv hcl ?_
        refine lv_astore (lv' := [(4, .ref q9), (0, .ref (Q 0)), (1, .int p1), (2, .int p2), (3, .ref b)]) hx hb dL_get_13 hl (by decide) rfl (fun ls hl => ?_)
        refine lv_iconst (v := 1) hx hb dL_get_15 (by decide) ?_
        obtain rfl := Option.some.inj hf
        exact grWi hx hb hr hlocks hP hK hD hS dL_get_16 (by omega) (by omega)
      have hf := (if_neg hc9).symm.trans hf
      rcases Decidable.em (E9 = "java/lang/UnsupportedOperationException") with hc9 | hc9
      · subst hc9
        have hf := (if_pos rfl).symm.trans hf
        refine gcatch (h1 := [(0, 10, 13, 13)]) (h2 := [(0, 10, 21, 45)]) (st := 0) (en := 10) (hd := 17) (ct := 40) (name := "java/lang/UnsupportedOperationException") hown hE (List.forall_mem_cons.mpr ⟨⟨by decide, "java/lang/IllegalArgumentException", (hts _ (.tail _ wn_5)), hN ("java/lang/UnsupportedOperationException", "java/lang/IllegalArgumentException") (by decide +kernel)⟩, (fun _ h => absurd h List.not_mem_nil)⟩) (by decide) (by decide) (hts _ (.tail _ wn_31)) (va_Nw.use rfl (hT.2.2.2.1 _ (by decide +kernel))) hce hcv hcl ?_
        refine lv_astore (lv' := [(4, .ref q9), (0, .ref (Q 0)), (1, .int p1), (2, .int p2), (3, .ref b)]) hx hb dL_get_17 hl (by decide) rfl (fun ls hl => ?_)
        refine lv_iconst (v := 2) hx hb dL_get_19 (by decide) ?_
        obtain rfl := Option.some.inj hf
        exact grWi hx hb hr hlocks hP hK hD hS dL_get_20 (by omega) (by omega)
      have hf := (if_neg hc9).symm.trans hf
      rcases Decidable.em (E9 = "java/lang/IndexOutOfBoundsException") with hc9 | hc9
      · subst hc9
        have hf := (if_pos rfl).symm.trans hf
        refine gcatch (h1 := [(0, 10, 13, 13), (0, 10, 17, 40)]) (h2 := []) (st := 0) (en := 10) (hd := 21) (ct := 45) (name := "java/lang/IndexOutOfBoundsException") hown hE (List.forall_mem_cons.mpr ⟨⟨by decide, "java/lang/IllegalArgumentException", (hts _ (.tail _ wn_5)), hN ("java/lang/IndexOutOfBoundsException", "java/lang/IllegalArgumentException") (by decide +kernel)⟩, (List.forall_mem_cons.mpr ⟨⟨by decide, "java/lang/UnsupportedOperationException", (hts _ (.tail _ wn_31)), hN ("java/lang/IndexOutOfBoundsException", "java/lang/UnsupportedOperationException") (by decide +kernel)⟩, (fun _ h => absurd h List.not_mem_nil)⟩)⟩) (by decide) (by decide) (hts _ (.tail _ wn_36)) (va_Nw.use rfl (hT.2.2.2.1 _ (by decide +kernel))) hce hcv hcl ?_
        refine lv_astore (lv' := [(4, .ref q9), (0, .ref (Q 0)), (1, .int p1), (2, .int p2), (3, .ref b)]) hx hb dL_get_21 hl (by decide) rfl (fun ls hl => ?_)
        refine lv_iconst (v := 3) hx hb dL_get_23 (by decide) ?_
        obtain rfl := Option.some.inj hf
        exact grWi hx hb hr hlocks hP hK hD hS dL_get_24 (by omega) (by omega)
      have hf := (if_neg hc9).symm.trans hf
      cases hf
    · exact nomatch (Prod.mk.inj (hO9.symm.trans he9)).2
  · rcases hf with ⟨s9, e9, he9, hf⟩ | ⟨s9, r9, he9, hf⟩
    · exact nomatch (Prod.mk.inj (hO9.symm.trans he9)).2
    · have hq9 := hO9.symm.trans he9
      obtain ⟨hq8, hq7⟩ := Prod.mk.inj hq9
      subst hq8
      have hq6 := Sum.inr.inj hq7
      subst hq6
      have hP : va_P G vwCl (lwd cL cZ Q b A (Lo.sh z z1)) H := hP
      have hD : va_D _ (lwd cL cZ Q b A (Lo.sh z z1)) := hD
      refine lv_i2l hx hb dL_get_8 rfl ?_
      obtain ⟨hg2, hf⟩ := of_gd hf
      refine va_last (f := (Lo.aot z)) (n := 1) hx hb hK hP hD hS 9 0 rfl rfl (inb_in hg2) dL_get_9 (fun H locs hP hD hS => ?_)
      have hP : va_P G vwCl (lwd cL cZ Q b A (Lo.wot (Lo.sh z z1) (vp_updL (Lo.aot z) ((0 : Int32).toNatClampNeg) (r1.toInt64)))) H := hP
      have hD : va_D _ (lwd cL cZ Q b A (Lo.wot (Lo.sh z z1) (vp_updL (Lo.aot z) ((0 : Int32).toNatClampNeg) (r1.toInt64)))) := hD
      refine lv_goto (tgt := 25) hx hb dL_get_10 (by decide) ?_
      refine lv_iconst (v := 0) hx hb dL_get_25 (by decide) ?_
      obtain rfl := Option.some.inj hf
      exact grWi hx hb hr hlocks hP hK hD hS dL_get_26 (by omega) (by omega)
set_option maxHeartbeats 4000000 in
set_option maxRecDepth 100000 in
theorem c_la_remove (l : Launch) (hl0 : l.stackTraces = false) (G : va_G) (cL cZ : ClassId) (Q : Nat → Nat) (b : Nat) (A : Nat → Nat) (z : Lo) (sz : Nat) (p1 : Int32) (p2 : Int32) (O0 : Lo × Int32) (hf : la_remove z p1 p2 = some O0) : Met l yL_remove vL_remove { frames := 11, cells := 6, slots := 36, locals := 267 } (gPn txC G vwCl (ct cL cZ) [.ref (Q 0), .int p1, .int p2, .ref b] (lwd cL cZ Q b A z) sz) (qWi G vwCl (ct cL cZ) (lwd cL cZ Q b A z) sz (lwd cL cZ Q b) O0) 6 36 (va_A (lwd cL cZ Q b A z) sz) := by
  refine gMetW (by decide) rfl (Nat.le_of_ble_eq_true rfl) ?_
  intro p e s m below meth c ls C hE hK hP hD hT hN hsz hl
  subst hsz
  obtain ⟨hx, hb, hr, hml, hown, hts, hlocks⟩ := id C
  have FX : CallFix p m c cL_remove 5 s _ vL_remove RL := ⟨hx, hb, hml, hown, hts⟩
  have hA : ∀ q9 : Nat, s.heap.size ≤ q9 → va_A (lwd cL cZ Q b A z) s.heap.size q9 := fun q9 h => Or.inr h
  have hS : va_S (va_A (lwd cL cZ Q b A z) s.heap.size) s.heap s.heap [] := va_S.rf
  have hl : lv_has ls 5 [(0, .ref (Q 0)), (1, .int p1), (2, .int p2), (3, .ref b)] := hl
  unfold la_remove at hf
  refine lv_aload_n hx hb dL_remove_0 rfl (lv_at hl 3 rfl) ?_
  refine lv_iconst (v := 0) hx hb dL_remove_1 (by decide) ?_
  refine lv_aload_n hx hb dL_remove_2 rfl (lv_at hl 0 rfl) ?_
  refine lv_iload_n hx hb dL_remove_3 rfl (lv_at hl 1 rfl) ?_
  refine lv_iload_n hx hb dL_remove_4 rfl (lv_at hl 2 rfl) ?_
  have hP : va_P G vwCl (cw cL cZ Q A (Lo.h z) ++ [(b, .inl (cL, 1, .inr (.inl (Lo.aot z))))]) _ := hP
  have hD : va_D _ (cw cL cZ Q A (Lo.h z) ++ [(b, .inl (cL, 1, .inr (.inl (Lo.aot z))))]) := hD
  obtain ⟨O1, ho1, hf⟩ := of_hbwt hf
  refine gfXi (gVx FX [.int p1, .int p2] (c_wh_remove l hl0 G cL cZ Q A (Lo.h z) _ p1 p2 _ ho1) (cwV 2 hts (gi_V wn_73 wn_74 wn_75 wn_3 wn_76) rfl rfl rfl hdV_X3_remove ⟨Nat.le_of_ble_eq_true rfl, Nat.le_of_ble_eq_true rfl⟩) hK (gPl hP) (gDl hD) hT hS hA 0 rfl rfl rfl hl.1 (Nat.le_of_ble_eq_true rfl) dL_remove_5 ⟨by show _ ≤ 6; omega, by show _ ≤ 36; omega⟩) hP hS hD hA (fun E9 A z1 ce q9 H locs hO9 hP hD hS hce hcv hcl => ?_) (fun r1 A z1 H locs hO9 hP hD hS => ?_)
  · rcases hf with ⟨s9, e9, he9, hf⟩ | ⟨s9, r9, he9, hf⟩
    · have hq9 := hO9.symm.trans he9
      obtain ⟨hq8, hq7⟩ := Prod.mk.inj hq9
      subst hq8
      have hq6 := Sum.inl.inj hq7
      subst hq6
      have hP : va_P G vwCl (lwd cL cZ Q b A (Lo.sh z z1)) H := hP
      have hD : va_D _ (lwd cL cZ Q b A (Lo.sh z z1)) := hD
      rcases Decidable.em (E9 = "java/lang/IllegalArgumentException") with hc9 | hc9
      · subst hc9
        have hf := (if_pos rfl).symm.trans hf
        refine gcatch (h1 := []) (h2 := [(0, 10, 17, 40), (0, 10, 21, 45)]) (st := 0) (en := 10) (hd := 13) (ct := 13) (name := "java/lang/IllegalArgumentException") hown hE (fun _ h => absurd h List.not_mem_nil) (by decide) (by decide) (hts _ (.tail _ wn_5)) (va_Nw.use rfl (hT.2.2.2.1 _ (by decide +kernel))) hce hcv hcl ?_
        refine lv_astore (lv' := [(4, .ref q9), (0, .ref (Q 0)), (1, .int p1), (2, .int p2), (3, .ref b)]) hx hb dL_remove_13 hl (by decide) rfl (fun ls hl => ?_)
        refine lv_iconst (v := 1) hx hb dL_remove_15 (by decide) ?_
        obtain rfl := Option.some.inj hf
        exact grWi hx hb hr hlocks hP hK hD hS dL_remove_16 (by omega) (by omega)
      have hf := (if_neg hc9).symm.trans hf
      rcases Decidable.em (E9 = "java/lang/UnsupportedOperationException") with hc9 | hc9
      · subst hc9
        have hf := (if_pos rfl).symm.trans hf
        refine gcatch (h1 := [(0, 10, 13, 13)]) (h2 := [(0, 10, 21, 45)]) (st := 0) (en := 10) (hd := 17) (ct := 40) (name := "java/lang/UnsupportedOperationException") hown hE (List.forall_mem_cons.mpr ⟨⟨by decide, "java/lang/IllegalArgumentException", (hts _ (.tail _ wn_5)), hN ("java/lang/UnsupportedOperationException", "java/lang/IllegalArgumentException") (by decide +kernel)⟩, (fun _ h => absurd h List.not_mem_nil)⟩) (by decide) (by decide) (hts _ (.tail _ wn_31)) (va_Nw.use rfl (hT.2.2.2.1 _ (by decide +kernel))) hce hcv hcl ?_
        refine lv_astore (lv' := [(4, .ref q9), (0, .ref (Q 0)), (1, .int p1), (2, .int p2), (3, .ref b)]) hx hb dL_remove_17 hl (by decide) rfl (fun ls hl => ?_)
        refine lv_iconst (v := 2) hx hb dL_remove_19 (by decide) ?_
        obtain rfl := Option.some.inj hf
        exact grWi hx hb hr hlocks hP hK hD hS dL_remove_20 (by omega) (by omega)
      have hf := (if_neg hc9).symm.trans hf
      rcases Decidable.em (E9 = "java/lang/IndexOutOfBoundsException") with hc9 | hc9
      · subst hc9
        have hf := (if_pos rfl).symm.trans hf
        refine gcatch (h1 := [(0, 10, 13, 13), (0, 10, 17, 40)]) (h2 := []) (st := 0) (en := 10) (hd := 21) (ct := 45) (name := "java/lang/IndexOutOfBoundsException") hown hE (List.forall_mem_cons.mpr ⟨⟨by decide, "java/lang/IllegalArgumentException", (hts _ (.tail _ wn_5)), hN ("java/lang/IndexOutOfBoundsException", "java/lang/IllegalArgumentException") (by decide +kernel)⟩, (List.forall_mem_cons.mpr ⟨⟨by decide, "java/lang/UnsupportedOperationException", (hts _ (.tail _ wn_31)), hN ("java/lang/IndexOutOfBoundsException", "java/lang/UnsupportedOperationException") (by decide +kernel)⟩, (fun _ h => absurd h List.not_mem_nil)⟩)⟩) (by decide) (by decide) (hts _ (.tail _ wn_36)) (va_Nw.use rfl (hT.2.2.2.1 _ (by decide +kernel))) hce hcv hcl ?_
        refine lv_astore (lv' := [(4, .ref q9), (0, .ref (Q 0)), (1, .int p1), (2, .int p2), (3, .ref b)]) hx hb dL_remove_21 hl (by decide) rfl (fun ls hl => ?_)
        refine lv_iconst (v := 3) hx hb dL_remove_23 (by decide) ?_
        obtain rfl := Option.some.inj hf
        exact grWi hx hb hr hlocks hP hK hD hS dL_remove_24 (by omega) (by omega)
      have hf := (if_neg hc9).symm.trans hf
      cases hf
    · exact nomatch (Prod.mk.inj (hO9.symm.trans he9)).2
  · rcases hf with ⟨s9, e9, he9, hf⟩ | ⟨s9, r9, he9, hf⟩
    · exact nomatch (Prod.mk.inj (hO9.symm.trans he9)).2
    · have hq9 := hO9.symm.trans he9
      obtain ⟨hq8, hq7⟩ := Prod.mk.inj hq9
      subst hq8
      have hq6 := Sum.inr.inj hq7
      subst hq6
      have hP : va_P G vwCl (lwd cL cZ Q b A (Lo.sh z z1)) H := hP
      have hD : va_D _ (lwd cL cZ Q b A (Lo.sh z z1)) := hD
      refine lv_i2l hx hb dL_remove_8 rfl ?_
      obtain ⟨hg2, hf⟩ := of_gd hf
      refine va_last (f := (Lo.aot z)) (n := 1) hx hb hK hP hD hS 9 0 rfl rfl (inb_in hg2) dL_remove_9 (fun H locs hP hD hS => ?_)
      have hP : va_P G vwCl (lwd cL cZ Q b A (Lo.wot (Lo.sh z z1) (vp_updL (Lo.aot z) ((0 : Int32).toNatClampNeg) (r1.toInt64)))) H := hP
      have hD : va_D _ (lwd cL cZ Q b A (Lo.wot (Lo.sh z z1) (vp_updL (Lo.aot z) ((0 : Int32).toNatClampNeg) (r1.toInt64)))) := hD
      refine lv_goto (tgt := 25) hx hb dL_remove_10 (by decide) ?_
      refine lv_iconst (v := 0) hx hb dL_remove_25 (by decide) ?_
      obtain rfl := Option.some.inj hf
      exact grWi hx hb hr hlocks hP hK hD hS dL_remove_26 (by omega) (by omega)
set_option maxHeartbeats 4000000 in
set_option maxRecDepth 100000 in
theorem c_la_next (l : Launch) (hl0 : l.stackTraces = false) (G : va_G) (cL cZ : ClassId) (Q : Nat → Nat) (b : Nat) (A : Nat → Nat) (z : Lo) (sz : Nat) (p1 : Int32) (p2 : Int32) (O0 : Lo × Int32) (hf : la_next z p1 p2 = some O0) : Met l yL_next vL_next { frames := 10, cells := 2, slots := 12, locals := 244 } (gPn txC G vwCl (ct cL cZ) [.ref (Q 0), .int p1, .int p2, .ref b] (lwd cL cZ Q b A z) sz) (qWi G vwCl (ct cL cZ) (lwd cL cZ Q b A z) sz (lwd cL cZ Q b) O0) 2 12 (va_A (lwd cL cZ Q b A z) sz) := by
  refine gMetW (by decide) rfl (Nat.le_of_ble_eq_true rfl) ?_
  intro p e s m below meth c ls C hE hK hP hD hT hN hsz hl
  subst hsz
  obtain ⟨hx, hb, hr, hml, hown, hts, hlocks⟩ := id C
  have FX : CallFix p m c cL_next 5 s _ vL_next RL := ⟨hx, hb, hml, hown, hts⟩
  have hA : ∀ q9 : Nat, s.heap.size ≤ q9 → va_A (lwd cL cZ Q b A z) s.heap.size q9 := fun q9 h => Or.inr h
  have hS : va_S (va_A (lwd cL cZ Q b A z) s.heap.size) s.heap s.heap [] := va_S.rf
  have hl : lv_has ls 5 [(0, .ref (Q 0)), (1, .int p1), (2, .int p2), (3, .ref b)] := hl
  unfold la_next at hf
  refine lv_aload_n hx hb dL_next_0 rfl (lv_at hl 3 rfl) ?_
  refine lv_iconst (v := 0) hx hb dL_next_1 (by decide) ?_
  refine lv_aload_n hx hb dL_next_2 rfl (lv_at hl 0 rfl) ?_
  refine lv_iload_n hx hb dL_next_3 rfl (lv_at hl 1 rfl) ?_
  refine lv_iload_n hx hb dL_next_4 rfl (lv_at hl 2 rfl) ?_
  have hP : va_P G vwCl (cw cL cZ Q A (Lo.h z) ++ [(b, .inl (cL, 1, .inr (.inl (Lo.aot z))))]) _ := hP
  have hD : va_D _ (cw cL cZ Q A (Lo.h z) ++ [(b, .inl (cL, 1, .inr (.inl (Lo.aot z))))]) := hD
  obtain ⟨O1, ho1, hf⟩ := of_hbt hf
  refine gfTi (gVx FX [.int p1, .int p2] (c_wh_next l hl0 G cL cZ Q A (Lo.h z) _ p1 p2 _ ho1) (cwV 2 hts (gi_V wn_77 wn_78 wn_79 wn_3 wn_80) rfl rfl rfl hdV_X3_next ⟨Nat.le_of_ble_eq_true rfl, Nat.le_of_ble_eq_true rfl⟩) hK (gPl hP) (gDl hD) hT hS hA 0 rfl rfl rfl hl.1 (Nat.le_of_ble_eq_true rfl) dL_next_5 ⟨by show _ ≤ 2; omega, by show _ ≤ 12; omega⟩) hP hS hD hA (fun E9 ce q9 H locs hO9 hP hS hce hcv hcl => ?_) (fun r1 H locs hO9 hP hS => ?_)
  · rcases hf with ⟨e9, he9, hf⟩ | ⟨r9, he9, hf⟩
    · have hq6 := Sum.inl.inj (hO9.symm.trans he9)
      subst hq6
      have hP : va_P G vwCl (lwd cL cZ Q b A z) H := hP
      rcases Decidable.em (E9 = "java/lang/IllegalArgumentException") with hc9 | hc9
      · subst hc9
        have hf := (if_pos rfl).symm.trans hf
        refine gcatch (h1 := []) (h2 := [(0, 10, 17, 40)]) (st := 0) (en := 10) (hd := 13) (ct := 13) (name := "java/lang/IllegalArgumentException") hown hE (fun _ h => absurd h List.not_mem_nil) (by decide) (by decide) (hts _ (.tail _ wn_5)) (va_Nw.use rfl (hT.2.2.2.1 _ (by decide +kernel))) hce hcv hcl ?_
        refine lv_astore (lv' := [(4, .ref q9), (0, .ref (Q 0)), (1, .int p1), (2, .int p2), (3, .ref b)]) hx hb dL_next_13 hl (by decide) rfl (fun ls hl => ?_)
        refine lv_iconst (v := 1) hx hb dL_next_15 (by decide) ?_
        obtain rfl := Option.some.inj hf
        exact grWi hx hb hr hlocks hP hK hD hS dL_next_16 (by omega) (by omega)
      have hf := (if_neg hc9).symm.trans hf
      rcases Decidable.em (E9 = "java/lang/UnsupportedOperationException") with hc9 | hc9
      · subst hc9
        have hf := (if_pos rfl).symm.trans hf
        refine gcatch (h1 := [(0, 10, 13, 13)]) (h2 := []) (st := 0) (en := 10) (hd := 17) (ct := 40) (name := "java/lang/UnsupportedOperationException") hown hE (List.forall_mem_cons.mpr ⟨⟨by decide, "java/lang/IllegalArgumentException", (hts _ (.tail _ wn_5)), hN ("java/lang/UnsupportedOperationException", "java/lang/IllegalArgumentException") (by decide +kernel)⟩, (fun _ h => absurd h List.not_mem_nil)⟩) (by decide) (by decide) (hts _ (.tail _ wn_31)) (va_Nw.use rfl (hT.2.2.2.1 _ (by decide +kernel))) hce hcv hcl ?_
        refine lv_astore (lv' := [(4, .ref q9), (0, .ref (Q 0)), (1, .int p1), (2, .int p2), (3, .ref b)]) hx hb dL_next_17 hl (by decide) rfl (fun ls hl => ?_)
        refine lv_iconst (v := 2) hx hb dL_next_19 (by decide) ?_
        obtain rfl := Option.some.inj hf
        exact grWi hx hb hr hlocks hP hK hD hS dL_next_20 (by omega) (by omega)
      have hf := (if_neg hc9).symm.trans hf
      cases hf
    · exact nomatch hO9.symm.trans he9
  · rcases hf with ⟨e9, he9, hf⟩ | ⟨r9, he9, hf⟩
    · exact nomatch hO9.symm.trans he9
    · have hq6 := Sum.inr.inj (hO9.symm.trans he9)
      subst hq6
      have hP : va_P G vwCl (lwd cL cZ Q b A z) H := hP
      refine lv_i2l hx hb dL_next_8 rfl ?_
      obtain ⟨hg2, hf⟩ := of_gd hf
      refine va_last (f := (Lo.aot z)) (n := 1) hx hb hK hP hD hS 9 0 rfl rfl (inb_in hg2) dL_next_9 (fun H locs hP hD hS => ?_)
      have hP : va_P G vwCl (lwd cL cZ Q b A (Lo.wot z (vp_updL (Lo.aot z) ((0 : Int32).toNatClampNeg) (r1.toInt64)))) H := hP
      have hD : va_D _ (lwd cL cZ Q b A (Lo.wot z (vp_updL (Lo.aot z) ((0 : Int32).toNatClampNeg) (r1.toInt64)))) := hD
      refine lv_goto (tgt := 21) hx hb dL_next_10 (by decide) ?_
      refine lv_iconst (v := 0) hx hb dL_next_21 (by decide) ?_
      obtain rfl := Option.some.inj hf
      exact grWi hx hb hr hlocks hP hK hD hS dL_next_22 (by omega) (by omega)
set_option maxHeartbeats 4000000 in
set_option maxRecDepth 100000 in
theorem c_la_entry (l : Launch) (hl0 : l.stackTraces = false) (G : va_G) (cL cZ : ClassId) (Q : Nat → Nat) (b : Nat) (A : Nat → Nat) (z : Lo) (sz : Nat) (p1 : Int32) (p2 : Int32) (p3 : Int32) (O0 : Lo × Int32) (hf : la_entry z p1 p2 p3 = some O0) : Met l yL_entry vL_entry { frames := 11, cells := 6, slots := 36, locals := 270 } (gPn txC G vwCl (ct cL cZ) [.ref (Q 0), .int p1, .int p2, .int p3] (lwd cL cZ Q b A z) sz) (qWi G vwCl (ct cL cZ) (lwd cL cZ Q b A z) sz (lwd cL cZ Q b) O0) 6 36 (va_A (lwd cL cZ Q b A z) sz) := by
  refine gMetW (by decide) rfl (Nat.le_of_ble_eq_true rfl) ?_
  intro p e s m below meth c ls C hE hK hP hD hT hN hsz hl
  subst hsz
  obtain ⟨hx, hb, hr, hml, hown, hts, hlocks⟩ := id C
  have FX : CallFix p m c cL_entry 5 s _ vL_entry RL := ⟨hx, hb, hml, hown, hts⟩
  have hA : ∀ q9 : Nat, s.heap.size ≤ q9 → va_A (lwd cL cZ Q b A z) s.heap.size q9 := fun q9 h => Or.inr h
  have hS : va_S (va_A (lwd cL cZ Q b A z) s.heap.size) s.heap s.heap [] := va_S.rf
  have hl : lv_has ls 5 [(0, .ref (Q 0)), (1, .int p1), (2, .int p2), (3, .int p3)] := hl
  unfold la_entry at hf
  refine lv_aload_n hx hb dL_entry_0 rfl (lv_at hl 0 rfl) ?_
  refine lv_iload_n hx hb dL_entry_1 rfl (lv_at hl 1 rfl) ?_
  refine lv_iload_n hx hb dL_entry_2 rfl (lv_at hl 2 rfl) ?_
  refine lv_iload_n hx hb dL_entry_3 rfl (lv_at hl 3 rfl) ?_
  have hP : va_P G vwCl (cw cL cZ Q A (Lo.h z) ++ [(b, .inl (cL, 1, .inr (.inl (Lo.aot z))))]) _ := hP
  have hD : va_D _ (cw cL cZ Q A (Lo.h z) ++ [(b, .inl (cL, 1, .inr (.inl (Lo.aot z))))]) := hD
  obtain ⟨O1, ho1, hf⟩ := of_hbwt hf
  refine gfXv (gVx FX [.int p1, .int p2, .int p3] (c_wh_entry l hl0 G cL cZ Q A (Lo.h z) _ p1 p2 p3 _ ho1) (cwV 3 hts (gi_V wn_81 wn_82 wn_83 wn_3 wn_84) rfl rfl rfl hdV_X3_entry ⟨Nat.le_of_ble_eq_true rfl, Nat.le_of_ble_eq_true rfl⟩) hK (gPl hP) (gDl hD) hT hS hA 0 rfl rfl rfl hl.1 (Nat.le_of_ble_eq_true rfl) dL_entry_4 ⟨by show _ ≤ 6; omega, by show _ ≤ 36; omega⟩) hP hS hD hA (fun E9 A z1 ce q9 H locs hO9 hP hD hS hce hcv hcl => ?_) (fun o9 A z1 H locs hO9 hP hD hS => ?_)
  · rcases hf with ⟨s9, e9, he9, hf⟩ | ⟨s9, r9, he9, hf⟩
    · have hq9 := hO9.symm.trans he9
      obtain ⟨hq8, hq7⟩ := Prod.mk.inj hq9
      subst hq8
      have hq6 := Sum.inl.inj hq7
      subst hq6
      have hP : va_P G vwCl (lwd cL cZ Q b A (Lo.sh z z1)) H := hP
      have hD : va_D _ (lwd cL cZ Q b A (Lo.sh z z1)) := hD
      rcases Decidable.em (E9 = "java/lang/IllegalArgumentException") with hc9 | hc9
      · subst hc9
        have hf := (if_pos rfl).symm.trans hf
        refine gcatch (h1 := []) (h2 := [(0, 7, 14, 40), (0, 7, 18, 45), (0, 7, 22, 84)]) (st := 0) (en := 7) (hd := 10) (ct := 13) (name := "java/lang/IllegalArgumentException") hown hE (fun _ h => absurd h List.not_mem_nil) (by decide) (by decide) (hts _ (.tail _ wn_5)) (va_Nw.use rfl (hT.2.2.2.1 _ (by decide +kernel))) hce hcv hcl ?_
        refine lv_astore (lv' := [(4, .ref q9), (0, .ref (Q 0)), (1, .int p1), (2, .int p2), (3, .int p3)]) hx hb dL_entry_10 hl (by decide) rfl (fun ls hl => ?_)
        refine lv_iconst (v := 1) hx hb dL_entry_12 (by decide) ?_
        obtain rfl := Option.some.inj hf
        exact grWi hx hb hr hlocks hP hK hD hS dL_entry_13 (by omega) (by omega)
      have hf := (if_neg hc9).symm.trans hf
      rcases Decidable.em (E9 = "java/lang/UnsupportedOperationException") with hc9 | hc9
      · subst hc9
        have hf := (if_pos rfl).symm.trans hf
        refine gcatch (h1 := [(0, 7, 10, 13)]) (h2 := [(0, 7, 18, 45), (0, 7, 22, 84)]) (st := 0) (en := 7) (hd := 14) (ct := 40) (name := "java/lang/UnsupportedOperationException") hown hE (List.forall_mem_cons.mpr ⟨⟨by decide, "java/lang/IllegalArgumentException", (hts _ (.tail _ wn_5)), hN ("java/lang/UnsupportedOperationException", "java/lang/IllegalArgumentException") (by decide +kernel)⟩, (fun _ h => absurd h List.not_mem_nil)⟩) (by decide) (by decide) (hts _ (.tail _ wn_31)) (va_Nw.use rfl (hT.2.2.2.1 _ (by decide +kernel))) hce hcv hcl ?_
        refine lv_astore (lv' := [(4, .ref q9), (0, .ref (Q 0)), (1, .int p1), (2, .int p2), (3, .int p3)]) hx hb dL_entry_14 hl (by decide) rfl (fun ls hl => ?_)
        refine lv_iconst (v := 2) hx hb dL_entry_16 (by decide) ?_
        obtain rfl := Option.some.inj hf
        exact grWi hx hb hr hlocks hP hK hD hS dL_entry_17 (by omega) (by omega)
      have hf := (if_neg hc9).symm.trans hf
      rcases Decidable.em (E9 = "java/lang/IndexOutOfBoundsException") with hc9 | hc9
      · subst hc9
        have hf := (if_pos rfl).symm.trans hf
        refine gcatch (h1 := [(0, 7, 10, 13), (0, 7, 14, 40)]) (h2 := [(0, 7, 22, 84)]) (st := 0) (en := 7) (hd := 18) (ct := 45) (name := "java/lang/IndexOutOfBoundsException") hown hE (List.forall_mem_cons.mpr ⟨⟨by decide, "java/lang/IllegalArgumentException", (hts _ (.tail _ wn_5)), hN ("java/lang/IndexOutOfBoundsException", "java/lang/IllegalArgumentException") (by decide +kernel)⟩, (List.forall_mem_cons.mpr ⟨⟨by decide, "java/lang/UnsupportedOperationException", (hts _ (.tail _ wn_31)), hN ("java/lang/IndexOutOfBoundsException", "java/lang/UnsupportedOperationException") (by decide +kernel)⟩, (fun _ h => absurd h List.not_mem_nil)⟩)⟩) (by decide) (by decide) (hts _ (.tail _ wn_36)) (va_Nw.use rfl (hT.2.2.2.1 _ (by decide +kernel))) hce hcv hcl ?_
        refine lv_astore (lv' := [(4, .ref q9), (0, .ref (Q 0)), (1, .int p1), (2, .int p2), (3, .int p3)]) hx hb dL_entry_18 hl (by decide) rfl (fun ls hl => ?_)
        refine lv_iconst (v := 3) hx hb dL_entry_20 (by decide) ?_
        obtain rfl := Option.some.inj hf
        exact grWi hx hb hr hlocks hP hK hD hS dL_entry_21 (by omega) (by omega)
      have hf := (if_neg hc9).symm.trans hf
      rcases Decidable.em (E9 = "java/util/NoSuchElementException") with hc9 | hc9
      · subst hc9
        have hf := (if_pos rfl).symm.trans hf
        refine gcatch (h1 := [(0, 7, 10, 13), (0, 7, 14, 40), (0, 7, 18, 45)]) (h2 := []) (st := 0) (en := 7) (hd := 22) (ct := 84) (name := "java/util/NoSuchElementException") hown hE (List.forall_mem_cons.mpr ⟨⟨by decide, "java/lang/IllegalArgumentException", (hts _ (.tail _ wn_5)), hN ("java/util/NoSuchElementException", "java/lang/IllegalArgumentException") (by decide +kernel)⟩, (List.forall_mem_cons.mpr ⟨⟨by decide, "java/lang/UnsupportedOperationException", (hts _ (.tail _ wn_31)), hN ("java/util/NoSuchElementException", "java/lang/UnsupportedOperationException") (by decide +kernel)⟩, (List.forall_mem_cons.mpr ⟨⟨by decide, "java/lang/IndexOutOfBoundsException", (hts _ (.tail _ wn_36)), hN ("java/util/NoSuchElementException", "java/lang/IndexOutOfBoundsException") (by decide +kernel)⟩, (fun _ h => absurd h List.not_mem_nil)⟩)⟩)⟩) (by decide) (by decide) (hts _ (.tail _ wn_85)) (va_Nw.use rfl (hT.2.2.2.1 _ (by decide +kernel))) hce hcv hcl ?_
        refine lv_astore (lv' := [(4, .ref q9), (0, .ref (Q 0)), (1, .int p1), (2, .int p2), (3, .int p3)]) hx hb dL_entry_22 hl (by decide) rfl (fun ls hl => ?_)
        refine lv_iconst (v := 4) hx hb dL_entry_24 (by decide) ?_
        obtain rfl := Option.some.inj hf
        exact grWi hx hb hr hlocks hP hK hD hS dL_entry_25 (by omega) (by omega)
      have hf := (if_neg hc9).symm.trans hf
      cases hf
    · exact nomatch (Prod.mk.inj (hO9.symm.trans he9)).2
  · rcases hf with ⟨s9, e9, he9, hf⟩ | ⟨s9, r9, he9, hf⟩
    · exact nomatch (Prod.mk.inj (hO9.symm.trans he9)).2
    · have hq9 := hO9.symm.trans he9
      obtain ⟨hq8, hq7⟩ := Prod.mk.inj hq9
      subst hq8
      have hq6 := Sum.inr.inj hq7
      subst hq6
      have hP : va_P G vwCl (lwd cL cZ Q b A (Lo.sh z z1)) H := hP
      have hD : va_D _ (lwd cL cZ Q b A (Lo.sh z z1)) := hD
      refine lv_goto (tgt := 26) hx hb dL_entry_7 (by decide) ?_
      refine lv_iconst (v := 0) hx hb dL_entry_26 (by decide) ?_
      obtain rfl := Option.some.inj hf
      exact grWi hx hb hr hlocks hP hK hD hS dL_entry_27 (by omega) (by omega)
set_option maxHeartbeats 4000000 in
set_option maxRecDepth 100000 in
theorem c_la_tell (l : Launch) (hl0 : l.stackTraces = false) (G : va_G) (cL cZ : ClassId) (Q : Nat → Nat) (b : Nat) (A : Nat → Nat) (z : Lo) (sz : Nat) (p1 : Int32) (p2 : Int32) (O0 : Lo × Int32) (hf : la_tell z p1 p2 = some O0) : Met l yL_tell vL_tell { frames := 10, cells := 2, slots := 12, locals := 246 } (gPn txC G vwCl (ct cL cZ) [.ref (Q 0), .int p1, .int p2, .ref b] (lwd cL cZ Q b A z) sz) (qWi G vwCl (ct cL cZ) (lwd cL cZ Q b A z) sz (lwd cL cZ Q b) O0) 2 12 (va_A (lwd cL cZ Q b A z) sz) := by
  refine gMetW (by decide) rfl (Nat.le_of_ble_eq_true rfl) ?_
  intro p e s m below meth c ls C hE hK hP hD hT hN hsz hl
  subst hsz
  obtain ⟨hx, hb, hr, hml, hown, hts, hlocks⟩ := id C
  have FX : CallFix p m c cL_tell 5 s _ vL_tell RL := ⟨hx, hb, hml, hown, hts⟩
  have hA : ∀ q9 : Nat, s.heap.size ≤ q9 → va_A (lwd cL cZ Q b A z) s.heap.size q9 := fun q9 h => Or.inr h
  have hS : va_S (va_A (lwd cL cZ Q b A z) s.heap.size) s.heap s.heap [] := va_S.rf
  have hl : lv_has ls 5 [(0, .ref (Q 0)), (1, .int p1), (2, .int p2), (3, .ref b)] := hl
  unfold la_tell at hf
  refine lv_aload_n hx hb dL_tell_0 rfl (lv_at hl 3 rfl) ?_
  refine lv_iconst (v := 0) hx hb dL_tell_1 (by decide) ?_
  refine lv_aload_n hx hb dL_tell_2 rfl (lv_at hl 0 rfl) ?_
  refine lv_iload_n hx hb dL_tell_3 rfl (lv_at hl 1 rfl) ?_
  refine lv_iload_n hx hb dL_tell_4 rfl (lv_at hl 2 rfl) ?_
  have hP : va_P G vwCl (cw cL cZ Q A (Lo.h z) ++ [(b, .inl (cL, 1, .inr (.inl (Lo.aot z))))]) _ := hP
  have hD : va_D _ (cw cL cZ Q A (Lo.h z) ++ [(b, .inl (cL, 1, .inr (.inl (Lo.aot z))))]) := hD
  obtain ⟨O1, ho1, hf⟩ := of_hbt hf
  refine gfTi (gVx FX [.int p1, .int p2] (c_wh_tell l hl0 G cL cZ Q A (Lo.h z) _ p1 p2 _ ho1) (cwV 2 hts (gi_V wn_86 wn_87 wn_88 wn_3 wn_89) rfl rfl rfl hdV_X3_tell ⟨Nat.le_of_ble_eq_true rfl, Nat.le_of_ble_eq_true rfl⟩) hK (gPl hP) (gDl hD) hT hS hA 0 rfl rfl rfl hl.1 (Nat.le_of_ble_eq_true rfl) dL_tell_5 ⟨by show _ ≤ 2; omega, by show _ ≤ 12; omega⟩) hP hS hD hA (fun E9 ce q9 H locs hO9 hP hS hce hcv hcl => ?_) (fun r1 H locs hO9 hP hS => ?_)
  · rcases hf with ⟨e9, he9, hf⟩ | ⟨r9, he9, hf⟩
    · have hq6 := Sum.inl.inj (hO9.symm.trans he9)
      subst hq6
      have hP : va_P G vwCl (lwd cL cZ Q b A z) H := hP
      rcases Decidable.em (E9 = "java/lang/IllegalArgumentException") with hc9 | hc9
      · subst hc9
        have hf := (if_pos rfl).symm.trans hf
        refine gcatch (h1 := []) (h2 := []) (st := 0) (en := 10) (hd := 13) (ct := 13) (name := "java/lang/IllegalArgumentException") hown hE (fun _ h => absurd h List.not_mem_nil) (by decide) (by decide) (hts _ (.tail _ wn_5)) (va_Nw.use rfl (hT.2.2.2.1 _ (by decide +kernel))) hce hcv hcl ?_
        refine lv_astore (lv' := [(4, .ref q9), (0, .ref (Q 0)), (1, .int p1), (2, .int p2), (3, .ref b)]) hx hb dL_tell_13 hl (by decide) rfl (fun ls hl => ?_)
        refine lv_iconst (v := 1) hx hb dL_tell_15 (by decide) ?_
        obtain rfl := Option.some.inj hf
        exact grWi hx hb hr hlocks hP hK hD hS dL_tell_16 (by omega) (by omega)
      have hf := (if_neg hc9).symm.trans hf
      cases hf
    · exact nomatch hO9.symm.trans he9
  · rcases hf with ⟨e9, he9, hf⟩ | ⟨r9, he9, hf⟩
    · exact nomatch hO9.symm.trans he9
    · have hq6 := Sum.inr.inj (hO9.symm.trans he9)
      subst hq6
      have hP : va_P G vwCl (lwd cL cZ Q b A z) H := hP
      refine lv_i2l hx hb dL_tell_8 rfl ?_
      obtain ⟨hg2, hf⟩ := of_gd hf
      refine va_last (f := (Lo.aot z)) (n := 1) hx hb hK hP hD hS 9 0 rfl rfl (inb_in hg2) dL_tell_9 (fun H locs hP hD hS => ?_)
      have hP : va_P G vwCl (lwd cL cZ Q b A (Lo.wot z (vp_updL (Lo.aot z) ((0 : Int32).toNatClampNeg) (r1.toInt64)))) H := hP
      have hD : va_D _ (lwd cL cZ Q b A (Lo.wot z (vp_updL (Lo.aot z) ((0 : Int32).toNatClampNeg) (r1.toInt64)))) := hD
      refine lv_goto (tgt := 17) hx hb dL_tell_10 (by decide) ?_
      refine lv_iconst (v := 0) hx hb dL_tell_17 (by decide) ?_
      obtain rfl := Option.some.inj hf
      exact grWi hx hb hr hlocks hP hK hD hS dL_tell_18 (by omega) (by omega)
set_option maxHeartbeats 4000000 in
set_option maxRecDepth 100000 in
theorem c_la_value (l : Launch) (hl0 : l.stackTraces = false) (G : va_G) (cL cZ : ClassId) (Q : Nat → Nat) (b : Nat) (A : Nat → Nat) (z : Lo) (sz : Nat) (p1 : Int32) (O0 : Lo × Int32) (hf : la_value z p1 = some O0) : Met l yL_value vL_value { frames := 10, cells := 2, slots := 12, locals := 241 } (gPn txC G vwCl (ct cL cZ) [.ref (Q 0), .int p1, .ref b] (lwd cL cZ Q b A z) sz) (qWi G vwCl (ct cL cZ) (lwd cL cZ Q b A z) sz (lwd cL cZ Q b) O0) 2 12 (va_A (lwd cL cZ Q b A z) sz) := by
  refine gMetW (by decide) rfl (Nat.le_of_ble_eq_true rfl) ?_
  intro p e s m below meth c ls C hE hK hP hD hT hN hsz hl
  subst hsz
  obtain ⟨hx, hb, hr, hml, hown, hts, hlocks⟩ := id C
  have FX : CallFix p m c cL_value 4 s _ vL_value RL := ⟨hx, hb, hml, hown, hts⟩
  have hA : ∀ q9 : Nat, s.heap.size ≤ q9 → va_A (lwd cL cZ Q b A z) s.heap.size q9 := fun q9 h => Or.inr h
  have hS : va_S (va_A (lwd cL cZ Q b A z) s.heap.size) s.heap s.heap [] := va_S.rf
  have hl : lv_has ls 4 [(0, .ref (Q 0)), (1, .int p1), (2, .ref b)] := hl
  unfold la_value at hf
  refine lv_aload_n hx hb dL_value_0 rfl (lv_at hl 2 rfl) ?_
  refine lv_iconst (v := 0) hx hb dL_value_1 (by decide) ?_
  refine lv_aload_n hx hb dL_value_2 rfl (lv_at hl 0 rfl) ?_
  refine lv_iload_n hx hb dL_value_3 rfl (lv_at hl 1 rfl) ?_
  have hP : va_P G vwCl (cw cL cZ Q A (Lo.h z) ++ [(b, .inl (cL, 1, .inr (.inl (Lo.aot z))))]) _ := hP
  have hD : va_D _ (cw cL cZ Q A (Lo.h z) ++ [(b, .inl (cL, 1, .inr (.inl (Lo.aot z))))]) := hD
  obtain ⟨O1, ho1, hf⟩ := of_hbt hf
  refine gfTl (gVx FX [.int p1] (c_wh_value l hl0 G cL cZ Q A (Lo.h z) _ p1 _ ho1) (cwV 1 hts (gi_V wn_90 wn_91 wn_92 wn_3 wn_93) rfl rfl rfl hdV_X3_value ⟨Nat.le_of_ble_eq_true rfl, Nat.le_of_ble_eq_true rfl⟩) hK (gPl hP) (gDl hD) hT hS hA 0 rfl rfl rfl hl.1 (Nat.le_of_ble_eq_true rfl) dL_value_4 ⟨by show _ ≤ 2; omega, by show _ ≤ 12; omega⟩) hP hS hD hA (fun E9 ce q9 H locs hO9 hP hS hce hcv hcl => ?_) (fun r1 H locs hO9 hP hS => ?_)
  · rcases hf with ⟨e9, he9, hf⟩ | ⟨r9, he9, hf⟩
    · have hq6 := Sum.inl.inj (hO9.symm.trans he9)
      subst hq6
      have hP : va_P G vwCl (lwd cL cZ Q b A z) H := hP
      rcases Decidable.em (E9 = "java/lang/IllegalArgumentException") with hc9 | hc9
      · subst hc9
        have hf := (if_pos rfl).symm.trans hf
        refine gcatch (h1 := []) (h2 := [(0, 8, 14, 40)]) (st := 0) (en := 8) (hd := 11) (ct := 13) (name := "java/lang/IllegalArgumentException") hown hE (fun _ h => absurd h List.not_mem_nil) (by decide) (by decide) (hts _ (.tail _ wn_5)) (va_Nw.use rfl (hT.2.2.2.1 _ (by decide +kernel))) hce hcv hcl ?_
        refine lv_astore_n (lv' := [(3, .ref q9), (0, .ref (Q 0)), (1, .int p1), (2, .ref b)]) hx hb dL_value_11 rfl hl (by decide) rfl (fun ls hl => ?_)
        refine lv_iconst (v := 1) hx hb dL_value_12 (by decide) ?_
        obtain rfl := Option.some.inj hf
        exact grWi hx hb hr hlocks hP hK hD hS dL_value_13 (by omega) (by omega)
      have hf := (if_neg hc9).symm.trans hf
      rcases Decidable.em (E9 = "java/lang/UnsupportedOperationException") with hc9 | hc9
      · subst hc9
        have hf := (if_pos rfl).symm.trans hf
        refine gcatch (h1 := [(0, 8, 11, 13)]) (h2 := []) (st := 0) (en := 8) (hd := 14) (ct := 40) (name := "java/lang/UnsupportedOperationException") hown hE (List.forall_mem_cons.mpr ⟨⟨by decide, "java/lang/IllegalArgumentException", (hts _ (.tail _ wn_5)), hN ("java/lang/UnsupportedOperationException", "java/lang/IllegalArgumentException") (by decide +kernel)⟩, (fun _ h => absurd h List.not_mem_nil)⟩) (by decide) (by decide) (hts _ (.tail _ wn_31)) (va_Nw.use rfl (hT.2.2.2.1 _ (by decide +kernel))) hce hcv hcl ?_
        refine lv_astore_n (lv' := [(3, .ref q9), (0, .ref (Q 0)), (1, .int p1), (2, .ref b)]) hx hb dL_value_14 rfl hl (by decide) rfl (fun ls hl => ?_)
        refine lv_iconst (v := 2) hx hb dL_value_15 (by decide) ?_
        obtain rfl := Option.some.inj hf
        exact grWi hx hb hr hlocks hP hK hD hS dL_value_16 (by omega) (by omega)
      have hf := (if_neg hc9).symm.trans hf
      cases hf
    · exact nomatch hO9.symm.trans he9
  · rcases hf with ⟨e9, he9, hf⟩ | ⟨r9, he9, hf⟩
    · exact nomatch hO9.symm.trans he9
    · have hq6 := Sum.inr.inj (hO9.symm.trans he9)
      subst hq6
      have hP : va_P G vwCl (lwd cL cZ Q b A z) H := hP
      obtain ⟨hg2, hf⟩ := of_gd hf
      refine va_last (f := (Lo.aot z)) (n := 1) hx hb hK hP hD hS 9 0 rfl rfl (inb_in hg2) dL_value_7 (fun H locs hP hD hS => ?_)
      have hP : va_P G vwCl (lwd cL cZ Q b A (Lo.wot z (vp_updL (Lo.aot z) ((0 : Int32).toNatClampNeg) r1))) H := hP
      have hD : va_D _ (lwd cL cZ Q b A (Lo.wot z (vp_updL (Lo.aot z) ((0 : Int32).toNatClampNeg) r1))) := hD
      refine lv_goto (tgt := 17) hx hb dL_value_8 (by decide) ?_
      refine lv_iconst (v := 0) hx hb dL_value_17 (by decide) ?_
      obtain rfl := Option.some.inj hf
      exact grWi hx hb hr hlocks hP hK hD hS dL_value_18 (by omega) (by omega)
set_option maxHeartbeats 4000000 in
set_option maxRecDepth 100000 in
theorem c_la_same (l : Launch) (hl0 : l.stackTraces = false) (G : va_G) (cL cZ : ClassId) (Q : Nat → Nat) (b : Nat) (A : Nat → Nat) (z : Lo) (sz : Nat) (p1 : Int32) (p2 : Int32) (O0 : Lo × Int32) (hf : la_same z p1 p2 = some O0) : Met l yL_same vL_same { frames := 10, cells := 2, slots := 12, locals := 242 } (gPn txC G vwCl (ct cL cZ) [.ref (Q 0), .int p1, .int p2, .ref b] (lwd cL cZ Q b A z) sz) (qWi G vwCl (ct cL cZ) (lwd cL cZ Q b A z) sz (lwd cL cZ Q b) O0) 2 12 (va_A (lwd cL cZ Q b A z) sz) := by
  refine gMetW (by decide) rfl (Nat.le_of_ble_eq_true rfl) ?_
  intro p e s m below meth c ls C hE hK hP hD hT hN hsz hl
  subst hsz
  obtain ⟨hx, hb, hr, hml, hown, hts, hlocks⟩ := id C
  have FX : CallFix p m c cL_same 5 s _ vL_same RL := ⟨hx, hb, hml, hown, hts⟩
  have hA : ∀ q9 : Nat, s.heap.size ≤ q9 → va_A (lwd cL cZ Q b A z) s.heap.size q9 := fun q9 h => Or.inr h
  have hS : va_S (va_A (lwd cL cZ Q b A z) s.heap.size) s.heap s.heap [] := va_S.rf
  have hl : lv_has ls 5 [(0, .ref (Q 0)), (1, .int p1), (2, .int p2), (3, .ref b)] := hl
  unfold la_same at hf
  refine lv_aload_n hx hb dL_same_0 rfl (lv_at hl 3 rfl) ?_
  refine lv_iconst (v := 0) hx hb dL_same_1 (by decide) ?_
  refine lv_aload_n hx hb dL_same_2 rfl (lv_at hl 0 rfl) ?_
  refine lv_iload_n hx hb dL_same_3 rfl (lv_at hl 1 rfl) ?_
  refine lv_iload_n hx hb dL_same_4 rfl (lv_at hl 2 rfl) ?_
  have hP : va_P G vwCl (cw cL cZ Q A (Lo.h z) ++ [(b, .inl (cL, 1, .inr (.inl (Lo.aot z))))]) _ := hP
  have hD : va_D _ (cw cL cZ Q A (Lo.h z) ++ [(b, .inl (cL, 1, .inr (.inl (Lo.aot z))))]) := hD
  obtain ⟨O1, ho1, hf⟩ := of_hbt hf
  refine gfTi (gVx FX [.int p1, .int p2] (c_wh_same l hl0 G cL cZ Q A (Lo.h z) _ p1 p2 _ ho1) (cwV 2 hts (gi_V wn_94 wn_95 wn_96 wn_3 wn_97) rfl rfl rfl hdV_X3_same ⟨Nat.le_of_ble_eq_true rfl, Nat.le_of_ble_eq_true rfl⟩) hK (gPl hP) (gDl hD) hT hS hA 0 rfl rfl rfl hl.1 (Nat.le_of_ble_eq_true rfl) dL_same_5 ⟨by show _ ≤ 2; omega, by show _ ≤ 12; omega⟩) hP hS hD hA (fun E9 ce q9 H locs hO9 hP hS hce hcv hcl => ?_) (fun r1 H locs hO9 hP hS => ?_)
  · rcases hf with ⟨e9, he9, hf⟩ | ⟨r9, he9, hf⟩
    · have hq6 := Sum.inl.inj (hO9.symm.trans he9)
      subst hq6
      have hP : va_P G vwCl (lwd cL cZ Q b A z) H := hP
      rcases Decidable.em (E9 = "java/lang/IllegalArgumentException") with hc9 | hc9
      · subst hc9
        have hf := (if_pos rfl).symm.trans hf
        refine gcatch (h1 := []) (h2 := []) (st := 0) (en := 17) (hd := 20) (ct := 13) (name := "java/lang/IllegalArgumentException") hown hE (fun _ h => absurd h List.not_mem_nil) (by decide) (by decide) (hts _ (.tail _ wn_5)) (va_Nw.use rfl (hT.2.2.2.1 _ (by decide +kernel))) hce hcv hcl ?_
        refine lv_astore (lv' := [(4, .ref q9), (0, .ref (Q 0)), (1, .int p1), (2, .int p2), (3, .ref b)]) hx hb dL_same_20 hl (by decide) rfl (fun ls hl => ?_)
        refine lv_iconst (v := 1) hx hb dL_same_22 (by decide) ?_
        obtain rfl := Option.some.inj hf
        exact grWi hx hb hr hlocks hP hK hD hS dL_same_23 (by omega) (by omega)
      have hf := (if_neg hc9).symm.trans hf
      cases hf
    · exact nomatch hO9.symm.trans he9
  · rcases hf with ⟨e9, he9, hf⟩ | ⟨r9, he9, hf⟩
    · exact nomatch hO9.symm.trans he9
    · have hq6 := Sum.inr.inj (hO9.symm.trans he9)
      subst hq6
      have hP : va_P G vwCl (lwd cL cZ Q b A z) H := hP
      refine lv_if_eq (tgt := 15) hx hb dL_same_8 (by decide) (fun c2 => ?_) (fun c2 => ?_)
      · have hf := (if_pos c2).symm.trans hf
        refine lv_lconst (v := 0) hx hb dL_same_15 (by decide) ?_
        obtain ⟨hg3, hf⟩ := of_gd hf
        refine va_last (f := (Lo.aot z)) (n := 1) hx hb hK hP hD hS 9 0 rfl rfl (inb_in hg3) dL_same_16 (fun H locs hP hD hS => ?_)
        have hP : va_P G vwCl (lwd cL cZ Q b A (Lo.wot z (vp_updL (Lo.aot z) ((0 : Int32).toNatClampNeg) 0))) H := hP
        have hD : va_D _ (lwd cL cZ Q b A (Lo.wot z (vp_updL (Lo.aot z) ((0 : Int32).toNatClampNeg) 0))) := hD
        refine lv_goto (tgt := 24) hx hb dL_same_17 (by decide) ?_
        refine lv_iconst (v := 0) hx hb dL_same_24 (by decide) ?_
        obtain rfl := Option.some.inj hf
        exact grWi hx hb hr hlocks hP hK hD hS dL_same_25 (by omega) (by omega)
      · have hf := (if_neg c2).symm.trans hf
        refine lv_lconst (v := 1) hx hb dL_same_11 (by decide) ?_
        refine lv_goto (tgt := 16) hx hb dL_same_12 (by decide) ?_
        obtain ⟨hg4, hf⟩ := of_gd hf
        refine va_last (f := (Lo.aot z)) (n := 1) hx hb hK hP hD hS 9 0 rfl rfl (inb_in hg4) dL_same_16 (fun H locs hP hD hS => ?_)
        have hP : va_P G vwCl (lwd cL cZ Q b A (Lo.wot z (vp_updL (Lo.aot z) ((0 : Int32).toNatClampNeg) 1))) H := hP
        have hD : va_D _ (lwd cL cZ Q b A (Lo.wot z (vp_updL (Lo.aot z) ((0 : Int32).toNatClampNeg) 1))) := hD
        refine lv_goto (tgt := 24) hx hb dL_same_17 (by decide) ?_
        refine lv_iconst (v := 0) hx hb dL_same_24 (by decide) ?_
        obtain rfl := Option.some.inj hf
        exact grWi hx hb hr hlocks hP hK hD hS dL_same_25 (by omega) (by omega)
set_option maxHeartbeats 4000000 in
set_option maxRecDepth 100000 in
theorem c_la_total (l : Launch) (hl0 : l.stackTraces = false) (G : va_G) (cL cZ : ClassId) (Q : Nat → Nat) (b : Nat) (A : Nat → Nat) (z : Lo) (sz : Nat) (p1 : Int32) (O0 : Lo × Int32) (hf : la_total z p1 = some O0) : Met l yL_total vL_total { frames := 10, cells := 1, slots := 6, locals := 243 } (gPn txC G vwCl (ct cL cZ) [.ref (Q 0), .int p1, .ref b] (lwd cL cZ Q b A z) sz) (qWi G vwCl (ct cL cZ) (lwd cL cZ Q b A z) sz (lwd cL cZ Q b) O0) 1 6 (va_A (lwd cL cZ Q b A z) sz) := by
  refine gMetW (by decide) rfl (Nat.le_of_ble_eq_true rfl) ?_
  intro p e s m below meth c ls C hE hK hP hD hT hN hsz hl
  subst hsz
  obtain ⟨hx, hb, hr, hml, hown, hts, hlocks⟩ := id C
  have FX : CallFix p m c cL_total 4 s _ vL_total RL := ⟨hx, hb, hml, hown, hts⟩
  have hA : ∀ q9 : Nat, s.heap.size ≤ q9 → va_A (lwd cL cZ Q b A z) s.heap.size q9 := fun q9 h => Or.inr h
  have hS : va_S (va_A (lwd cL cZ Q b A z) s.heap.size) s.heap s.heap [] := va_S.rf
  have hl : lv_has ls 4 [(0, .ref (Q 0)), (1, .int p1), (2, .ref b)] := hl
  unfold la_total at hf
  refine lv_aload_n hx hb dL_total_0 rfl (lv_at hl 2 rfl) ?_
  refine lv_iconst (v := 0) hx hb dL_total_1 (by decide) ?_
  refine lv_aload_n hx hb dL_total_2 rfl (lv_at hl 0 rfl) ?_
  refine lv_iload_n hx hb dL_total_3 rfl (lv_at hl 1 rfl) ?_
  have hP : va_P G vwCl (cw cL cZ Q A (Lo.h z) ++ [(b, .inl (cL, 1, .inr (.inl (Lo.aot z))))]) _ := hP
  have hD : va_D _ (cw cL cZ Q A (Lo.h z) ++ [(b, .inl (cL, 1, .inr (.inl (Lo.aot z))))]) := hD
  obtain ⟨O1, ho1, hf⟩ := of_hbt hf
  refine gfTi (gVx FX [.int p1] (c_wh_total l hl0 G cL cZ Q A (Lo.h z) _ p1 _ ho1) (cwV 1 hts (gi_V wn_98 wn_99 wn_100 wn_3 wn_101) rfl rfl rfl hdV_X3_total ⟨Nat.le_of_ble_eq_true rfl, Nat.le_of_ble_eq_true rfl⟩) hK (gPl hP) (gDl hD) hT hS hA 0 rfl rfl rfl hl.1 (Nat.le_of_ble_eq_true rfl) dL_total_4 ⟨by show _ ≤ 1; omega, by show _ ≤ 6; omega⟩) hP hS hD hA (fun E9 ce q9 H locs hO9 hP hS hce hcv hcl => ?_) (fun r1 H locs hO9 hP hS => ?_)
  · rcases hf with ⟨e9, he9, hf⟩ | ⟨r9, he9, hf⟩
    · have hq6 := Sum.inl.inj (hO9.symm.trans he9)
      subst hq6
      have hP : va_P G vwCl (lwd cL cZ Q b A z) H := hP
      rcases Decidable.em (E9 = "java/lang/IllegalArgumentException") with hc9 | hc9
      · subst hc9
        have hf := (if_pos rfl).symm.trans hf
        refine gcatch (h1 := []) (h2 := []) (st := 0) (en := 9) (hd := 12) (ct := 13) (name := "java/lang/IllegalArgumentException") hown hE (fun _ h => absurd h List.not_mem_nil) (by decide) (by decide) (hts _ (.tail _ wn_5)) (va_Nw.use rfl (hT.2.2.2.1 _ (by decide +kernel))) hce hcv hcl ?_
        refine lv_astore_n (lv' := [(3, .ref q9), (0, .ref (Q 0)), (1, .int p1), (2, .ref b)]) hx hb dL_total_12 rfl hl (by decide) rfl (fun ls hl => ?_)
        refine lv_iconst (v := 1) hx hb dL_total_13 (by decide) ?_
        obtain rfl := Option.some.inj hf
        exact grWi hx hb hr hlocks hP hK hD hS dL_total_14 (by omega) (by omega)
      have hf := (if_neg hc9).symm.trans hf
      cases hf
    · exact nomatch hO9.symm.trans he9
  · rcases hf with ⟨e9, he9, hf⟩ | ⟨r9, he9, hf⟩
    · exact nomatch hO9.symm.trans he9
    · have hq6 := Sum.inr.inj (hO9.symm.trans he9)
      subst hq6
      have hP : va_P G vwCl (lwd cL cZ Q b A z) H := hP
      refine lv_i2l hx hb dL_total_7 rfl ?_
      obtain ⟨hg2, hf⟩ := of_gd hf
      refine va_last (f := (Lo.aot z)) (n := 1) hx hb hK hP hD hS 9 0 rfl rfl (inb_in hg2) dL_total_8 (fun H locs hP hD hS => ?_)
      have hP : va_P G vwCl (lwd cL cZ Q b A (Lo.wot z (vp_updL (Lo.aot z) ((0 : Int32).toNatClampNeg) (r1.toInt64)))) H := hP
      have hD : va_D _ (lwd cL cZ Q b A (Lo.wot z (vp_updL (Lo.aot z) ((0 : Int32).toNatClampNeg) (r1.toInt64)))) := hD
      refine lv_goto (tgt := 15) hx hb dL_total_9 (by decide) ?_
      refine lv_iconst (v := 0) hx hb dL_total_15 (by decide) ?_
      obtain rfl := Option.some.inj hf
      exact grWi hx hb hr hlocks hP hK hD hS dL_total_16 (by omega) (by omega)
