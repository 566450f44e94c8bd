section GB6
variable {p : Program} {l : Launch} {e : Env} {R : Room} {s : State} {m : MethodId} {args : Array Value} {below : List Frame} {meth : Method} {c : Code} {H H1 : Heap} {locs : List Loc} {cells slots : Nat} {Q : State → Prop}
variable {G : va_G} {cl : List vw_C} {tys : List (ClassId × FieldType)} {w w0 wr w1 : va_W} {sz mc ms pc : Nat} {ls : Array Slot} {rest st0 : List Value} {a : Array Value} {A0 : Nat → Prop} {free : Addr → Prop} {tx : List (String × Nat × String)}
theorem gi_0 {a9 cd : Cond} (h5 : cd ∈ AW) : GoodIn (a9 :: AW) (cd :: AW) := by
  intro w hw
  have h : w ∈ AW := by
    rcases List.mem_cons.mp hw with rfl | hw
    · exact h5
    · exact hw
  exact ⟨.tail _ h, AW_good h⟩
theorem gI {cc bytes : ByteArray} {nL maxL n index : Nat} {Ts ws : List Cond} {own : String} {y : MethodName} {rm : Room} {Qc : Array Value → State → Outcome → State → Prop} {b : Nat}
    (S : CallFix p m c cc nL s args Ts own) (As : List Value) (hM : Met l y ws rm (gPc G cl tys (.ref b :: As) w H.size) Qc mc ms free) (cw : CallB R s args own index y bytes maxL none ws rm mc ms n ∧ y.name = "<init>" ∧ (Cond.instanceMethod y).before args s = true)
    (hK : va_K G cl tys s) (hP : va_P G cl w H) (hD : va_D A0 w) (hn : As.length = n) (hsize : ls.size = nL) (hW : (rest.map fun v => v.category).sum ≤ 8)
    (hdg : decode cc pc = .ok (.invokespecial index, 3)) (hf : cells + mc ≤ R.cells ∧ slots + ms ≤ R.slots) :
    va_Run p l e R s m args below meth c H locs cells slots mc ms (F0 m pc ls (As.reverse ++ .ref b :: rest)) rest (Qc (Value.ref b :: As).toArray) free :=
  va_runI S hM cw ⟨gPc_bl, gpre hK hP hD⟩ rfl hn hsize rfl (lv_room hW) hdg hf
theorem gfWv {S : Type} {f : (Nat → Nat) → S → va_W} {z1 : S} {o1 : Unit} (hr : va_Run p l e R s m args below meth c H locs cells slots mc ms (F0 m pc ls st0) rest (qWv G cl tys w H.size f (z1, o1) a) (va_A w H.size)) (hP : va_P G cl (w ++ wr) H) (hS : va_S A0 s.heap H locs) (hD : va_D A0 (w ++ wr)) (hA : ∀ q : Nat, s.heap.size ≤ q → A0 q)
    (kk : ∀ (A1 : Nat → Nat) (H1 : Heap) (locs1 : List Loc), va_P G cl (f A1 z1 ++ wr) H1 → va_D A0 (f A1 z1 ++ wr) → va_S A0 s.heap H1 locs1 → W p l e R s m args below meth c H1 locs1 (cells + mc) (slots + ms) Q (F0 m (pc + 3) ls rest)) : W p l e R s m args below meth c H locs cells slots Q (F0 m pc ls st0) := by
  have hF := gFF hS hD hA
  refine va_callv hr hS (fun q _ h => hF q h) hF (fun u t H1 locs1 ht hvm hw hB hz hk hS1 => ?_)
  obtain ⟨A1, z2⟩ := u
  cases hw
  obtain ⟨h1, h2⟩ := gfr hP hD hk hF (by rw [← ht]; exact hB.1) hB.2.2
  exact kk A1 H1 locs1 h1 h2 hS1
theorem gfWi {S : Type} {f : (Nat → Nat) → S → va_W} {z1 : S} {r1 : Int32} (hr : va_Run p l e R s m args below meth c H locs cells slots mc ms (F0 m pc ls st0) rest (qWi G cl tys w H.size f (z1, r1) a) (va_A w H.size)) (hP : va_P G cl (w ++ wr) H) (hS : va_S A0 s.heap H locs) (hD : va_D A0 (w ++ wr)) (hA : ∀ q : Nat, s.heap.size ≤ q → A0 q)
    (kk : ∀ (A1 : Nat → Nat) (H1 : Heap) (locs1 : List Loc), va_P G cl (f A1 z1 ++ wr) H1 → va_D A0 (f A1 z1 ++ wr) → va_S A0 s.heap H1 locs1 → W p l e R s m args below meth c H1 locs1 (cells + mc) (slots + ms) Q (F0 m (pc + 3) ls (.int r1 :: rest))) : W p l e R s m args below meth c H locs cells slots Q (F0 m pc ls st0) := by
  have hF := gFF hS hD hA
  refine va_calli hr hS (fun q _ h => hF q h) hF (fun r u t H1 locs1 ht hvm hw hB hz hk hS1 => ?_)
  obtain ⟨A1, z2⟩ := u
  cases hw
  obtain ⟨h1, h2⟩ := gfr hP hD hk hF (by rw [← ht]; exact hB.1) hB.2.2
  exact kk A1 H1 locs1 h1 h2 hS1
theorem gfWl {S : Type} {f : (Nat → Nat) → S → va_W} {z1 : S} {r1 : Int64} (hr : va_Run p l e R s m args below meth c H locs cells slots mc ms (F0 m pc ls st0) rest (qWl G cl tys w H.size f (z1, r1) a) (va_A w H.size)) (hP : va_P G cl (w ++ wr) H) (hS : va_S A0 s.heap H locs) (hD : va_D A0 (w ++ wr)) (hA : ∀ q : Nat, s.heap.size ≤ q → A0 q)
    (kk : ∀ (A1 : Nat → Nat) (H1 : Heap) (locs1 : List Loc), va_P G cl (f A1 z1 ++ wr) H1 → va_D A0 (f A1 z1 ++ wr) → va_S A0 s.heap H1 locs1 → W p l e R s m args below meth c H1 locs1 (cells + mc) (slots + ms) Q (F0 m (pc + 3) ls (.long r1 :: rest))) : W p l e R s m args below meth c H locs cells slots Q (F0 m pc ls st0) := by
  have hF := gFF hS hD hA
  refine va_calll hr hS (fun q _ h => hF q h) hF (fun r u t H1 locs1 ht hvm hw hB hz hk hS1 => ?_)
  obtain ⟨A1, z2⟩ := u
  cases hw
  obtain ⟨h1, h2⟩ := gfr hP hD hk hF (by rw [← ht]; exact hB.1) hB.2.2
  exact kk A1 H1 locs1 h1 h2 hS1
theorem gfRi {O : Int32} (hr : va_Run p l e R s m args below meth c H locs cells slots mc ms (F0 m pc ls st0) rest (qRi G cl tys w H.size O a) (va_A w H.size)) (hP : va_P G cl (w ++ wr) H) (hS : va_S A0 s.heap H locs) (hD : va_D A0 (w ++ wr)) (hA : ∀ q : Nat, s.heap.size ≤ q → A0 q)
    (kk : ∀ (H1 : Heap) (locs1 : List Loc), va_P G cl (w ++ wr) H1 → va_S A0 s.heap H1 locs1 → W p l e R s m args below meth c H1 locs1 (cells + mc) (slots + ms) Q (F0 m (pc + 3) ls (.int O :: rest))) : W p l e R s m args below meth c H locs cells slots Q (F0 m pc ls st0) := by
  have hF := gFF hS hD hA
  refine va_calli hr hS (fun q _ h => hF q h) hF (fun r u t H1 locs1 ht hvm hw hB hz hk hS1 => ?_)
  subst hw
  exact kk H1 locs1 (gfr hP hD hk hF (by rw [← ht]; exact hB.1) hB.2.2).1 hS1
end GB6
set_option maxHeartbeats 4000000 in
set_option maxRecDepth 100000 in
theorem c_tx_init (l : Launch) (G : va_G) (tys : List (ClassId × FieldType)) (q h : Nat) (sz : Nat) : Met l yX2_init vX2_init { frames := 1, cells := 0, slots := 0, locals := 20 } (gPc G vwCl tys [.ref q, .ref h] [(q, .inr (2, [.null]))] sz) (qWv G vwCl tys [(q, .inr (2, [.null]))] sz (fun _ (_ : Unit) => [(q, .inr (2, [.ref h]))]) ((), ())) 0 0 (va_A [(q, .inr (2, [.null]))] sz) := by
  refine gMetI (by decide) rfl (Nat.le_of_ble_eq_true rfl) ?_
  intro p e s m below meth c ls C hin hK hP hD hsz hl
  subst hsz
  obtain ⟨hx, hb, hr, hml, hown, hts, hlocks⟩ := id C
  have hS : va_S (va_A [(q, .inr (2, [.null]))] s.heap.size) s.heap s.heap [] := va_S.rf
  have hl : lv_has ls 2 [(0, .ref q), (1, .ref h)] := hl
  refine lv_aload_n hx hb dX2_init_0 rfl (lv_at hl 0 rfl) ?_
  refine W.objInit hx hb hown (hts _ (.tail _ wo_43)) (hts _ (.tail _ wo_1)) (hts _ (.tail _ wo_2)) rfl (hl.1.trans hml.symm) rfl dX2_init_1 (Nat.le_of_ble_eq_true rfl) (Nat.le_of_ble_eq_true rfl) ?_
  refine W.eq (g2 := F0 m 4 ls []) rfl ?_
  refine lv_aload_n hx hb dX2_init_4 rfl (lv_at hl 0 rfl) ?_
  refine lv_aload_n hx hb dX2_init_5 rfl (lv_at hl 1 rfl) ?_
  refine va_putF (D := G) (ci := 2) (v := .ref h) (ty := .object "WordHeap$Heap") (C := RX2) (T := TX2) (N := 1) hx hb hts (fun w h => .tail _ (wl_X2 w h)) tyX2 tyX2_ok nmX2 hown hK hP hD hS 0 rfl rfl 0 (by decide) (hts _ (.tail _ wo_44)) (fun _ h9 => h9) rfl hin rfl (by decide +kernel) rfl rfl (Nat.le_of_ble_eq_true rfl) dX2_init_6 (fun H locs hP hD hS => ?_)
  exact grWv (f := fun _ (_ : Unit) => [(q, .inr (2, [.ref h]))]) (A1 := fun _ => 0) (z1 := ()) hx hb hr hlocks hP hK hD hS dX2_init_9 (by decide) (by decide)
set_option maxHeartbeats 4000000 in
set_option maxRecDepth 100000 in
theorem c_mp_init (l : Launch) (G : va_G) (tys : List (ClassId × FieldType)) (q h x : Nat) (sz : Nat) : Met l yX1_init vX1_init { frames := 1, cells := 0, slots := 0, locals := 20 } (gPc G vwCl tys [.ref q, .ref h, .ref x] [(q, .inr (1, [.null, .null]))] sz) (qWv G vwCl tys [(q, .inr (1, [.null, .null]))] sz (fun _ (_ : Unit) => [(q, .inr (1, [.ref h, .ref x]))]) ((), ())) 0 0 (va_A [(q, .inr (1, [.null, .null]))] sz) := by
  refine gMetI (by decide) rfl (Nat.le_of_ble_eq_true rfl) ?_
  intro p e s m below meth c ls C hin hK hP hD hsz hl
  subst hsz
  obtain ⟨hx, hb, hr, hml, hown, hts, hlocks⟩ := id C
  have hS : va_S (va_A [(q, .inr (1, [.null, .null]))] s.heap.size) s.heap s.heap [] := va_S.rf
  have hl : lv_has ls 3 [(0, .ref q), (1, .ref h), (2, .ref x)] := hl
  refine lv_aload_n hx hb dX1_init_0 rfl (lv_at hl 0 rfl) ?_
  refine W.objInit hx hb hown (hts _ (.tail _ wo_45)) (hts _ (.tail _ wo_1)) (hts _ (.tail _ wo_2)) rfl (hl.1.trans hml.symm) rfl dX1_init_1 (Nat.le_of_ble_eq_true rfl) (Nat.le_of_ble_eq_true rfl) ?_
  refine W.eq (g2 := F0 m 4 ls []) rfl ?_
  refine lv_aload_n hx hb dX1_init_4 rfl (lv_at hl 0 rfl) ?_
  refine lv_aload_n hx hb dX1_init_5 rfl (lv_at hl 1 rfl) ?_
  refine va_putF (D := G) (ci := 1) (v := .ref h) (ty := .object "WordHeap$Heap") (C := RX1) (T := TX1) (N := 2) hx hb hts (fun w h => .tail _ (wl_X1 w h)) tyX1 tyX1_ok nmX1 hown hK hP hD hS 0 rfl rfl 0 (by decide) (hts _ (.tail _ wo_46)) (fun _ h9 => h9) rfl hin rfl (by decide +kernel) rfl rfl (Nat.le_of_ble_eq_true rfl) dX1_init_6 (fun H locs hP hD hS => ?_)
  have hP : va_P G vwCl [(q, .inr (1, [.ref h, .null]))] H := hP
  have hD : va_D _ [(q, .inr (1, [.ref h, .null]))] := hD
  refine lv_aload_n hx hb dX1_init_9 rfl (lv_at hl 0 rfl) ?_
  refine lv_aload_n hx hb dX1_init_10 rfl (lv_at hl 2 rfl) ?_
  refine va_putF (D := G) (ci := 1) (v := .ref x) (ty := .object "WordHeap$Texts") (C := RX1) (T := TX1) (N := 2) hx hb hts (fun w h => .tail _ (wl_X1 w h)) tyX1 tyX1_ok nmX1 hown hK hP hD hS 0 rfl rfl 1 (by decide) (hts _ (.tail _ wo_47)) (fun _ h9 => h9) rfl hin rfl (by decide +kernel) rfl rfl (Nat.le_of_ble_eq_true rfl) dX1_init_11 (fun H locs hP hD hS => ?_)
  exact grWv (f := fun _ (_ : Unit) => [(q, .inr (1, [.ref h, .ref x]))]) (A1 := fun _ => 0) (z1 := ()) hx hb hr hlocks hP hK hD hS dX1_init_14 (by decide) (by decide)
/-- the limit as the class keeps it -/
def wlim (p0 : Int32) : Int32 := if 64 < (if p0 < 131072 then p0 else 131072) then (if p0 < 131072 then p0 else 131072) else 64
set_option maxHeartbeats 4000000 in
set_option maxRecDepth 100000 in
theorem c_wh_init (l : Launch) (G : va_G) (cL cZ : ClassId) (q : Nat) (p0 : Int32) (sz : Nat) : Met l yX3_init vX3_init { frames := 2, cells := 8, slots := 337, locals := 60 } (gPc G vwCl (ct cL cZ) [.ref q, .int p0] [(q, .inr (3, [.null, .null, .null]))] sz) (qWv G vwCl (ct cL cZ) [(q, .inr (3, [.null, .null, .null]))] sz (fun A z => cw cL cZ (va_up A 0 q) A z) (hs0 (wlim p0), ())) 8 337 (va_A [(q, .inr (3, [.null, .null, .null]))] sz) := by
  refine gMetI (by decide) rfl (Nat.le_of_ble_eq_true rfl) ?_
  intro p e s m below meth c ls C hin hK hP hD hsz hl
  subst hsz
  obtain ⟨hx, hb, hr, hml, hown, hts, hlocks⟩ := id C
  have FX : CallFix p m c cX3_init 2 s _ vX3_init RX3 := ⟨hx, hb, hml, hown, hts⟩
  have hA : ∀ q9 : Nat, s.heap.size ≤ q9 → va_A [(q, .inr (3, [.null, .null, .null]))] s.heap.size q9 := fun q9 h => Or.inr h
  have hS : va_S (va_A [(q, .inr (3, [.null, .null, .null]))] s.heap.size) s.heap s.heap [] := va_S.rf
  have hl : lv_has ls 2 [(0, .ref q), (1, .int p0)] := hl
  refine lv_aload_n hx hb dX3_init_0 rfl (lv_at hl 0 rfl) ?_
  refine W.objInit hx hb hown (hts _ (.tail _ wo_48)) (hts _ (.tail _ wo_1)) (hts _ (.tail _ wo_2)) rfl (hl.1.trans hml.symm) rfl dX3_init_1 (Nat.le_of_ble_eq_true rfl) (Nat.le_of_ble_eq_true rfl) ?_
  refine W.eq (g2 := F0 m 4 ls []) rfl ?_
  refine lv_aload_n hx hb dX3_init_4 rfl (lv_at hl 0 rfl) ?_
  refine va_new (ci := 0) (fs := [.int 0, .null, .null, .null, .null, .null, .int 0, .int 0, .int 0, .int 0, .int 0, .int 0, .int 0, .int 0]) (C := RX0) (T := TX0) (N := 14) hx hb hts (fun w h => .tail _ (wl_X0 w h)) tyX0 tyX0_ok hown (hts _ (.tail _ wo_49)) (hts _ (.tail _ wo_50)) (hts _ (.tail _ wo_51)) hK hP hD hS hA rfl (fun j hj => by rcases (show j = 0 ∨ j = 1 ∨ j = 2 ∨ j = 3 ∨ j = 4 ∨ j = 5 ∨ j = 6 ∨ j = 7 ∨ j = 8 ∨ j = 9 ∨ j = 10 ∨ j = 11 ∨ j = 12 ∨ j = 13 by omega) with rfl | rfl | rfl | rfl | rfl | rfl | rfl | rfl | rfl | rfl | rfl | rfl | rfl | rfl <;> rfl) (by decide) (by decide) dX3_init_5 (fun q1 H hP hD hS => ?_)
  have hP := hP.sub (ws' := [(q1, .inr (0, [.int 0, .null, .null, .null, .null, .null, .int 0, .int 0, .int 0, .int 0, .int 0, .int 0, .int 0, .int 0]))] ++ [(q, .inr (3, [.null, .null, .null]))]) [1, 0] rfl
  have hD := hD.sub (ws' := [(q1, .inr (0, [.int 0, .null, .null, .null, .null, .null, .int 0, .int 0, .int 0, .int 0, .int 0, .int 0, .int 0, .int 0]))] ++ [(q, .inr (3, [.null, .null, .null]))]) [1, 0] (by decide) rfl
  refine lv_dup hx hb dX3_init_8 rfl ?_
  refine lv_bipush (v := 64) hx hb dX3_init_9 (by decide) ?_
  refine lv_ldc (v := 131072) hx hb hown (hts _ (.tail _ wo_52)) dX3_init_11 ?_
  refine lv_iload_n hx hb dX3_init_13 rfl (lv_at hl 1 rfl) ?_
  refine va_mmin hx hb (hml.trans hl.1.symm) hown (hts _ (.tail _ wo_53)) (hts _ (.tail _ wo_54)) (hts _ (.tail _ wo_55)) (hts _ (.tail _ wo_56)) (Nat.le_of_ble_eq_true rfl) (Nat.le_of_ble_eq_true rfl) (by decide) (by decide) dX3_init_14 ?_
  refine va_mmax hx hb (hml.trans hl.1.symm) hown (hts _ (.tail _ wo_57)) (hts _ (.tail _ wo_58)) (hts _ (.tail _ wo_55)) (hts _ (.tail _ wo_59)) (Nat.le_of_ble_eq_true rfl) (Nat.le_of_ble_eq_true rfl) (by decide) (by decide) dX3_init_17 ?_
  refine lv_topi (fun r hr0 => ?_)
  have hr1 : r = wlim p0 := hr0
  subst hr1
  refine gfWv (gI FX [.int (wlim p0)] (c_hp_init l G cL cZ q1 (wlim p0) _) (cwI 1 hts (gi_0 wo_60) rfl rfl rfl (hts _ (.tail _ wo_51)) (hts _ (.tail _ wo_61)) (hts _ (.tail _ wo_62)) rfl (by decide +kernel) ⟨Nat.le_of_ble_eq_true rfl, Nat.le_of_ble_eq_true rfl⟩) hK (gPl hP) (gDl hD) rfl hl.1 (Nat.le_of_ble_eq_true rfl) dX3_init_20 ⟨by decide, by decide⟩) hP hS hD hA (fun A H locs hP hD hS => ?_)
  have hP : va_P G vwCl (hw cL cZ q1 A (hs0 (wlim p0)) ++ [(q, .inr (3, [.null, .null, .null]))]) H := hP
  have hD : va_D _ (hw cL cZ q1 A (hs0 (wlim p0)) ++ [(q, .inr (3, [.null, .null, .null]))]) := hD
  refine va_putF (D := G) (ci := 3) (v := .ref q1) (ty := .object "WordHeap$Heap") (C := RX3) (T := TX3) (N := 3) hx hb hts (fun w h => .tail _ (wl_X3 w h)) tyX3 tyX3_ok nmX3 hown hK hP hD hS 6 rfl rfl 0 (by decide) (hts _ (.tail _ wo_63)) (fun _ h9 => h9) rfl hin rfl (by decide +kernel) rfl rfl (Nat.le_of_ble_eq_true rfl) dX3_init_23 (fun H locs hP hD hS => ?_)
  have hP : va_P G vwCl (hw cL cZ q1 A (hs0 (wlim p0)) ++ [(q, .inr (3, [.ref q1, .null, .null]))]) H := hP
  have hD : va_D _ (hw cL cZ q1 A (hs0 (wlim p0)) ++ [(q, .inr (3, [.ref q1, .null, .null]))]) := hD
  refine lv_aload_n hx hb dX3_init_26 rfl (lv_at hl 0 rfl) ?_
  refine va_new (ci := 2) (fs := [.null]) (C := RX2) (T := TX2) (N := 1) hx hb hts (fun w h => .tail _ (wl_X2 w h)) tyX2 tyX2_ok hown (hts _ (.tail _ wo_64)) (hts _ (.tail _ wo_65)) (hts _ (.tail _ wo_66)) hK hP hD hS hA rfl (fun j hj => by rcases (show j = 0 by omega) with rfl; rfl) (by decide) (by decide) dX3_init_27 (fun q2 H hP hD hS => ?_)
  have hP := hP.sub (ws' := [(q2, .inr (2, [.null]))] ++ (hw cL cZ q1 A (hs0 (wlim p0)) ++ [(q, .inr (3, [.ref q1, .null, .null]))])) [7, 0, 1, 2, 3, 4, 5, 6] rfl
  have hD := hD.sub (ws' := [(q2, .inr (2, [.null]))] ++ (hw cL cZ q1 A (hs0 (wlim p0)) ++ [(q, .inr (3, [.ref q1, .null, .null]))])) [7, 0, 1, 2, 3, 4, 5, 6] (by decide) rfl
  refine lv_dup hx hb dX3_init_30 rfl ?_
  refine lv_aload_n hx hb dX3_init_31 rfl (lv_at hl 0 rfl) ?_
  refine va_get (D := G) (ci := 3) (v := .ref q1) (C := RX3) (T := TX3) (N := 3) hx hb hts (fun w h => .tail _ (wl_X3 w h)) hown hK hP 7 rfl rfl 0 (by decide) (hts _ (.tail _ wo_63)) (fun _ h9 => h9) rfl dX3_init_32 ?_
  refine gfWv (gI FX [.ref q1] (c_tx_init l G (ct cL cZ) q2 q1 _) (cwI 1 hts (gi_0 wo_67) rfl rfl rfl (hts _ (.tail _ wo_66)) (hts _ (.tail _ wo_68)) (hts _ (.tail _ wo_69)) rfl (by decide +kernel) ⟨Nat.le_of_ble_eq_true rfl, Nat.le_of_ble_eq_true rfl⟩) hK (gPl hP) (gDl hD) rfl hl.1 (Nat.le_of_ble_eq_true rfl) dX3_init_35 ⟨by decide, by decide⟩) hP hS hD hA (fun _ H locs hP hD hS => ?_)
  have hP : va_P G vwCl ([(q2, .inr (2, [.ref q1]))] ++ (hw cL cZ q1 A (hs0 (wlim p0)) ++ [(q, .inr (3, [.ref q1, .null, .null]))])) H := hP
  have hD : va_D _ ([(q2, .inr (2, [.ref q1]))] ++ (hw cL cZ q1 A (hs0 (wlim p0)) ++ [(q, .inr (3, [.ref q1, .null, .null]))])) := hD
  refine va_putF (D := G) (ci := 3) (v := .ref q2) (ty := .object "WordHeap$Texts") (C := RX3) (T := TX3) (N := 3) hx hb hts (fun w h => .tail _ (wl_X3 w h)) tyX3 tyX3_ok nmX3 hown hK hP hD hS 7 rfl rfl 1 (by decide) (hts _ (.tail _ wo_70)) (fun _ h9 => h9) rfl hin rfl (by decide +kernel) rfl rfl (Nat.le_of_ble_eq_true rfl) dX3_init_38 (fun H locs hP hD hS => ?_)
  have hP : va_P G vwCl ([(q2, .inr (2, [.ref q1]))] ++ (hw cL cZ q1 A (hs0 (wlim p0)) ++ [(q, .inr (3, [.ref q1, .ref q2, .null]))])) H := hP
  have hD : va_D _ ([(q2, .inr (2, [.ref q1]))] ++ (hw cL cZ q1 A (hs0 (wlim p0)) ++ [(q, .inr (3, [.ref q1, .ref q2, .null]))])) := hD
  refine lv_aload_n hx hb dX3_init_41 rfl (lv_at hl 0 rfl) ?_
  refine va_new (ci := 1) (fs := [.null, .null]) (C := RX1) (T := TX1) (N := 2) hx hb hts (fun w h => .tail _ (wl_X1 w h)) tyX1 tyX1_ok hown (hts _ (.tail _ wo_71)) (hts _ (.tail _ wo_72)) (hts _ (.tail _ wo_73)) hK hP hD hS hA rfl (fun j hj => by rcases (show j = 0 ∨ j = 1 by omega) with rfl | rfl <;> rfl) (by decide) (by decide) dX3_init_42 (fun q3 H hP hD hS => ?_)
  have hP := hP.sub (ws' := [(q3, .inr (1, [.null, .null]))] ++ ([(q2, .inr (2, [.ref q1]))] ++ (hw cL cZ q1 A (hs0 (wlim p0)) ++ [(q, .inr (3, [.ref q1, .ref q2, .null]))]))) [8, 0, 1, 2, 3, 4, 5, 6, 7] rfl
  have hD := hD.sub (ws' := [(q3, .inr (1, [.null, .null]))] ++ ([(q2, .inr (2, [.ref q1]))] ++ (hw cL cZ q1 A (hs0 (wlim p0)) ++ [(q, .inr (3, [.ref q1, .ref q2, .null]))]))) [8, 0, 1, 2, 3, 4, 5, 6, 7] (by decide) rfl
  refine lv_dup hx hb dX3_init_45 rfl ?_
  refine lv_aload_n hx hb dX3_init_46 rfl (lv_at hl 0 rfl) ?_
  refine va_get (D := G) (ci := 3) (v := .ref q1) (C := RX3) (T := TX3) (N := 3) hx hb hts (fun w h => .tail _ (wl_X3 w h)) hown hK hP 8 rfl rfl 0 (by decide) (hts _ (.tail _ wo_63)) (fun _ h9 => h9) rfl dX3_init_47 ?_
  refine lv_aload_n hx hb dX3_init_50 rfl (lv_at hl 0 rfl) ?_
  refine va_get (D := G) (ci := 3) (v := .ref q2) (C := RX3) (T := TX3) (N := 3) hx hb hts (fun w h => .tail _ (wl_X3 w h)) hown hK hP 8 rfl rfl 1 (by decide) (hts _ (.tail _ wo_70)) (fun _ h9 => h9) rfl dX3_init_51 ?_
  refine gfWv (gI FX [.ref q1, .ref q2] (c_mp_init l G (ct cL cZ) q3 q1 q2 _) (cwI 2 hts (gi_0 wo_74) rfl rfl rfl (hts _ (.tail _ wo_73)) (hts _ (.tail _ wo_75)) (hts _ (.tail _ wo_76)) rfl (by decide +kernel) ⟨Nat.le_of_ble_eq_true rfl, Nat.le_of_ble_eq_true rfl⟩) hK (gPl hP) (gDl hD) rfl hl.1 (Nat.le_of_ble_eq_true rfl) dX3_init_54 ⟨by decide, by decide⟩) hP hS hD hA (fun _ H locs hP hD hS => ?_)
  have hP : va_P G vwCl ([(q3, .inr (1, [.ref q1, .ref q2]))] ++ ([(q2, .inr (2, [.ref q1]))] ++ (hw cL cZ q1 A (hs0 (wlim p0)) ++ [(q, .inr (3, [.ref q1, .ref q2, .null]))]))) H := hP
  have hD : va_D _ ([(q3, .inr (1, [.ref q1, .ref q2]))] ++ ([(q2, .inr (2, [.ref q1]))] ++ (hw cL cZ q1 A (hs0 (wlim p0)) ++ [(q, .inr (3, [.ref q1, .ref q2, .null]))]))) := hD
  refine va_putF (D := G) (ci := 3) (v := .ref q3) (ty := .object "WordHeap$Maps") (C := RX3) (T := TX3) (N := 3) hx hb hts (fun w h => .tail _ (wl_X3 w h)) tyX3 tyX3_ok nmX3 hown hK hP hD hS 8 rfl rfl 2 (by decide) (hts _ (.tail _ wo_77)) (fun _ h9 => h9) rfl hin rfl (by decide +kernel) rfl rfl (Nat.le_of_ble_eq_true rfl) dX3_init_57 (fun H locs hP hD hS => ?_)
  have hP := hP.sub (ws' := cw cL cZ (va_up (va_up (va_up (va_up A 3 q3) 2 q2) 1 q1) 0 q) (va_up (va_up (va_up A 3 q3) 2 q2) 1 q1) (hs0 (wlim p0))) [8, 2, 1, 0, 3, 4, 5, 6, 7] rfl
  have hD := hD.sub (ws' := cw cL cZ (va_up (va_up (va_up (va_up A 3 q3) 2 q2) 1 q1) 0 q) (va_up (va_up (va_up A 3 q3) 2 q2) 1 q1) (hs0 (wlim p0))) [8, 2, 1, 0, 3, 4, 5, 6, 7] (by decide) rfl
  exact grWv (f := fun A z => cw cL cZ (va_up A 0 q) A z) (A1 := va_up (va_up (va_up A 3 q3) 2 q2) 1 q1) (z1 := hs0 (wlim p0)) hx hb hr hlocks hP hK hD hS dX3_init_60 (by decide) (by decide)
