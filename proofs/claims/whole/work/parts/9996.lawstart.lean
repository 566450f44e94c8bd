theorem arrK {args : Array Value} {s : State} {ty : FieldType} (h : (Cond.arrayClass ty).before args s = true) : ∃ cA : ClassId, ArrOfT s cA ty ∧ s.vm.findClass ("[" ++ ty.toString) = some cA := by
  obtain ⟨cA, k, comp, h1, h2, h3⟩ := Cond.arrayClass_spec h
  exact ⟨cA, fun n z => ⟨fun k h => (by cases h), k, h2, comp, h3⟩, h1⟩
theorem st_tx : ∀ q ∈ txC, Cond.stringRef q.1 q.2.1 q.2.2 ∈ lw_tbl := by decide +kernel
theorem st_tx2 : ∀ q ∈ txC, q.1 = RX0 ∨ q.1 = RX3 := by decide +kernel
theorem st_ca : ∀ E ∈ xCls, Cond.castable E E ∈ lw_tbl := by decide +kernel
theorem st_de : ∀ y ∈ xDec, Cond.declares y ∈ lw_tbl := by decide +kernel
theorem st_nc : ∀ q ∈ ncL, Cond.not (.castable q.1 q.2) ∈ flatC (Jvm.Cond.and given_1 narrow_1) := by decide +kernel
theorem st_us : Cond.laysStatic Bundle.tN "UNASSIGNED_STACK" Bundle.steD ∈ lw_tbl := by decide +kernel
theorem st_ss : Cond.laysStatic Bundle.tN "SUPPRESSED_SENTINEL" Bundle.listD ∈ lw_tbl := by decide +kernel
theorem st_ti : Cond.initialized Bundle.tN ∈ lw_tbl := by decide +kernel
theorem st_ur : Cond.isRef (.static Bundle.tN "UNASSIGNED_STACK" Bundle.steD) ∈ flatC (Jvm.Cond.and given_1 narrow_1) := by decide +kernel
theorem st_sr : Cond.isRef (.static Bundle.tN "SUPPRESSED_SENTINEL" Bundle.listD) ∈ flatC (Jvm.Cond.and given_1 narrow_1) := by decide +kernel
set_option maxHeartbeats 4000000 in
set_option maxRecDepth 100000 in
theorem whole_start {p : Program} {e : Env} {s : State} {m : MethodId} {below : List Frame} {meth : Method} {c : Code} (l : Launch) (hl0 : l.stackTraces = false) {b L : Nat} {xs : Nat → Int32} (hL : L ≤ 2561) (C0 : lw_At p s m meth c b L xs) : W p l e room_1 s m #[Value.ref b] below meth c s.heap [] 0 0 (lw_Z below #[Value.ref b] s) (entryFrame m ([Value.ref b] : List Value).toArray 8) := by
  obtain ⟨hx, hb, hr, hml, hown, hts0, hX, hbl, hlocks, hgv⟩ := id C0
  have hown : s.vm.findClass RL = some m.cls := hown
  have hfl := flat_of_before _ hgv
  have hts : ∀ w ∈ lwT, w.before #[Value.ref b] s = true := fun w h => by
    rcases List.mem_cons.mp h with rfl | h
    · exact hts0 _ (AW_tbl wq_221)
    · exact hts0 w (AW_tbl h)
  have hA : ∀ q9 : Nat, s.heap.size ≤ q9 → lwA s q9 := fun _ h => h
  have hbA : ¬ lwA s b := Nat.not_le.mpr hbl
  obtain ⟨c0, iS0, hKn0⟩ := u_known (C := RX0) (T := TX0) (N := 14) (n := 14) hts0 (fun w h => (wi_X0 w h).1) (hts _ (.tail _ wq_233))
  obtain ⟨c1, iS1, hKn1⟩ := u_known (C := RX1) (T := TX1) (N := 2) (n := 2) hts0 (fun w h => (wi_X1 w h).1) (hts _ (.tail _ wq_234))
  obtain ⟨c2, iS2, hKn2⟩ := u_known (C := RX2) (T := TX2) (N := 1) (n := 1) hts0 (fun w h => (wi_X2 w h).1) (hts _ (.tail _ wq_235))
  obtain ⟨c3, iS3, hKn3⟩ := u_known (C := RX3) (T := TX3) (N := 3) (n := 3) hts0 (fun w h => (wi_X3 w h).1) (hts _ (.tail _ wq_216))
  obtain ⟨c4, iS4, hKn4⟩ := u_known (C := RX4) (T := TX4) (N := 32) (n := 32) hts0 (fun w h => (wi_X4 w h).1) (hts _ (.tail _ wq_218))
  obtain ⟨G, hKg⟩ : ∃ G : va_G, ∀ (k : Nat) (q : vw_C), vwCl[k]? = some q → u_Kn s q.1 q.2.1 q.2.2 (G.1 k) (G.2 k) := by
    refine ⟨(fun k => if k = 0 then c0 else if k = 1 then c1 else if k = 2 then c2 else if k = 3 then c3 else c4, fun k => if k = 0 then iS0 else if k = 1 then iS1 else if k = 2 then iS2 else if k = 3 then iS3 else iS4), ?_⟩
    intro k q hq
    match k, hq with
    | 0, hq => cases hq; exact hKn0
    | 1, hq => cases hq; exact hKn1
    | 2, hq => cases hq; exact hKn2
    | 3, hq => cases hq; exact hKn3
    | 4, hq => cases hq; exact hKn4
    | k + 5, hq => simp [vwCl] at hq
  obtain ⟨cI, aI, nI⟩ := arrK (hts _ (.tail _ wq_230))
  obtain ⟨cL, aL, nL⟩ := arrK (hts _ (.tail _ wq_229))
  obtain ⟨cZ, aZ, nZ⟩ := arrK (hts _ (.tail _ wq_231))
  obtain ⟨cB, aB, nB⟩ := arrK (hts _ (.tail _ wq_232))
  have hK : va_K G vwCl (mt cI cL cZ cB) s := by
    refine ⟨hKg, ?_⟩
    intro k q hq
    match k, hq with
    | 0, hq => cases hq; exact ⟨aI, nI⟩
    | 1, hq => cases hq; exact ⟨aL, nL⟩
    | 2, hq => cases hq; exact ⟨aZ, nZ⟩
    | 3, hq => cases hq; exact ⟨aB, nB⟩
    | k + 4, hq => simp [mt] at hq
  have hKc : va_K G vwCl (ct cL cZ) s := hK.sub (tys' := ct cL cZ) [1, 2] rfl
  have hT : gTh txC (lwA s) s s.heap := by
    refine ⟨vx_Zqof (hts0 _ st_us) (hts0 _ st_ti) (hfl _ st_ur) (fun a h => Nat.not_le.mpr h), vx_Zqof (hts0 _ st_ss) (hts0 _ st_ti) (hfl _ st_sr) (fun a h => Nat.not_le.mpr h), ?_, ?_, ?_⟩
    · intro q hq
      have hs := hts0 _ (st_tx q hq)
      have hc : ∃ cur, s.vm.findClass q.1 = some cur := by
        rcases st_tx2 q hq with h | h
        · rw [h]; exact ⟨_, hKn0.2.1⟩
        · rw [h]; exact ⟨_, hKn3.2.1⟩
      obtain ⟨cur, hc⟩ := hc
      obtain ⟨k, cf, i, a, -, -, -, -, -, hev⟩ := Cond.stringRef_spec hc hs
      exact ⟨a, vk_R.of hs hev⟩
    · intro E hE
      exact va_Nw.of rfl (hts0 _ (st_ca E hE))
    · intro y hy
      exact va_Nw.of rfl (hts0 _ (st_de y hy))
  have hN : gNc s := fun q hq => va_Nc.of (hfl _ (st_nc q hq))
  have X : LX p l s m meth c b L xs G cI cL cZ cB := ⟨hx, hb, hr, hml, hown, hts, hX, hbl, hlocks, hl0, hK, hT, hN, hL⟩
  have FX : CallFix p m c code 8 s _ lwT RL := ⟨hx, hb, hml, hown, hts⟩
  have hS : va_S (lwA s) s.heap s.heap [] := va_S.rf
  have hP : va_P G vwCl [] s.heap := fun k q h => by simp at h
  have hD : va_D (lwA s) [] := ⟨fun i j p q h => by simp at h, fun k q h => by simp at h⟩
  have hl := lv_entry ([.ref b]) (n := 8) (Nat.le_of_ble_eq_true rfl)
  rw [lg_entry_eq]
  generalize (lg_sl ([.ref b]) ++ List.replicate (8 - (lg_sl ([.ref b])).length) Slot.unset).toArray = ls at hl ⊢
  have hl : lv_has ls 8 [(0, .ref b)] := hl
  refine va_new (ci := 3) (fs := [.null, .null, .null]) (C := RX3) (T := TX3) (N := 3) hx hb hts (fun w h => .tail _ (wl_X3 w h)) tyX3 tyX3_ok hown (hts _ (.tail _ wq_215)) (hts _ (.tail _ wq_216)) (hts _ (.tail _ wq_169)) hK hP hD hS hA rfl (fun j hj => by rcases (show j = 0 ∨ j = 1 ∨ j = 2 by omega) with rfl | rfl | rfl <;> rfl) (by decide) (by decide) dL_law_0 (fun q0 H hP hD hS => ?_)
  have hP : va_P G vwCl ([(q0, .inr (3, [.null, .null, .null]))] ++ []) H := hP
  have hD : va_D (lwA s) ([(q0, .inr (3, [.null, .null, .null]))] ++ []) := hD
  refine lv_dup hx hb dL_law_3 rfl ?_
  refine lv_aload_n hx hb dL_law_4 rfl (lv_at hl 0 rfl) ?_
  refine lv_iconst (v := 0) hx hb dL_law_5 (by decide) ?_
  refine gcN (gSc FX (c_la_cell l b L xs H.size hL (Nat.lt_of_lt_of_le hbl hS.1)) (cwS 2 hts (gi_S wq_219 wq_220 wq_221 wq_222) rfl rfl rfl hdS_L_cell ⟨Nat.le_of_ble_eq_true rfl, Nat.le_of_ble_eq_true rfl⟩) hX hbl hbA hS hl.1 (Nat.le_of_ble_eq_true rfl) dL_law_6 ⟨by decide, by decide⟩) hP hS hA (fun H locs hP hS => ?_)
  refine gfWv (gI FX [.int (cv0 L xs)] (c_wh_init l G cL cZ q0 (cv0 L xs) _) (cwI 1 hts (gi_0 wq_225) rfl rfl rfl (hts _ (.tail _ wq_169)) (hts _ (.tail _ wq_223)) (hts _ (.tail _ wq_224)) rfl (by decide +kernel) ⟨Nat.le_of_ble_eq_true rfl, Nat.le_of_ble_eq_true rfl⟩) hKc (gPl hP) (gDl hD) rfl hl.1 (Nat.le_of_ble_eq_true rfl) dL_law_9 ⟨by decide, by decide⟩) hP hS hD hA (fun A1 H locs hP hD hS => ?_)
  obtain ⟨Qf, hQf⟩ : ∃ Qf, Qf = va_up A1 0 q0 := ⟨_, rfl⟩
  have hq0 : Qf 0 = q0 := by rw [hQf]; rfl
  have hP : va_P G vwCl (cw cL cZ (va_up A1 0 q0) A1 (hs0 (wlim (cv0 L xs))) ++ []) H := hP
  have hD : va_D (lwA s) (cw cL cZ (va_up A1 0 q0) A1 (hs0 (wlim (cv0 L xs))) ++ []) := hD
  rw [List.append_nil, ← hQf] at hP hD
  rw [← hq0]
  refine lv_astore_n (lv' := [(1, .ref (Qf 0)), (0, .ref b)]) hx hb dL_law_12 rfl hl (by decide) rfl (fun ls hl => ?_)
  refine va_new (ci := 4) (fs := [.int 0, .long 0, .int 0, .long 0, .long 0, .long 0, .int 0, .null, .null, .int 0, .null, .null, .null, .null, .null, .null, .null, .null, .null, .null, .null, .null, .null, .null, .int 0, .null, .int 0, .null, .null, .null, .null, .int 0]) (C := RX4) (T := TX4) (N := 32) hx hb hts (fun w h => .tail _ (wl_X4 w h)) tyX4 tyX4_ok hown (hts _ (.tail _ wq_217)) (hts _ (.tail _ wq_218)) (hts _ (.tail _ wq_8)) hK hP hD hS hA rfl (fun j hj => by rcases (show j = 0 ∨ j = 1 ∨ j = 2 ∨ j = 3 ∨ j = 4 ∨ j = 5 ∨ j = 6 ∨ j = 7 ∨ j = 8 ∨ j = 9 ∨ j = 10 ∨ j = 11 ∨ j = 12 ∨ j = 13 ∨ j = 14 ∨ j = 15 ∨ j = 16 ∨ j = 17 ∨ j = 18 ∨ j = 19 ∨ j = 20 ∨ j = 21 ∨ j = 22 ∨ j = 23 ∨ j = 24 ∨ j = 25 ∨ j = 26 ∨ j = 27 ∨ j = 28 ∨ j = 29 ∨ j = 30 ∨ j = 31 by omega) with rfl | rfl | rfl | rfl | rfl | rfl | rfl | rfl | rfl | rfl | rfl | rfl | rfl | rfl | rfl | rfl | rfl | rfl | rfl | rfl | rfl | rfl | rfl | rfl | rfl | rfl | rfl | rfl | rfl | rfl | rfl | rfl <;> rfl) (by decide) (by decide) dL_law_13 (fun q H hP hD hS => ?_)
  have hP := gsP hP
  have hD := gsD hD
  refine lv_dup hx hb dL_law_16 rfl ?_
  refine lv_aload_n hx hb dL_law_17 rfl (lv_at hl 1 rfl) ?_
  refine lv_iconst (v := 0) hx hb dL_law_18 (by decide) ?_
  refine gcN (gSc FX (c_la_cell l b L xs H.size hL (Nat.lt_of_lt_of_le hbl hS.1)) (cwS 2 hts (gi_S wq_219 wq_220 wq_221 wq_222) rfl rfl rfl hdS_L_cell ⟨Nat.le_of_ble_eq_true rfl, Nat.le_of_ble_eq_true rfl⟩) hX hbl hbA hS hl.1 (Nat.le_of_ble_eq_true rfl) dL_law_19 ⟨by decide, by decide⟩) hP hS hA (fun H locs hP hS => ?_)
  refine gfWv (gI FX [.int (cv0 L xs)] (c_md_init l G cI cL cZ cB q (cv0 L xs) _) (cwI 1 hts (gi_0 wq_228) rfl rfl rfl (hts _ (.tail _ wq_8)) (hts _ (.tail _ wq_226)) (hts _ (.tail _ wq_227)) rfl (by decide +kernel) ⟨Nat.le_of_ble_eq_true rfl, Nat.le_of_ble_eq_true rfl⟩) hK (gPl hP) (gDl hD) rfl hl.1 (Nat.le_of_ble_eq_true rfl) dL_law_22 ⟨by decide, by decide⟩) hP hS hD hA (fun A2 H locs hP hD hS => ?_)
  refine lv_astore_n (lv' := [(2, .ref q), (1, .ref (Qf 0)), (0, .ref b)]) hx hb dL_law_25 rfl hl (by decide) rfl (fun ls hl => ?_)
  refine lv_iconst (v := 1) hx hb dL_law_26 (by decide) ?_
  refine gnewa (n := 1) (atype := .long) (t0 := 1) (a0 := (1, .inr (.inl (fun _ => 0)))) hx hb (hts _ (.tail _ wq_229)) rfl (fun C h => by cases h) hK rfl hP hD hS hA (fun cA => rfl) (by decide) (by decide +kernel) (by decide) (by decide +kernel) dL_law_27 (fun bo H hP hD hS => ?_)
  rw [List.append_assoc] at hP hD
  have hP := gsP hP
  have hD := gsD hD
  refine lv_astore_n (lv' := [(3, .ref bo), (2, .ref q), (1, .ref (Qf 0)), (0, .ref b)]) hx hb dL_law_29 rfl hl (by decide) rfl (fun ls hl => ?_)
  refine lv_iconst (v := 1) hx hb dL_law_30 (by decide) ?_
  refine lv_istore (lv' := [(4, .int 1), (3, .ref bo), (2, .ref q), (1, .ref (Qf 0)), (0, .ref b)]) hx hb dL_law_31 hl (by decide) rfl (fun ls hl => ?_)
  obtain ⟨lm, S⟩ := J_init (cv0 L xs)
  have n1 : (1 : Int32).toNatClampNeg = 1 := rfl
  exact law_loop X (lm := lm) 2561 1 0 rfl (by omega) (by omega) _ _ _ A1 A2 (hs0 (wlim (cv0 L xs)), fun _ => 0) (ms0 (mlim (cv0 L xs))) _ _ ⟨hP, hD, hS⟩ (lv_sub hl [4, 3, 2, 1, 0] rfl) ⟨S, by omega, by omega⟩
