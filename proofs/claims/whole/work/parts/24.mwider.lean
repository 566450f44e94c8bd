set_option maxHeartbeats 4000000 in
set_option maxRecDepth 100000 in
/-- wider: a new array of twice the length, the old content first -/
theorem c_md_wider (l : Launch) (G : va_G) (cI cL cZ cB : ClassId) (a0 : Nat) (n : Nat) (f : Nat → Int32) (sz : Nat) (hn : 64 ≤ n ∧ n ≤ 16777216) : Met l yX4_wider vX4_wider { frames := 0, cells := 1, slots := 2 * n, locals := 0 } (gPc G vwCl (mt cI cL cZ cB) [.ref a0] [(a0, .inl (cI, n, .inl f))] sz) (qA G vwCl (mt cI cL cZ cB) a0 (.inl (cI, n, .inl f)) (.inl (cI, 2 * n, .inl (wdI f n))) sz) 1 (2 * n) (va_A [(a0, .inl (cI, n, .inl f))] sz) := by
  refine gMet (by decide) rfl (Nat.le_of_ble_eq_true rfl) ?_
  intro p e s m below meth c ls C hK hP hD hsz hl
  subst hsz
  obtain ⟨hx, hb, hr, hml, hown, hts, hlocks⟩ := id C
  have hA : ∀ q : Nat, s.heap.size ≤ q → va_A [(a0, .inl (cI, n, .inl f))] s.heap.size q := fun q h => Or.inr h
  have hS : va_S (va_A [(a0, .inl (cI, n, .inl f))] s.heap.size) s.heap s.heap [] := va_S.rf
  have hl : lv_has ls 3 [(0, .ref a0)] := hl
  have h2 : (2 : Int32) * Int32.ofNat n = nI (2 * n) := pk_mul 2 n
  have hN : ((2 : Int32) * Int32.ofNat n).toNatClampNeg = 2 * n := by rw [h2]; exact nI_clamp (by omega)
  refine lv_iconst (v := 2) hx hb dX4_wider_0 (by decide) ?_
  refine lv_aload_n hx hb dX4_wider_1 rfl (lv_at hl 0 rfl) ?_
  refine va_alen hx hb hK hP 0 0 rfl rfl (v := Int32.ofNat n) rfl dX4_wider_2 ?_
  refine lv_imul hx hb dX4_wider_3 ?_
  refine gnewa (atype := .int) (t0 := 0) (a0 := (2 * n, .inl (fun _ => 0))) hx hb (hts _ (.tail _ wm_166)) rfl (fun C h => by cases h) hK rfl hP hD hS hA (fun cA => by rw [hN]; rfl) (by rw [h2]; exact nI_pos (by omega)) (by rw [hN]; show 2 * n * componentBytes .int ≤ 536870912; simp only [componentBytes]; omega) (by show _ ≤ 1; omega) (by rw [hN]; show _ ≤ 2 * n; omega) dX4_wider_4 (fun x H hP hD hS => ?_)
  refine W.widen (k := 1) (n := 2 * n) (by omega) (by rw [hN]; omega) ?_
  have hP : va_P G vwCl [(a0, .inl (cI, n, .inl f)), (x, .inl (cI, 2 * n, .inl (fun _ => 0)))] H := hP
  have hD : va_D (va_A [(a0, .inl (cI, n, .inl f))] s.heap.size) [(a0, .inl (cI, n, .inl f)), (x, .inl (cI, 2 * n, .inl (fun _ => 0)))] := hD
  refine lv_astore_n (lv' := [(1, .ref x), (0, .ref a0)]) hx hb dX4_wider_6 rfl hl (by decide) rfl (fun ls hl => ?_)
  refine lv_iconst (v := 0) hx hb dX4_wider_7 (by decide) ?_
  refine lv_istore_n (lv' := [(2, .int 0), (1, .ref x), (0, .ref a0)]) hx hb dX4_wider_8 rfl hl (by decide) rfl (fun ls hl => ?_)
  have loop : ∀ (k i : Nat), i + k = n → ∀ (g : Nat → Int32), (∀ j, g j = if j < i then (f j) else 0) → ∀ (H : Heap) (locs : List Loc) (ls : Array Slot), va_P G vwCl [(a0, .inl (cI, n, .inl f)), (x, .inl (cI, 2 * n, .inl g))] H → va_D (va_A [(a0, .inl (cI, n, .inl f))] s.heap.size) [(a0, .inl (cI, n, .inl f)), (x, .inl (cI, 2 * n, .inl g))] → va_S (va_A [(a0, .inl (cI, n, .inl f))] s.heap.size) s.heap H locs → lv_has ls 3 [(2, .int (nI i)), (1, .ref x), (0, .ref a0)] →
      W p l e { frames := 0, cells := 1, slots := 2 * n, locals := 0 } s m [Value.ref a0].toArray below meth c H locs 1 (2 * n) (MQ below (qA G vwCl (mt cI cL cZ cB) a0 (.inl (cI, n, .inl f)) (.inl (cI, 2 * n, .inl (wdI f n))) s.heap.size) [Value.ref a0].toArray s 1 (2 * n) (va_A [(a0, .inl (cI, n, .inl f))] s.heap.size)) (F0 m 9 ls []) := by
    intro k
    induction k with
    | zero =>
      intro i hi g hg H locs ls hP hD hS hl
      refine lv_iload_n hx hb dX4_wider_9 rfl (lv_at hl 0 rfl) ?_
      refine lv_aload_n hx hb dX4_wider_10 rfl (lv_at hl 2 rfl) ?_
      refine va_alen hx hb hK hP 0 0 rfl rfl (v := Int32.ofNat n) rfl dX4_wider_11 ?_
      refine lv_icmp_ge (tgt := 27) hx hb dX4_wider_12 (by decide) (fun c1 => ?_) (fun c1 => ?_)
      · have hgw : g = wdI f n := by
          funext j
          rw [hg j, show i = n by omega]
          rfl
        subst hgw
        refine lv_aload_n hx hb dX4_wider_27 rfl (lv_at hl 1 rfl) ?_
        exact W.aret hx hb hr (Or.inr ⟨_, rfl⟩) (Or.inr ⟨x, rfl⟩) (fun t ht hW => ⟨⟨(), x, rfl, trivial, by rw [ht]; exact hP, va_K.moved hW.alike hK, hD⟩, hS.F ht⟩) hS.2.2 dX4_wider_28
      · exact absurd (nI_le (show n ≤ i by omega) (by omega)) c1
    | succ k ih =>
      intro i hi g hg H locs ls hP hD hS hl
      refine lv_iload_n hx hb dX4_wider_9 rfl (lv_at hl 0 rfl) ?_
      refine lv_aload_n hx hb dX4_wider_10 rfl (lv_at hl 2 rfl) ?_
      refine va_alen hx hb hK hP 0 0 rfl rfl (v := Int32.ofNat n) rfl dX4_wider_11 ?_
      refine lv_icmp_ge (tgt := 27) hx hb dX4_wider_12 (by decide) (fun c1 => ?_) (fun c1 => ?_)
      · exact absurd c1 (nI_ge (show i < n by omega) (by omega))
      · refine lv_aload_n hx hb dX4_wider_15 rfl (lv_at hl 1 rfl) ?_
        refine lv_iload_n hx hb dX4_wider_16 rfl (lv_at hl 0 rfl) ?_
        refine lv_aload_n hx hb dX4_wider_17 rfl (lv_at hl 2 rfl) ?_
        refine lv_iload_n hx hb dX4_wider_18 rfl (lv_at hl 0 rfl) ?_
        refine va_iald (f := f) (n := n) hx hb hK hP 0 0 rfl rfl (vp_in_nI (by omega) (by omega)) dX4_wider_19 ?_
        refine va_iast (f := g) (n := 2 * n) hx hb hK hP hD hS 1 0 rfl rfl (vp_in_nI (by omega) (by omega)) dX4_wider_20 (fun H locs hP hD hS => ?_)
        refine lv_iinc (v := nI (i + 1)) (lv' := [(2, .int (nI (i + 1))), (1, .ref x), (0, .ref a0)]) hx hb dX4_wider_21 hl (k := 0) rfl (nI_1 i) (by decide) rfl (fun ls hl => ?_)
        refine lv_goto (tgt := 9) hx hb dX4_wider_24 (by decide) ?_
        refine ih (i + 1) (by omega) _ (fun j => ?_) H locs ls hP hD hS hl
        rw [nI_clamp (show i < 2 ^ 31 by omega)]
        by_cases hj : j = i
        · subst hj
          simp [upd]
        · have h3 : (j < i + 1) = (j < i) := by apply propext; omega
          simp only [upd, if_neg hj, h3]
          exact hg j
  exact loop n 0 (by omega) _ (fun j => by simp) _ _ _ hP hD hS hl

set_option maxHeartbeats 4000000 in
set_option maxRecDepth 100000 in
/-- widerLongs: a new array of twice the length, the old content first -/
theorem c_md_widerLongs (l : Launch) (G : va_G) (cI cL cZ cB : ClassId) (a0 : Nat) (n : Nat) (f : Nat → Int64) (sz : Nat) (hn : 64 ≤ n ∧ n ≤ 16777216) : Met l yX4_widerLongs vX4_widerLongs { frames := 0, cells := 1, slots := 2 * n, locals := 0 } (gPc G vwCl (mt cI cL cZ cB) [.ref a0] [(a0, .inl (cL, n, .inr (.inl f)))] sz) (qA G vwCl (mt cI cL cZ cB) a0 (.inl (cL, n, .inr (.inl f))) (.inl (cL, 2 * n, .inr (.inl (wdJ f n)))) sz) 1 (2 * n) (va_A [(a0, .inl (cL, n, .inr (.inl f)))] sz) := by
  refine gMet (by decide) rfl (Nat.le_of_ble_eq_true rfl) ?_
  intro p e s m below meth c ls C hK hP hD hsz hl
  subst hsz
  obtain ⟨hx, hb, hr, hml, hown, hts, hlocks⟩ := id C
  have hA : ∀ q : Nat, s.heap.size ≤ q → va_A [(a0, .inl (cL, n, .inr (.inl f)))] s.heap.size q := fun q h => Or.inr h
  have hS : va_S (va_A [(a0, .inl (cL, n, .inr (.inl f)))] s.heap.size) s.heap s.heap [] := va_S.rf
  have hl : lv_has ls 3 [(0, .ref a0)] := hl
  have h2 : (2 : Int32) * Int32.ofNat n = nI (2 * n) := pk_mul 2 n
  have hN : ((2 : Int32) * Int32.ofNat n).toNatClampNeg = 2 * n := by rw [h2]; exact nI_clamp (by omega)
  refine lv_iconst (v := 2) hx hb dX4_widerLongs_0 (by decide) ?_
  refine lv_aload_n hx hb dX4_widerLongs_1 rfl (lv_at hl 0 rfl) ?_
  refine va_alen hx hb hK hP 0 1 rfl rfl (v := Int32.ofNat n) rfl dX4_widerLongs_2 ?_
  refine lv_imul hx hb dX4_widerLongs_3 ?_
  refine gnewa (atype := .long) (t0 := 1) (a0 := (2 * n, .inr (.inl (fun _ => 0)))) hx hb (hts _ (.tail _ wm_167)) rfl (fun C h => by cases h) hK rfl hP hD hS hA (fun cA => by rw [hN]; rfl) (by rw [h2]; exact nI_pos (by omega)) (by rw [hN]; show 2 * n * componentBytes .long ≤ 536870912; simp only [componentBytes]; omega) (by show _ ≤ 1; omega) (by rw [hN]; show _ ≤ 2 * n; omega) dX4_widerLongs_4 (fun x H hP hD hS => ?_)
  refine W.widen (k := 1) (n := 2 * n) (by omega) (by rw [hN]; omega) ?_
  have hP : va_P G vwCl [(a0, .inl (cL, n, .inr (.inl f))), (x, .inl (cL, 2 * n, .inr (.inl (fun _ => 0))))] H := hP
  have hD : va_D (va_A [(a0, .inl (cL, n, .inr (.inl f)))] s.heap.size) [(a0, .inl (cL, n, .inr (.inl f))), (x, .inl (cL, 2 * n, .inr (.inl (fun _ => 0))))] := hD
  refine lv_astore_n (lv' := [(1, .ref x), (0, .ref a0)]) hx hb dX4_widerLongs_6 rfl hl (by decide) rfl (fun ls hl => ?_)
  refine lv_iconst (v := 0) hx hb dX4_widerLongs_7 (by decide) ?_
  refine lv_istore_n (lv' := [(2, .int 0), (1, .ref x), (0, .ref a0)]) hx hb dX4_widerLongs_8 rfl hl (by decide) rfl (fun ls hl => ?_)
  have loop : ∀ (k i : Nat), i + k = n → ∀ (g : Nat → Int64), (∀ j, g j = if j < i then (f j) else 0) → ∀ (H : Heap) (locs : List Loc) (ls : Array Slot), va_P G vwCl [(a0, .inl (cL, n, .inr (.inl f))), (x, .inl (cL, 2 * n, .inr (.inl g)))] H → va_D (va_A [(a0, .inl (cL, n, .inr (.inl f)))] s.heap.size) [(a0, .inl (cL, n, .inr (.inl f))), (x, .inl (cL, 2 * n, .inr (.inl g)))] → va_S (va_A [(a0, .inl (cL, n, .inr (.inl f)))] s.heap.size) s.heap H locs → lv_has ls 3 [(2, .int (nI i)), (1, .ref x), (0, .ref a0)] →
      W p l e { frames := 0, cells := 1, slots := 2 * n, locals := 0 } s m [Value.ref a0].toArray below meth c H locs 1 (2 * n) (MQ below (qA G vwCl (mt cI cL cZ cB) a0 (.inl (cL, n, .inr (.inl f))) (.inl (cL, 2 * n, .inr (.inl (wdJ f n)))) s.heap.size) [Value.ref a0].toArray s 1 (2 * n) (va_A [(a0, .inl (cL, n, .inr (.inl f)))] s.heap.size)) (F0 m 9 ls []) := by
    intro k
    induction k with
    | zero =>
      intro i hi g hg H locs ls hP hD hS hl
      refine lv_iload_n hx hb dX4_widerLongs_9 rfl (lv_at hl 0 rfl) ?_
      refine lv_aload_n hx hb dX4_widerLongs_10 rfl (lv_at hl 2 rfl) ?_
      refine va_alen hx hb hK hP 0 1 rfl rfl (v := Int32.ofNat n) rfl dX4_widerLongs_11 ?_
      refine lv_icmp_ge (tgt := 27) hx hb dX4_widerLongs_12 (by decide) (fun c1 => ?_) (fun c1 => ?_)
      · have hgw : g = wdJ f n := by
          funext j
          rw [hg j, show i = n by omega]
          rfl
        subst hgw
        refine lv_aload_n hx hb dX4_widerLongs_27 rfl (lv_at hl 1 rfl) ?_
        exact W.aret hx hb hr (Or.inr ⟨_, rfl⟩) (Or.inr ⟨x, rfl⟩) (fun t ht hW => ⟨⟨(), x, rfl, trivial, by rw [ht]; exact hP, va_K.moved hW.alike hK, hD⟩, hS.F ht⟩) hS.2.2 dX4_widerLongs_28
      · exact absurd (nI_le (show n ≤ i by omega) (by omega)) c1
    | succ k ih =>
      intro i hi g hg H locs ls hP hD hS hl
      refine lv_iload_n hx hb dX4_widerLongs_9 rfl (lv_at hl 0 rfl) ?_
      refine lv_aload_n hx hb dX4_widerLongs_10 rfl (lv_at hl 2 rfl) ?_
      refine va_alen hx hb hK hP 0 1 rfl rfl (v := Int32.ofNat n) rfl dX4_widerLongs_11 ?_
      refine lv_icmp_ge (tgt := 27) hx hb dX4_widerLongs_12 (by decide) (fun c1 => ?_) (fun c1 => ?_)
      · exact absurd c1 (nI_ge (show i < n by omega) (by omega))
      · refine lv_aload_n hx hb dX4_widerLongs_15 rfl (lv_at hl 1 rfl) ?_
        refine lv_iload_n hx hb dX4_widerLongs_16 rfl (lv_at hl 0 rfl) ?_
        refine lv_aload_n hx hb dX4_widerLongs_17 rfl (lv_at hl 2 rfl) ?_
        refine lv_iload_n hx hb dX4_widerLongs_18 rfl (lv_at hl 0 rfl) ?_
        refine va_lald (f := f) (n := n) hx hb hK hP 0 1 rfl rfl (vp_in_nI (by omega) (by omega)) dX4_widerLongs_19 ?_
        refine va_last (f := g) (n := 2 * n) hx hb hK hP hD hS 1 1 rfl rfl (vp_in_nI (by omega) (by omega)) dX4_widerLongs_20 (fun H locs hP hD hS => ?_)
        refine lv_iinc (v := nI (i + 1)) (lv' := [(2, .int (nI (i + 1))), (1, .ref x), (0, .ref a0)]) hx hb dX4_widerLongs_21 hl (k := 0) rfl (nI_1 i) (by decide) rfl (fun ls hl => ?_)
        refine lv_goto (tgt := 9) hx hb dX4_widerLongs_24 (by decide) ?_
        refine ih (i + 1) (by omega) _ (fun j => ?_) H locs ls hP hD hS hl
        rw [nI_clamp (show i < 2 ^ 31 by omega)]
        by_cases hj : j = i
        · subst hj
          simp [vp_updL]
        · have h3 : (j < i + 1) = (j < i) := by apply propext; omega
          simp only [vp_updL, if_neg hj, h3]
          exact hg j
  exact loop n 0 (by omega) _ (fun j => by simp) _ _ _ hP hD hS hl

set_option maxHeartbeats 4000000 in
set_option maxRecDepth 100000 in
/-- widerTruths: a new array of twice the length, the old content first -/
theorem c_md_widerTruths (l : Launch) (G : va_G) (cI cL cZ cB : ClassId) (a0 : Nat) (n : Nat) (f : Nat → Int32) (sz : Nat) (hn : 64 ≤ n ∧ n ≤ 16777216) : Met l yX4_widerTruths vX4_widerTruths { frames := 0, cells := 1, slots := 2 * n, locals := 0 } (gPc G vwCl (mt cI cL cZ cB) [.ref a0] [(a0, .inl (cZ, n, .inl f))] sz) (qA G vwCl (mt cI cL cZ cB) a0 (.inl (cZ, n, .inl f)) (.inl (cZ, 2 * n, .inl (wdZ f n))) sz) 1 (2 * n) (va_A [(a0, .inl (cZ, n, .inl f))] sz) := by
  refine gMet (by decide) rfl (Nat.le_of_ble_eq_true rfl) ?_
  intro p e s m below meth c ls C hK hP hD hsz hl
  subst hsz
  obtain ⟨hx, hb, hr, hml, hown, hts, hlocks⟩ := id C
  have hA : ∀ q : Nat, s.heap.size ≤ q → va_A [(a0, .inl (cZ, n, .inl f))] s.heap.size q := fun q h => Or.inr h
  have hS : va_S (va_A [(a0, .inl (cZ, n, .inl f))] s.heap.size) s.heap s.heap [] := va_S.rf
  have hl : lv_has ls 3 [(0, .ref a0)] := hl
  have h2 : (2 : Int32) * Int32.ofNat n = nI (2 * n) := pk_mul 2 n
  have hN : ((2 : Int32) * Int32.ofNat n).toNatClampNeg = 2 * n := by rw [h2]; exact nI_clamp (by omega)
  refine lv_iconst (v := 2) hx hb dX4_widerTruths_0 (by decide) ?_
  refine lv_aload_n hx hb dX4_widerTruths_1 rfl (lv_at hl 0 rfl) ?_
  refine va_alen hx hb hK hP 0 2 rfl rfl (v := Int32.ofNat n) rfl dX4_widerTruths_2 ?_
  refine lv_imul hx hb dX4_widerTruths_3 ?_
  refine gnewa (atype := .boolean) (t0 := 2) (a0 := (2 * n, .inl (fun _ => 0))) hx hb (hts _ (.tail _ wm_168)) rfl (fun C h => by cases h) hK rfl hP hD hS hA (fun cA => by rw [hN]; rfl) (by rw [h2]; exact nI_pos (by omega)) (by rw [hN]; show 2 * n * componentBytes .boolean ≤ 536870912; simp only [componentBytes]; omega) (by show _ ≤ 1; omega) (by rw [hN]; show _ ≤ 2 * n; omega) dX4_widerTruths_4 (fun x H hP hD hS => ?_)
  refine W.widen (k := 1) (n := 2 * n) (by omega) (by rw [hN]; omega) ?_
  have hP : va_P G vwCl [(a0, .inl (cZ, n, .inl f)), (x, .inl (cZ, 2 * n, .inl (fun _ => 0)))] H := hP
  have hD : va_D (va_A [(a0, .inl (cZ, n, .inl f))] s.heap.size) [(a0, .inl (cZ, n, .inl f)), (x, .inl (cZ, 2 * n, .inl (fun _ => 0)))] := hD
  refine lv_astore_n (lv' := [(1, .ref x), (0, .ref a0)]) hx hb dX4_widerTruths_6 rfl hl (by decide) rfl (fun ls hl => ?_)
  refine lv_iconst (v := 0) hx hb dX4_widerTruths_7 (by decide) ?_
  refine lv_istore_n (lv' := [(2, .int 0), (1, .ref x), (0, .ref a0)]) hx hb dX4_widerTruths_8 rfl hl (by decide) rfl (fun ls hl => ?_)
  have loop : ∀ (k i : Nat), i + k = n → ∀ (g : Nat → Int32), (∀ j, g j = if j < i then (vp_nar .boolean (f j)) else 0) → ∀ (H : Heap) (locs : List Loc) (ls : Array Slot), va_P G vwCl [(a0, .inl (cZ, n, .inl f)), (x, .inl (cZ, 2 * n, .inl g))] H → va_D (va_A [(a0, .inl (cZ, n, .inl f))] s.heap.size) [(a0, .inl (cZ, n, .inl f)), (x, .inl (cZ, 2 * n, .inl g))] → va_S (va_A [(a0, .inl (cZ, n, .inl f))] s.heap.size) s.heap H locs → lv_has ls 3 [(2, .int (nI i)), (1, .ref x), (0, .ref a0)] →
      W p l e { frames := 0, cells := 1, slots := 2 * n, locals := 0 } s m [Value.ref a0].toArray below meth c H locs 1 (2 * n) (MQ below (qA G vwCl (mt cI cL cZ cB) a0 (.inl (cZ, n, .inl f)) (.inl (cZ, 2 * n, .inl (wdZ f n))) s.heap.size) [Value.ref a0].toArray s 1 (2 * n) (va_A [(a0, .inl (cZ, n, .inl f))] s.heap.size)) (F0 m 9 ls []) := by
    intro k
    induction k with
    | zero =>
      intro i hi g hg H locs ls hP hD hS hl
      refine lv_iload_n hx hb dX4_widerTruths_9 rfl (lv_at hl 0 rfl) ?_
      refine lv_aload_n hx hb dX4_widerTruths_10 rfl (lv_at hl 2 rfl) ?_
      refine va_alen hx hb hK hP 0 2 rfl rfl (v := Int32.ofNat n) rfl dX4_widerTruths_11 ?_
      refine lv_icmp_ge (tgt := 27) hx hb dX4_widerTruths_12 (by decide) (fun c1 => ?_) (fun c1 => ?_)
      · have hgw : g = wdZ f n := by
          funext j
          rw [hg j, show i = n by omega]
          rfl
        subst hgw
        refine lv_aload_n hx hb dX4_widerTruths_27 rfl (lv_at hl 1 rfl) ?_
        exact W.aret hx hb hr (Or.inr ⟨_, rfl⟩) (Or.inr ⟨x, rfl⟩) (fun t ht hW => ⟨⟨(), x, rfl, trivial, by rw [ht]; exact hP, va_K.moved hW.alike hK, hD⟩, hS.F ht⟩) hS.2.2 dX4_widerTruths_28
      · exact absurd (nI_le (show n ≤ i by omega) (by omega)) c1
    | succ k ih =>
      intro i hi g hg H locs ls hP hD hS hl
      refine lv_iload_n hx hb dX4_widerTruths_9 rfl (lv_at hl 0 rfl) ?_
      refine lv_aload_n hx hb dX4_widerTruths_10 rfl (lv_at hl 2 rfl) ?_
      refine va_alen hx hb hK hP 0 2 rfl rfl (v := Int32.ofNat n) rfl dX4_widerTruths_11 ?_
      refine lv_icmp_ge (tgt := 27) hx hb dX4_widerTruths_12 (by decide) (fun c1 => ?_) (fun c1 => ?_)
      · exact absurd c1 (nI_ge (show i < n by omega) (by omega))
      · refine lv_aload_n hx hb dX4_widerTruths_15 rfl (lv_at hl 1 rfl) ?_
        refine lv_iload_n hx hb dX4_widerTruths_16 rfl (lv_at hl 0 rfl) ?_
        refine lv_aload_n hx hb dX4_widerTruths_17 rfl (lv_at hl 2 rfl) ?_
        refine lv_iload_n hx hb dX4_widerTruths_18 rfl (lv_at hl 0 rfl) ?_
        refine va_zald (f := f) (n := n) hx hb hK hP 0 2 rfl rfl (vp_in_nI (by omega) (by omega)) dX4_widerTruths_19 ?_
        refine va_zast (f := g) (n := 2 * n) hx hb hK hP hD hS 1 2 rfl rfl (vp_in_nI (by omega) (by omega)) dX4_widerTruths_20 (fun H locs hP hD hS => ?_)
        refine lv_iinc (v := nI (i + 1)) (lv' := [(2, .int (nI (i + 1))), (1, .ref x), (0, .ref a0)]) hx hb dX4_widerTruths_21 hl (k := 0) rfl (nI_1 i) (by decide) rfl (fun ls hl => ?_)
        refine lv_goto (tgt := 9) hx hb dX4_widerTruths_24 (by decide) ?_
        refine ih (i + 1) (by omega) _ (fun j => ?_) H locs ls hP hD hS hl
        rw [nI_clamp (show i < 2 ^ 31 by omega)]
        by_cases hj : j = i
        · subst hj
          simp [upd]
        · have h3 : (j < i + 1) = (j < i) := by apply propext; omega
          simp only [upd, if_neg hj, h3]
          exact hg j
  exact loop n 0 (by omega) _ (fun j => by simp) _ _ _ hP hD hS hl

set_option maxHeartbeats 4000000 in
set_option maxRecDepth 100000 in
/-- widerBytes: a new array of twice the length, the old content first -/
theorem c_md_widerBytes (l : Launch) (G : va_G) (cI cL cZ cB : ClassId) (a0 : Nat) (n : Nat) (f : Nat → Int32) (sz : Nat) (hn : 64 ≤ n ∧ n ≤ 16777216) : Met l yX4_widerBytes vX4_widerBytes { frames := 0, cells := 1, slots := 2 * n, locals := 0 } (gPc G vwCl (mt cI cL cZ cB) [.ref a0] [(a0, .inl (cB, n, .inl f))] sz) (qA G vwCl (mt cI cL cZ cB) a0 (.inl (cB, n, .inl f)) (.inl (cB, 2 * n, .inl (wdB f n))) sz) 1 (2 * n) (va_A [(a0, .inl (cB, n, .inl f))] sz) := by
  refine gMet (by decide) rfl (Nat.le_of_ble_eq_true rfl) ?_
  intro p e s m below meth c ls C hK hP hD hsz hl
  subst hsz
  obtain ⟨hx, hb, hr, hml, hown, hts, hlocks⟩ := id C
  have hA : ∀ q : Nat, s.heap.size ≤ q → va_A [(a0, .inl (cB, n, .inl f))] s.heap.size q := fun q h => Or.inr h
  have hS : va_S (va_A [(a0, .inl (cB, n, .inl f))] s.heap.size) s.heap s.heap [] := va_S.rf
  have hl : lv_has ls 3 [(0, .ref a0)] := hl
  have h2 : (2 : Int32) * Int32.ofNat n = nI (2 * n) := pk_mul 2 n
  have hN : ((2 : Int32) * Int32.ofNat n).toNatClampNeg = 2 * n := by rw [h2]; exact nI_clamp (by omega)
  refine lv_iconst (v := 2) hx hb dX4_widerBytes_0 (by decide) ?_
  refine lv_aload_n hx hb dX4_widerBytes_1 rfl (lv_at hl 0 rfl) ?_
  refine va_alen hx hb hK hP 0 3 rfl rfl (v := Int32.ofNat n) rfl dX4_widerBytes_2 ?_
  refine lv_imul hx hb dX4_widerBytes_3 ?_
  refine gnewa (atype := .byte) (t0 := 3) (a0 := (2 * n, .inl (fun _ => 0))) hx hb (hts _ (.tail _ wm_169)) rfl (fun C h => by cases h) hK rfl hP hD hS hA (fun cA => by rw [hN]; rfl) (by rw [h2]; exact nI_pos (by omega)) (by rw [hN]; show 2 * n * componentBytes .byte ≤ 536870912; simp only [componentBytes]; omega) (by show _ ≤ 1; omega) (by rw [hN]; show _ ≤ 2 * n; omega) dX4_widerBytes_4 (fun x H hP hD hS => ?_)
  refine W.widen (k := 1) (n := 2 * n) (by omega) (by rw [hN]; omega) ?_
  have hP : va_P G vwCl [(a0, .inl (cB, n, .inl f)), (x, .inl (cB, 2 * n, .inl (fun _ => 0)))] H := hP
  have hD : va_D (va_A [(a0, .inl (cB, n, .inl f))] s.heap.size) [(a0, .inl (cB, n, .inl f)), (x, .inl (cB, 2 * n, .inl (fun _ => 0)))] := hD
  refine lv_astore_n (lv' := [(1, .ref x), (0, .ref a0)]) hx hb dX4_widerBytes_6 rfl hl (by decide) rfl (fun ls hl => ?_)
  refine lv_iconst (v := 0) hx hb dX4_widerBytes_7 (by decide) ?_
  refine lv_istore_n (lv' := [(2, .int 0), (1, .ref x), (0, .ref a0)]) hx hb dX4_widerBytes_8 rfl hl (by decide) rfl (fun ls hl => ?_)
  have loop : ∀ (k i : Nat), i + k = n → ∀ (g : Nat → Int32), (∀ j, g j = if j < i then (vp_nar .byte (f j)) else 0) → ∀ (H : Heap) (locs : List Loc) (ls : Array Slot), va_P G vwCl [(a0, .inl (cB, n, .inl f)), (x, .inl (cB, 2 * n, .inl g))] H → va_D (va_A [(a0, .inl (cB, n, .inl f))] s.heap.size) [(a0, .inl (cB, n, .inl f)), (x, .inl (cB, 2 * n, .inl g))] → va_S (va_A [(a0, .inl (cB, n, .inl f))] s.heap.size) s.heap H locs → lv_has ls 3 [(2, .int (nI i)), (1, .ref x), (0, .ref a0)] →
      W p l e { frames := 0, cells := 1, slots := 2 * n, locals := 0 } s m [Value.ref a0].toArray below meth c H locs 1 (2 * n) (MQ below (qA G vwCl (mt cI cL cZ cB) a0 (.inl (cB, n, .inl f)) (.inl (cB, 2 * n, .inl (wdB f n))) s.heap.size) [Value.ref a0].toArray s 1 (2 * n) (va_A [(a0, .inl (cB, n, .inl f))] s.heap.size)) (F0 m 9 ls []) := by
    intro k
    induction k with
    | zero =>
      intro i hi g hg H locs ls hP hD hS hl
      refine lv_iload_n hx hb dX4_widerBytes_9 rfl (lv_at hl 0 rfl) ?_
      refine lv_aload_n hx hb dX4_widerBytes_10 rfl (lv_at hl 2 rfl) ?_
      refine va_alen hx hb hK hP 0 3 rfl rfl (v := Int32.ofNat n) rfl dX4_widerBytes_11 ?_
      refine lv_icmp_ge (tgt := 27) hx hb dX4_widerBytes_12 (by decide) (fun c1 => ?_) (fun c1 => ?_)
      · have hgw : g = wdB f n := by
          funext j
          rw [hg j, show i = n by omega]
          rfl
        subst hgw
        refine lv_aload_n hx hb dX4_widerBytes_27 rfl (lv_at hl 1 rfl) ?_
        exact W.aret hx hb hr (Or.inr ⟨_, rfl⟩) (Or.inr ⟨x, rfl⟩) (fun t ht hW => ⟨⟨(), x, rfl, trivial, by rw [ht]; exact hP, va_K.moved hW.alike hK, hD⟩, hS.F ht⟩) hS.2.2 dX4_widerBytes_28
      · exact absurd (nI_le (show n ≤ i by omega) (by omega)) c1
    | succ k ih =>
      intro i hi g hg H locs ls hP hD hS hl
      refine lv_iload_n hx hb dX4_widerBytes_9 rfl (lv_at hl 0 rfl) ?_
      refine lv_aload_n hx hb dX4_widerBytes_10 rfl (lv_at hl 2 rfl) ?_
      refine va_alen hx hb hK hP 0 3 rfl rfl (v := Int32.ofNat n) rfl dX4_widerBytes_11 ?_
      refine lv_icmp_ge (tgt := 27) hx hb dX4_widerBytes_12 (by decide) (fun c1 => ?_) (fun c1 => ?_)
      · exact absurd c1 (nI_ge (show i < n by omega) (by omega))
      · refine lv_aload_n hx hb dX4_widerBytes_15 rfl (lv_at hl 1 rfl) ?_
        refine lv_iload_n hx hb dX4_widerBytes_16 rfl (lv_at hl 0 rfl) ?_
        refine lv_aload_n hx hb dX4_widerBytes_17 rfl (lv_at hl 2 rfl) ?_
        refine lv_iload_n hx hb dX4_widerBytes_18 rfl (lv_at hl 0 rfl) ?_
        refine va_bald (f := f) (n := n) hx hb hK hP 0 3 rfl rfl (vp_in_nI (by omega) (by omega)) dX4_widerBytes_19 ?_
        refine va_bast (f := g) (n := 2 * n) hx hb hK hP hD hS 1 3 rfl rfl (vp_in_nI (by omega) (by omega)) dX4_widerBytes_20 (fun H locs hP hD hS => ?_)
        refine lv_iinc (v := nI (i + 1)) (lv' := [(2, .int (nI (i + 1))), (1, .ref x), (0, .ref a0)]) hx hb dX4_widerBytes_21 hl (k := 0) rfl (nI_1 i) (by decide) rfl (fun ls hl => ?_)
        refine lv_goto (tgt := 9) hx hb dX4_widerBytes_24 (by decide) ?_
        refine ih (i + 1) (by omega) _ (fun j => ?_) H locs ls hP hD hS hl
        rw [nI_clamp (show i < 2 ^ 31 by omega)]
        by_cases hj : j = i
        · subst hj
          simp [upd]
        · have h3 : (j < i + 1) = (j < i) := by apply propext; omega
          simp only [upd, if_neg hj, h3]
          exact hg j
  exact loop n 0 (by omega) _ (fun j => by simp) _ _ _ hP hD hS hl
