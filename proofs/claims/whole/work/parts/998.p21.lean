/-! The class's append. -/
theorem ens_app (l : List Slo) (e : Nat × (Nat → Wrd)) : ens (l ++ [some e]) = ens l ++ [e] := by
  unfold ens
  rw [List.filterMap_append]
  rfl
/-- the entry made of a row's words -/
def ent (a : Ab) (n s p : Nat) : Nat × (Nat → Wrd) := (a.no n, wmx (fun _ => .inl 0) (a.wo s) p 0 (a.nk n + a.nv n))
def kNs (a : Ab) (n s p : Nat) : List Nat := kNr a n (fun i => a.wo s (p + i)) 0 (a.nk n)
def appA (a : Ab) (n s p : Nat) : Ab := mset (fzN a (kNs a n s p)) n (a.sl n ++ [some (ent a n s p)]) (a.no n + 1) (a.el ++ [(n, ent a n s p)]) (a.tn + 1)
theorem kNs_ok {a : Ab} {n s p : Nat} (A : AI a) (on : obj a n) (k4 : a.kd n = 4) (os : obj a s) (k2 : a.kd s = 2) (hls : p + (a.nk n + a.nv n) ≤ a.ln s) (tk : tkk a n (fun i => a.wo s (p + i))) : ∀ x, x ∈ kNs a n s p → obj a x ∧ a.kd x = 3 := by
  intro x hx
  obtain ⟨j, j1, j2, j3, j4, j5⟩ := kNr_mem hx
  have okr := A.rw os k2
  have ok := okr.2 (p + j) (by omega)
  obtain ⟨q1, q2⟩ := isTx_t A ok (tk j (by omega) j3)
  rcases q2 with q2 | ⟨q2, q3⟩
  · exact absurd q2 j4
  · rw [j5]
    exact ⟨q2, q3⟩
theorem append_e {z : Hs} {g : Gh} {o : Go} {a : Ab} {n s p : Nat} (c : RC z g o a) (A : AI a) (on : obj a n) (k4 : a.kd n = 4) (os : obj a s) (k2 : a.kd s = 2) (hls : p + (a.nk n + a.nv n) ≤ a.ln s) (tk : tkk a n (fun i => a.wo s (p + i))) (hr : (a.sl n).length < a.nc n) :
    ∃ z2 g2, mp_append z (Int32.ofNat (o.ho n)) (Int32.ofNat (g.st (o.ho s) + 1 + p)) = some (z2, Int32.ofNat (a.no n)) ∧ RC z2 g2 o (appA a n s p) ∧ z2.nst = z.nst ∧ z2.nbt = z.nbt := by
  have okm := A.mp on k4
  have okr := A.rw os k2
  have nk := okm.nk
  have nv := okm.nv
  have no := okm.no
  have tn := A.tn
  have hsl := okm.sl
  have ncl := nc_le okm
  have ob := c.ob n on
  obtain ⟨M, T⟩ := ob.mp k4
  have F := c.mf on k4
  have obs := c.ob s os
  have RR := obs.rw k2
  have hcnt : (ens (a.sl n)).length ≤ (a.sl n).length := by unfold ens; exact List.length_filterMap_le _ _
  have sz : g.sz (o.ho n) = 6 := by unfold Gh.sz; rw [ob.kd, k4, M.ln]; rfl
  have szs : g.sz (o.ho s) = 1 + a.ln s := by unfold Gh.sz; rw [obs.kd, k2, RR.1]; rfl
  have tms := Til_mem c.i.til obs.m
  have eb := c.i.eb
  obtain ⟨x0, hx0⟩ : ∃ x0, x0 = sla g o a n (a.sl n).length := ⟨_, rfl⟩
  obtain ⟨st, hst⟩ : ∃ st, st = g.st (o.ho n) := ⟨_, rfl⟩
  obtain ⟨row, hrow⟩ : ∃ row, row = g.st (o.ho s) + 1 + p := ⟨_, rfl⟩
  obtain ⟨W, hW⟩ : ∃ W, W = a.nk n + a.nv n := ⟨_, rfl⟩
  have tab : ∀ i, i < 3 + W → x0 + i < z.nbt ∧ g.st (o.ta n) < x0 + i ∧ x0 + i < g.st (o.ta n) + g.sz (o.ta n) := by
    intro i hi
    have h := sla_in (i := i) c on k4 hr (by omega)
    rw [← hx0] at h
    exact ⟨h.1, h.2.2.1, h.2.2.2⟩
  have tst : ∀ i x, i < 3 + W → x < 6 → x0 + i ≠ st + x := by
    intro i x hi hx
    rw [hx0, hst]
    exact tab_ne c on k4 hr (by omega) hx
  have twd : ∀ i, i < 3 + W → wd g (x0 + i) := fun i hi => Or.inr ⟨o.ta n, T.m, (tab i hi).2.1, (tab i hi).2.2⟩
  have thd : ∀ i, i < 3 + W → ∀ h, hv g h → g.st h ≠ x0 + i := fun i hi => (c.i.wd_ne (twd i hi)).2.2
  have nst : o.ho s ≠ o.ta n := by
    intro e
    have h1 := obs.kd
    have h2 := T.kd
    rw [← e] at h2
    omega
  have nsn : o.ho s ≠ o.ho n := by
    intro e
    have h1 := obs.kd
    have h2 := ob.kd
    rw [← e] at h2
    omega
  have trow : ∀ i j, i < 3 + W → j < W → x0 + i ≠ row + j := by
    intro i j hi hj e
    have t := tab i hi
    exact nst (c.i.adr (j := 1 + p + j) (l := x0 + i - g.st (o.ta n)) obs.m T.m (by omega) (by omega) (by omega)).1
  have srow : ∀ j x, j < W → x < 6 → st + x ≠ row + j := by
    intro j x hj hx e
    exact nsn (c.i.adr (j := 1 + p + j) (l := x) obs.m ob.m (by omega) (by omega) (by omega)).1
  have mne : ∀ j, j < 5 → ∀ h, hv g h → g.st h ≠ st + 1 + j := fun j hj => (c.i.wd_ne (a := st + 1 + j) (Or.inr ⟨o.ho n, ob.m, by omega, by omega⟩)).2.2
  have rb : row + W ≤ z.nbt := by omega
  have tb := tab (3 + W - 1) (by omega)
  -- the states
  obtain ⟨b4, hb4⟩ : ∃ b4, b4 = vp_updL z.abt x0 (Int64.ofNat (a.no n + 1)) := ⟨_, rfl⟩
  obtain ⟨f4, hf4⟩ : ∃ f4, f4 = upd z.arf x0 0 := ⟨_, rfl⟩
  have o4 : ∀ x, x ≠ x0 → b4 x = z.abt x ∧ f4 x = z.arf x := by
    intro x hx
    rw [hb4, hf4]
    exact ⟨if_neg hx, if_neg hx⟩
  have i4 : b4 x0 = Int64.ofNat (a.no n + 1) ∧ f4 x0 = 0 := by
    rw [hb4, hf4]
    exact ⟨if_pos rfl, if_pos rfl⟩
  have ff4 : ∀ x, f4 x = 0 ∨ f4 x = 1 := by
    intro x
    by_cases h : x = x0
    · rw [h]; exact Or.inl i4.2
    · rw [(o4 x h).2]; exact c.i.fl x
  obtain ⟨b6, hb6⟩ : ∃ b6, b6 = va_cpy b4 b4 row (x0 + 3) W := ⟨_, rfl⟩
  obtain ⟨f6, hf6⟩ : ∃ f6, f6 = va_cpy f4 f4 row (x0 + 3) W := ⟨_, rfl⟩
  have o6 : ∀ x, ¬ (x0 + 3 ≤ x ∧ x < x0 + 3 + W) → b6 x = b4 x ∧ f6 x = f4 x := by
    intro x hx
    rw [hb6, hf6]
    exact ⟨if_neg hx, if_neg hx⟩
  have i6 : ∀ i, i < W → b6 (x0 + 3 + i) = z.abt (row + i) ∧ f6 (x0 + 3 + i) = z.arf (row + i) := by
    intro i hi
    have q := o4 (row + i) (by have := trow 0 i (by omega) hi; omega)
    rw [hb6, hf6]
    unfold va_cpy
    rw [if_pos (by omega), if_pos (by omega), show row + (x0 + 3 + i - (x0 + 3)) = row + i from by omega]
    exact q
  have ff6 : ∀ x, f6 x = 0 ∨ f6 x = 1 := by
    intro x
    rw [hf6]
    unfold va_cpy
    split
    · exact ff4 _
    · exact ff4 _
  have oo6 : ∀ x, (∀ i, i < 3 + W → x ≠ x0 + i) → b6 x = z.abt x ∧ f6 x = z.arf x := by
    intro x hx
    have q1 := o6 x (fun d => hx (x - x0) (by omega) (by omega))
    have q2 := o4 x (by have := hx 0 (by omega); omega)
    exact ⟨q1.1.trans q2.1, q1.2.trans q2.2⟩
  obtain ⟨L, hL⟩ : ∃ L, L = (kNs a n s p).map o.ho := ⟨_, rfl⟩
  have kok := kNs_ok A on k4 os k2 hls tk
  have hLm : ∀ h, h ∈ L → hv g h := by
    intro h hh
    rw [hL, List.mem_map] at hh
    obtain ⟨x, x1, x2⟩ := hh
    rw [← x2]
    exact Or.inr (c.ob x (kok x x1).1).m
  obtain ⟨b7, hb7⟩ : ∃ b7, b7 = frz g.st L b6 := ⟨_, rfl⟩
  have o7 : ∀ x, (∀ h, hv g h → g.st h ≠ x) → b7 x = b6 x := by
    intro x hx
    rw [hb7]
    exact frz_o (fun h hh e => hx h (hLm h hh) e.symm)
  obtain ⟨b9, hb9⟩ : ∃ b9, b9 = vp_updL b7 (st + 5) (Int64.ofNat ((a.sl n).length + 1)) := ⟨_, rfl⟩
  obtain ⟨f9, hf9⟩ : ∃ f9, f9 = upd f6 (st + 5) 0 := ⟨_, rfl⟩
  have o9 : ∀ x, x ≠ st + 5 → b9 x = b7 x ∧ f9 x = f6 x := by
    intro x hx
    rw [hb9, hf9]
    exact ⟨if_neg hx, if_neg hx⟩
  have i9 : b9 (st + 5) = Int64.ofNat ((a.sl n).length + 1) ∧ f9 (st + 5) = 0 := by
    rw [hb9, hf9]
    exact ⟨if_pos rfl, if_pos rfl⟩
  obtain ⟨b10, hb10⟩ : ∃ b10, b10 = vp_updL b9 (st + 4) (Int64.ofNat (a.no n + 1)) := ⟨_, rfl⟩
  obtain ⟨f10, hf10⟩ : ∃ f10, f10 = upd f9 (st + 4) 0 := ⟨_, rfl⟩
  have o10 : ∀ x, x ≠ st + 4 → b10 x = b9 x ∧ f10 x = f9 x := by
    intro x hx
    rw [hb10, hf10]
    exact ⟨if_neg hx, if_neg hx⟩
  have i10 : b10 (st + 4) = Int64.ofNat (a.no n + 1) ∧ f10 (st + 4) = 0 := by
    rw [hb10, hf10]
    exact ⟨if_pos rfl, if_pos rfl⟩
  obtain ⟨b12, hb12⟩ : ∃ b12, b12 = vp_updL b10 (st + 3) (Int64.ofNat ((ens (a.sl n)).length + 1)) := ⟨_, rfl⟩
  obtain ⟨f12, hf12⟩ : ∃ f12, f12 = upd f10 (st + 3) 0 := ⟨_, rfl⟩
  have o12 : ∀ x, x ≠ st + 3 → b12 x = b10 x ∧ f12 x = f10 x := by
    intro x hx
    rw [hb12, hf12]
    exact ⟨if_neg hx, if_neg hx⟩
  have i12 : b12 (st + 3) = Int64.ofNat ((ens (a.sl n)).length + 1) ∧ f12 (st + 3) = 0 := by
    rw [hb12, hf12]
    exact ⟨if_pos rfl, if_pos rfl⟩
  have oo : ∀ x, x ≠ st + 3 → x ≠ st + 4 → x ≠ st + 5 → b12 x = b7 x ∧ f12 x = f6 x := by
    intro x h3 h4 h5
    have q1 := o12 x h3
    have q2 := o10 x h4
    have q3 := o9 x h5
    exact ⟨q1.1.trans (q2.1.trans q3.1), q1.2.trans (q2.2.trans q3.2)⟩
  have ff9 : ∀ x, f9 x = 0 ∨ f9 x = 1 := by
    intro x
    by_cases h : x = st + 5
    · rw [h]; exact Or.inl i9.2
    · rw [(o9 x h).2]; exact ff6 x
  have ff10 : ∀ x, f10 x = 0 ∨ f10 x = 1 := by
    intro x
    by_cases h : x = st + 4
    · rw [h]; exact Or.inl i10.2
    · rw [(o10 x h).2]; exact ff9 x
  have ff12 : ∀ x, f12 x = 0 ∨ f12 x = 1 := by
    intro x
    by_cases h : x = st + 3
    · rw [h]; exact Or.inl i12.2
    · rw [(o12 x h).2]; exact ff10 x
  -- words of the map in the states
  have m4 : ∀ j, j < 5 → b4 (st + 1 + j) = z.abt (st + 1 + j) := fun j hj => (o4 _ (by have := tst 0 (1 + j) (by omega) (by omega); omega)).1
  have m6 : ∀ j, j < 5 → b6 (st + 1 + j) = z.abt (st + 1 + j) := fun j hj => (oo6 _ (fun i hi => by have := tst i (1 + j) hi (by omega); omega)).1
  have m7 : ∀ j, j < 5 → b7 (st + 1 + j) = z.abt (st + 1 + j) := fun j hj => (o7 _ (mne j hj)).trans (m6 j hj)
  -- the run
  have r4 : hp_setNumber z (Int32.ofNat x0) (Int64.ofNat (a.no n + 1)) = some (Hs.wm z b4 f4, ()) := by
    rw [hb4, hf4]
    exact hp_setNumber_e c.i.hb (by omega)
  have F4 : MF (Hs.wm z b4 f4) g o a n := MF_w c on k4 ff4 (by rw [← hst]; exact m4)
  have r6 : hp_copyWords (Hs.wm z b4 f4) (Int32.ofNat (x0 + 3)) (Int32.ofNat row) (Int32.ofNat W) = some (Hs.wm z b6 f6, ()) := by
    rw [hb6, hf6]
    exact hp_copyWords_e (hb_w c.i.hb ff4) (show x0 + 3 + W ≤ z.nbt by omega) rb
  have r7 : mp_freezeTexts (Hs.wm z b6 f6) (Int32.ofNat (o.ho n)) (Int32.ofNat (x0 + 3)) = some (Hs.wm z b7 f6, ()) := by
    rw [hb7, hL]
    refine freezeTexts_e c A on k4 ff6 (by rw [← hst]; exact m6) ?_ tk
    intro i hi
    have q := i6 i (by omega)
    have w := RR.2 (p + i) (by omega)
    rw [show g.st (o.ho s) + 1 + (p + i) = row + i from by omega] at w
    have td := twd (3 + i) (by omega)
    rw [← Nat.add_assoc] at td
    exact ⟨td, ⟨q.2.trans w.1, q.1.trans w.2⟩, okr.2 (p + i) (by omega)⟩
  have hFb := F.b
  rw [← hst] at hFb
  have r8 : mp_field (Hs.wm z b7 f6) (Int32.ofNat (o.ho n)) 4 = some (Int32.ofNat (a.sl n).length) := field_w (j := 4) c.i ff6 F.v (by rw [← hst]; exact hFb 4 (by omega)) (by rw [← hst, m7 4 (by omega), hst]; exact M.w4.2)
  have r9 : mp_setField (Hs.wm z b7 f6) (Int32.ofNat (o.ho n)) 4 (Int32.ofNat ((a.sl n).length + 1)) = some (Hs.wm z b9 f9, ()) := by
    have := setField_w (j := 4) (x := (a.sl n).length + 1) (b := b7) (f := f6) c.i ff6 F.v (by rw [← hst]; exact hFb 4 (by omega)) (by omega)
    rw [← hst] at this
    rw [hb9, hf9]
    exact this
  have r10 : mp_setField (Hs.wm z b9 f9) (Int32.ofNat (o.ho n)) 3 (Int32.ofNat (a.no n + 1)) = some (Hs.wm z b10 f10, ()) := by
    have := setField_w (j := 3) (x := a.no n + 1) (b := b9) (f := f9) c.i ff9 F.v (by rw [← hst]; exact hFb 3 (by omega)) (by omega)
    rw [← hst] at this
    rw [hb10, hf10]
    exact this
  have r11 : mp_entries (Hs.wm z b10 f10) (Int32.ofNat (o.ho n)) = some (Int32.ofNat (ens (a.sl n)).length) := by
    unfold mp_entries
    rw [show mp_field (Hs.wm z b10 f10) (Int32.ofNat (o.ho n)) 2 = some (Int32.ofNat (ens (a.sl n)).length) from field_w (j := 2) c.i ff10 F.v (by rw [← hst]; exact hFb 2 (by omega)) (by
      rw [← hst, (o10 (st + 1 + 2) (by omega)).1, (o9 (st + 1 + 2) (by omega)).1, m7 2 (by omega), hst]
      exact M.w2.2), PB.2.1]
  have r12 : mp_setField (Hs.wm z b10 f10) (Int32.ofNat (o.ho n)) 2 (Int32.ofNat ((ens (a.sl n)).length + 1)) = some (Hs.wm z b12 f12, ()) := by
    have := setField_w (j := 2) (x := (ens (a.sl n)).length + 1) (b := b10) (f := f10) c.i ff10 F.v (by rw [← hst]; exact hFb 2 (by omega)) (by omega)
    rw [← hst] at this
    rw [hb12, hf12]
    exact this
  refine ⟨Hs.wm z b12 f12, gfz g L, ?_, ?_, rfl, rfl⟩
  · have e1 : Int32.ofNat (a.no n) + 1 = Int32.ofNat (a.no n + 1) := q_add _ 1
    have e2 : Int32.ofNat x0 + 3 = Int32.ofNat (x0 + 3) := q_add _ 3
    have e3 : Int32.ofNat (a.sl n).length + 1 = Int32.ofNat ((a.sl n).length + 1) := q_add _ 1
    have e4 : Int32.ofNat (ens (a.sl n)).length + 1 = Int32.ofNat ((ens (a.sl n)).length + 1) := q_add _ 1
    unfold mp_append
    rw [slotWords_e F okm, PB.2.1, slotsEnd_e c on k4, PB.2.1, F.f3, PB.2.1, show g.st (o.ta n) + 1 + (a.sl n).length * (3 + a.nk n + a.nv n) = x0 from hx0.symm, e1, q_64 (by omega), r4, PB.2.2.2.2.1, entryWords_e F4 okm, PB.2.1, e2, ← hW, ← hrow, r6, PB.2.2.2.2.1, r7, PB.2.2.2.2.1, r8, PB.2.1, e3, r9, PB.2.2.2.2.1, r10, PB.2.2.2.2.1, r11, PB.2.1, e4, r12, PB.2.2.2.2.1]
  · obtain ⟨C', A'⟩ := RC_frz c A kok
    rw [← hL] at C'
    have hcm : ∀ x, (∀ i, i < 3 + W → x ≠ x0 + i) → b7 x = frz g.st L z.abt x := by
      intro x hx
      rw [hb7]
      refine frz_c ?_ (oo6 x hx).1
      intro h hh
      exact (oo6 _ (fun i hi => thd i hi h (hLm h hh))).1
    have T' := ((C'.ob n on).mp k4).2
    have ew : Hs.wm z b12 f12 = Hs.wm (Hs.wm z (frz g.st L z.abt) z.arf) b12 f12 := rfl
    rw [ew]
    refine RC_mset (b := b12) (f := f12) C' A' on k4 ff12 ?_ ?_ ?_ ?_ ?_
    · intro x h1 h2
      have q1 := oo x (by rw [hst]; exact h1 3 (by omega) (by omega)) (by rw [hst]; exact h1 4 (by omega) (by omega)) (by rw [hst]; exact h1 5 (by omega) (by omega))
      have hx : ∀ i, i < 3 + W → x ≠ x0 + i := by
        intro i hi e
        have t := tab i hi
        exact h2 (x - g.st (o.ta n)) (by omega) (show x - g.st (o.ta n) < g.sz (o.ta n) by omega) (show x = g.st (o.ta n) + (x - g.st (o.ta n)) by omega)
      exact ⟨q1.1.trans (hcm x hx), q1.2.trans (oo6 x hx).2⟩
    · rw [ens_app, List.length_append, List.length_singleton]
      show f12 (g.st (o.ho n) + 3) = 0 ∧ b12 (g.st (o.ho n) + 3) = _
      rw [← hst]
      exact ⟨i12.2, i12.1⟩
    · show f12 (g.st (o.ho n) + 4) = 0 ∧ b12 (g.st (o.ho n) + 4) = _
      rw [← hst]
      have q := o12 (st + 4) (by omega)
      exact ⟨q.2.trans i10.2, q.1.trans i10.1⟩
    · rw [List.length_append, List.length_singleton]
      show f12 (g.st (o.ho n) + 5) = 0 ∧ b12 (g.st (o.ho n) + 5) = _
      rw [← hst]
      have q := o12 (st + 5) (by omega)
      have q2 := o10 (st + 5) (by omega)
      exact ⟨q.2.trans (q2.2.trans i9.2), q.1.trans (q2.1.trans i9.1)⟩
    · intro j hj
      have hj : j < a.nc n := hj
      by_cases hjl : j = (a.sl n).length
      · subst hjl
        rw [List.getElem?_append_right (Nat.le_refl _), Nat.sub_self]
        have S := T.sl _ hj
        rw [List.getElem?_eq_none (Nat.le_refl _)] at S
        have S : ∀ i, i < 3 + (a.nk n + a.nv n) → z.arf (sla g o a n (a.sl n).length + i) = 0 := S
        rw [← hx0] at S
        have qx : ∀ i, i < 3 + W → b12 (x0 + i) = b6 (x0 + i) ∧ f12 (x0 + i) = f6 (x0 + i) := by
          intro i hi
          have q1 := oo (x0 + i) (tst i 3 hi (by omega)) (tst i 4 hi (by omega)) (tst i 5 hi (by omega))
          exact ⟨q1.1.trans (o7 _ (thd i hi)), q1.2⟩
        have x00 := qx 0 (by omega)
        rw [Nat.add_zero] at x00
        have y0 := o6 x0 (by omega)
        have y1 := o6 (x0 + 1) (by omega)
        have y2 := o6 (x0 + 2) (by omega)
        have w1 := o4 (x0 + 1) (by omega)
        have w2 := o4 (x0 + 2) (by omega)
        show SlR (Hs.wm z b12 f12) o (sla g o a n (a.sl n).length) (a.nk n + a.nv n) (some (some (ent a n s p)))
        rw [← hx0]
        refine ⟨x00.2.trans (y0.2.trans i4.2), x00.1.trans (y0.1.trans i4.1), (qx 1 (by omega)).2.trans (y1.2.trans (w1.2.trans (S 1 (by omega)))), (qx 2 (by omega)).2.trans (y2.2.trans (w2.2.trans (S 2 (by omega)))), ?_⟩
        intro i hi
        have ew : (ent a n s p).2 i = a.wo s (p + i) := if_pos ⟨Nat.zero_le _, hi⟩
        rw [ew]
        have q1 := qx (3 + i) (by omega)
        rw [← Nat.add_assoc] at q1
        have q2 := i6 i (by omega)
        have w := RR.2 (p + i) (by omega)
        rw [show g.st (o.ho s) + 1 + (p + i) = row + i from by omega] at w
        exact ⟨q1.2.trans (q2.2.trans w.1), q1.1.trans (q2.1.trans w.2)⟩
      · have eg : (a.sl n ++ [some (ent a n s p)])[j]? = (a.sl n)[j]? := by
          by_cases hlt : j < (a.sl n).length
          · rw [List.getElem?_append_left hlt]
          · rw [List.getElem?_eq_none (by rw [List.length_append, List.length_singleton]; omega), List.getElem?_eq_none (by omega)]
        rw [eg]
        refine SlR_w (T'.sl j hj) ?_
        intro i hi
        have hi : i < 3 + (a.nk n + a.nv n) := hi
        show b12 (sla g o a n j + i) = frz g.st L z.abt (sla g o a n j + i) ∧ f12 (sla g o a n j + i) = z.arf (sla g o a n j + i)
        have t1 : ∀ x, x < 6 → sla g o a n j + i ≠ st + x := by
          intro x hx
          rw [hst]
          exact tab_ne c on k4 hj (by omega) hx
        have q1 := oo (sla g o a n j + i) (t1 3 (by omega)) (t1 4 (by omega)) (t1 5 (by omega))
        have hx : ∀ k, k < 3 + W → sla g o a n j + i ≠ x0 + k := by
          intro k hk
          rw [hx0]
          by_cases hjl2 : j < (a.sl n).length
          · have := sla_m (g := g) (o := o) (a := a) (n := n) hjl2
            omega
          · have := sla_m (g := g) (o := o) (a := a) (n := n) (show (a.sl n).length < j by omega)
            omega
        exact ⟨q1.1.trans (hcm _ hx), q1.2.trans (oo6 _ hx).2⟩
