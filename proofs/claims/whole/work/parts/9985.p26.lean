/-! The entries moved into a new table. -/
theorem ens_take {l : List Slo} {i : Nat} {s : Slo} (h : l[i]? = some s) : ens (l.take (i + 1)) = ens (l.take i) ++ ens [s] := by
  rw [List.take_add_one, h]
  unfold ens
  rw [List.filterMap_append]
  rfl
theorem ens_tl {l : List Slo} (i : Nat) : (ens (l.take i)).length ≤ (ens l).length := by
  have h : ens l = ens (l.take i) ++ ens (l.drop i) := by
    unfold ens
    rw [← List.filterMap_append, List.take_append_drop]
  rw [h, List.length_append]
  omega
theorem mapsome_get {l : List (Nat × (Nat → Wrd))} {e : Nat × (Nat → Wrd)} {j : Nat} : ((l ++ [e]).map some : List Slo)[j]? = if j = l.length then some (some e) else (l.map some : List Slo)[j]? := by
  rw [List.map_append]
  by_cases h : j = l.length
  · subst h
    rw [if_pos rfl, List.getElem?_append_right (by rw [List.length_map]; exact Nat.le_refl _), List.length_map, Nat.sub_self]
    rfl
  · rw [if_neg h]
    by_cases hlt : j < l.length
    · rw [List.getElem?_append_left (by rw [List.length_map]; exact hlt)]
    · rw [List.getElem?_eq_none (by rw [List.length_append, List.length_map, List.length_map, List.length_singleton]; omega), List.getElem?_eq_none (by rw [List.length_map]; omega)]
theorem moveLoop {z : Hs} {g : Gh} {o : Go} {a : Ab} {n t cap : Nat} (c : RC z g o a) (A : AI a) (on : obj a n) (k4 : a.kd n = 4) (mt : t ∈ g.hs) (ow : o.ow t = 0) (szt : g.sz t = 1 + cap * (3 + a.nk n + a.nv n)) (hc : (ens (a.sl n)).length ≤ cap) (fr0 : ∀ j, 1 ≤ j → j < g.sz t → z.arf (g.st t + j) = 0) :
    ∃ b2 f2, mp_moveEntries_l33 FU (Int32.ofNat (o.ho n)) (Int32.ofNat t) (Int32.ofNat cap) (Int32.ofNat (g.st t + 1)) (Int32.ofNat (3 + a.nk n + a.nv n)) (Int32.ofNat (sla g o a n (a.sl n).length)) (Int32.ofNat (sla g o a n 0)) z = (bw (mp_useTable (Hs.wm z b2 f2) (Int32.ofNat (o.ho n)) (Int32.ofNat t) (Int32.ofNat cap)) (fun z6 _ => (b0 (mp_entries z6 (Int32.ofNat (o.ho n))) (fun r7 => (bw (mp_setField z6 (Int32.ofNat (o.ho n)) 4 r7) (fun z8 _ => some (z8, ()))))))) ∧
      (∀ x, f2 x = 0 ∨ f2 x = 1) ∧ (∀ x, (∀ j, 1 ≤ j → j < g.sz t → x ≠ g.st t + j) → b2 x = z.abt x ∧ f2 x = z.arf x) ∧ (∀ j, j < cap → SlR (Hs.wm z b2 f2) o (g.st t + 1 + j * (3 + a.nk n + a.nv n)) (a.nk n + a.nv n) ((ens (a.sl n)).map some : List Slo)[j]?) := by
  have okm := A.mp on k4
  have hsl := okm.sl
  have ncl := nc_le okm
  have T := ((c.ob n on).mp k4).2
  have hst : ∀ j, j ≤ (a.sl n).length → sla g o a n j < 2147483000 := fun j hj => sla_b c A on k4 (by omega)
  have tmt := Til_mem c.i.til mt
  have eb := c.i.eb
  have hb2 := c.i.hb.2.1
  have tne : o.ta n ≠ t := by
    intro e
    have := T.ow
    rw [e, ow] at this
    have := on.1
    omega
  obtain ⟨w, hw⟩ : ∃ w, w = 3 + a.nk n + a.nv n := ⟨_, rfl⟩
  have mul : ∀ j k, j < k → j * w + w ≤ k * w := by
    intro j k h
    rw [← Nat.succ_mul]
    exact Nat.mul_le_mul_right _ h
  have loop : ∀ k i fu b f, i + k = (a.sl n).length → k < fu → (∀ x, f x = 0 ∨ f x = 1) → (∀ x, (∀ j, 1 ≤ j → j < g.sz t → x ≠ g.st t + j) → b x = z.abt x ∧ f x = z.arf x) → (∀ j, j < cap → SlR (Hs.wm z b f) o (g.st t + 1 + j * w) (a.nk n + a.nv n) ((ens ((a.sl n).take i)).map some : List Slo)[j]?) →
      ∃ b2 f2, mp_moveEntries_l33 fu (Int32.ofNat (o.ho n)) (Int32.ofNat t) (Int32.ofNat cap) (Int32.ofNat (g.st t + 1 + (ens ((a.sl n).take i)).length * w)) (Int32.ofNat w) (Int32.ofNat (sla g o a n (a.sl n).length)) (Int32.ofNat (sla g o a n i)) (Hs.wm z b f) = (bw (mp_useTable (Hs.wm z b2 f2) (Int32.ofNat (o.ho n)) (Int32.ofNat t) (Int32.ofNat cap)) (fun z6 _ => (b0 (mp_entries z6 (Int32.ofNat (o.ho n))) (fun r7 => (bw (mp_setField z6 (Int32.ofNat (o.ho n)) 4 r7) (fun z8 _ => some (z8, ()))))))) ∧
      (∀ x, f2 x = 0 ∨ f2 x = 1) ∧ (∀ x, (∀ j, 1 ≤ j → j < g.sz t → x ≠ g.st t + j) → b2 x = z.abt x ∧ f2 x = z.arf x) ∧ (∀ j, j < cap → SlR (Hs.wm z b2 f2) o (g.st t + 1 + j * w) (a.nk n + a.nv n) ((ens (a.sl n)).map some : List Slo)[j]?) := by
    intro k
    induction k with
    | zero =>
      intro i fu b f hi hfu ff un sr
      obtain ⟨fu', rfl⟩ : ∃ f, fu = f + 1 := ⟨fu - 1, by omega⟩
      have : i = (a.sl n).length := by omega
      subst this
      have hs := hst _ (Nat.le_refl _)
      refine ⟨b, f, ?_, ff, un, ?_⟩
      · rw [mp_moveEntries_l33, if_pos ((q_le (by omega) (by omega)).mpr (Nat.le_refl _))]
      · rw [List.take_length] at sr
        exact sr
    | succ k ih =>
      intro i fu b f hi hfu ff un sr
      obtain ⟨fu', rfl⟩ : ∃ f, fu = f + 1 := ⟨fu - 1, by omega⟩
      have hil : i < (a.sl n).length := by omega
      have hm := sla_m (g := g) (o := o) (a := a) (n := n) hil
      have hs := hst _ (Nat.le_refl _)
      have C := RC_orw c A mt ow ff un
      have hg : (a.sl n)[i]? = some ((a.sl n)[i]) := List.getElem?_eq_getElem hil
      obtain ⟨s, hsE⟩ : ∃ s, s = (a.sl n)[i] := ⟨_, rfl⟩
      rw [← hsE] at hg
      have ho := orderIn_e C on k4 (show i < a.nc n by omega) hg
      have et := ens_take hg
      rw [mp_moveEntries_l33, if_neg (fun d => absurd ((q_le (by omega) (by omega)).mp d) (by omega)), ho, PB.2.1, hw, sla_s]
      cases s with
      | none =>
        rw [if_pos (show ordS none = -1 from rfl)]
        have et : ens ((a.sl n).take (i + 1)) = ens ((a.sl n).take i) := by
          rw [et]
          exact List.append_nil _
        have := ih (i + 1) fu' b f (by omega) (by omega) ff un (by rw [et]; exact sr)
        rw [et, hw] at this
        exact this
      | some e =>
        have em := ens_mem hg
        have elt := okm.lt e em
        have no := okm.no
        have tn := A.tn
        have et : ens ((a.sl n).take (i + 1)) = ens ((a.sl n).take i) ++ [e] := et
        have hle := ens_tl (l := a.sl n) (i + 1)
        rw [et, List.length_append, List.length_singleton] at hle
        obtain ⟨d, hd⟩ : ∃ d, d = (ens ((a.sl n).take i)).length := ⟨_, rfl⟩
        have hdc : d < cap := by omega
        have hdw := mul d cap hdc
        rw [if_neg (show ¬ (ordS (some e) = -1) from Int32.neg1_ne (by omega)), ← hd, ← hw]
        have src : ∀ y, y < w → sla g o a n i + y < z.nbt ∧ ∀ j, 1 ≤ j → j < g.sz t → sla g o a n i + y ≠ g.st t + j := by
          intro y hy
          have h1 := sla_in (i := y) c on k4 (show i < a.nc n by omega) (by omega)
          refine ⟨h1.1, ?_⟩
          intro j j1 j2 e1
          exact tne (c.i.adr (j := sla g o a n i + y - g.st (o.ta n)) (l := j) T.m mt (by omega) j2 (by omega)).1
        have sb := src (w - 1) (by omega)
        have cw : hp_copyWords (Hs.wm z b f) (Int32.ofNat (g.st t + 1 + d * w)) (Int32.ofNat (sla g o a n i)) (Int32.ofNat w) = some (Hs.wm z (va_cpy b b (sla g o a n i) (g.st t + 1 + d * w) w) (va_cpy f f (sla g o a n i) (g.st t + 1 + d * w) w), ()) := hp_copyWords_e (hb_w c.i.hb ff) (show g.st t + 1 + d * w + w ≤ z.nbt by rw [szt, ← hw] at tmt; omega) (show sla g o a n i + w ≤ z.nbt by omega)
        obtain ⟨b3, hb3⟩ : ∃ b3, b3 = va_cpy b b (sla g o a n i) (g.st t + 1 + d * w) w := ⟨_, rfl⟩
        obtain ⟨f3, hf3⟩ : ∃ f3, f3 = va_cpy f f (sla g o a n i) (g.st t + 1 + d * w) w := ⟨_, rfl⟩
        rw [← hb3, ← hf3] at cw
        have o3 : ∀ x, ¬ (g.st t + 1 + d * w ≤ x ∧ x < g.st t + 1 + d * w + w) → b3 x = b x ∧ f3 x = f x := by
          intro x hx
          rw [hb3, hf3]
          exact ⟨if_neg hx, if_neg hx⟩
        have i3 : ∀ y, y < w → b3 (g.st t + 1 + d * w + y) = b (sla g o a n i + y) ∧ f3 (g.st t + 1 + d * w + y) = f (sla g o a n i + y) := by
          intro y hy
          rw [hb3, hf3]
          unfold va_cpy
          rw [if_pos (by omega), if_pos (by omega), show sla g o a n i + (g.st t + 1 + d * w + y - (g.st t + 1 + d * w)) = sla g o a n i + y from by omega]
          exact ⟨rfl, rfl⟩
        have ff3 : ∀ x, f3 x = 0 ∨ f3 x = 1 := by
          intro x
          rw [hf3]
          unfold va_cpy
          split
          · exact ff _
          · exact ff _
        have un3 : ∀ x, (∀ j, 1 ≤ j → j < g.sz t → x ≠ g.st t + j) → b3 x = z.abt x ∧ f3 x = z.arf x := by
          intro x hx
          have q1 := o3 x (fun dd => hx (x - g.st t) (by omega) (by rw [szt, ← hw]; omega) (by omega))
          have q2 := un x hx
          exact ⟨q1.1.trans q2.1, q1.2.trans q2.2⟩
        have S := (((C.ob n on).mp k4).2).sl i (by omega)
        rw [hg, ← hw] at S
        obtain ⟨b2, f2, g1, g2, g3, g4⟩ := ih (i + 1) fu' b3 f3 (by omega) (by omega) ff3 un3 (by
          intro j hj
          rw [et, mapsome_get]
          by_cases hjd : j = (ens ((a.sl n).take i)).length
          · rw [if_pos hjd, hjd, ← hd]
            refine SlR_m S ?_
            intro y hy
            have hsla : g.st (o.ta n) + 1 + i * w = sla g o a n i := by rw [hw]; rfl
            rw [hsla]
            exact i3 y (by omega)
          · rw [if_neg hjd]
            refine SlR_m (sr j hj) ?_
            intro y hy
            refine o3 (g.st t + 1 + j * w + y) ?_
            intro dd
            by_cases hlt : j < d
            · have := mul j d hlt
              omega
            · have := mul d j (by omega)
              omega)
        refine ⟨b2, f2, ?_, g2, g3, g4⟩
        rw [et, List.length_append, List.length_singleton, ← hd] at g1
        have e1 : Int32.ofNat (g.st t + 1 + d * w) + Int32.ofNat w = Int32.ofNat (g.st t + 1 + (d + 1) * w) := by
          rw [q_add, Nat.succ_mul, ← Nat.add_assoc]
        rw [cw, PB.2.2.2.2.1, e1]
        exact g1
  obtain ⟨b2, f2, g1, g2, g3, g4⟩ := loop (a.sl n).length 0 FU z.abt z.arf (by omega) (by unfold FU; omega) c.i.fl (fun x _ => ⟨rfl, rfl⟩) (by
    intro j hj
    rw [List.take_zero]
    show ∀ i, i < 3 + (a.nk n + a.nv n) → z.arf (g.st t + 1 + j * w + i) = 0
    intro i hi
    have := mul j cap hj
    rw [show g.st t + 1 + j * w + i = g.st t + (1 + j * w + i) from by omega]
    exact fr0 _ (by omega) (by rw [szt, ← hw]; omega))
  rw [hw] at g1 g4
  rw [List.take_zero, show (ens []).length = 0 from rfl, Nat.zero_mul, Nat.add_zero (g.st t + 1)] at g1
  exact ⟨b2, f2, g1, g2, g3, g4⟩
