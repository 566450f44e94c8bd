/-! remove on both sides. -/
theorem tab_ne {z : Hs} {g : Gh} {o : Go} {a : Ab} {n x i j : Nat} (c : RC z g o a) (on : obj a n) (k4 : a.kd n = 4) (hj : j < a.nc n) (hi : i < 3 + a.nk n + a.nv n) (hx : x < 6) : sla g o a n j + i ≠ g.st (o.ho n) + x := by
  have ob := c.ob n on
  obtain ⟨M, T⟩ := ob.mp k4
  have sz : g.sz (o.ho n) = 6 := by unfold Gh.sz; rw [ob.kd, k4, M.ln]; rfl
  have hne : o.ho n ≠ o.ta n := by
    intro e
    have h1 := ob.kd
    have h2 := T.kd
    rw [← e] at h2
    omega
  have h := sla_in c on k4 hj hi
  intro e
  exact hne (c.i.adr (j := x) (l := sla g o a n j + i - g.st (o.ta n)) ob.m T.m (by omega) (by omega) (by omega)).1
theorem RC_del {z : Hs} {g : Gh} {o : Go} {a : Ab} {n l tn2 : Nat} {e : Nat × (Nat → Wrd)} {el2 : List Ent} (c : RC z g o a) (A : AI a) (on : obj a n) (k4 : a.kd n = 4) (hl : l < (a.sl n).length) (he : (a.sl n)[l]? = some (some e)) :
    ∃ z7, (bw (hp_clearWords z (Int32.ofNat (sla g o a n l)) (Int32.ofNat (3 + a.nk n + a.nv n))) (fun z5 _ => (b0 (mp_entries z5 (Int32.ofNat (o.ho n))) (fun r6 => (bw (mp_setField z5 (Int32.ofNat (o.ho n)) 2 (r6 - 1)) (fun z7 _ => some (z7, Int32.ofNat e.1))))))) = some (z7, Int32.ofNat e.1) ∧ RC z7 g o (mset a n ((a.sl n).set l none) (a.no n) el2 tn2) ∧ z7.nst = z.nst ∧ z7.nbt = z.nbt := by
  have okm := A.mp on k4
  have hsl := okm.sl
  have hlc : l < a.nc n := by omega
  have ob := c.ob n on
  obtain ⟨M, T⟩ := ob.mp k4
  have F := c.mf on k4
  have h0 := sla_in (i := 3 + a.nk n + a.nv n - 1) c on k4 hlc (by omega)
  obtain ⟨sl, hslE⟩ : ∃ sl, sl = sla g o a n l := ⟨_, rfl⟩
  obtain ⟨st, hst⟩ : ∃ st, st = g.st (o.ho n) := ⟨_, rfl⟩
  obtain ⟨w, hw⟩ : ∃ w, w = 3 + a.nk n + a.nv n := ⟨_, rfl⟩
  have tne : ∀ j i x, j < a.nc n → i < w → x < 6 → sla g o a n j + i ≠ st + x := by
    intro j i x h1 h2 h3
    rw [hst]
    exact tab_ne c on k4 h1 (by omega) h3
  have cut : ∀ x, x < 6 → ¬ (sl ≤ st + x ∧ st + x < sl + w) := by
    intro x hx d
    have := tne l (st + x - sl) x hlc (by omega) hx
    rw [← hslE] at this
    omega
  have hdl := ens_dell he
  have el := okm.lt
  have hcnt : (ens (a.sl n)).length ≤ (a.sl n).length := by unfold ens; exact List.length_filterMap_le _ _
  have ncl := nc_le okm
  have bnb := F.b 2 (by omega)
  rw [← hst] at bnb
  have hcl := hp_clearWords_e (a := sl) (n := w) c.i.hb (by omega)
  obtain ⟨b5, hb5⟩ : ∃ b5, b5 = filN z.abt sl (sl + w) 0 := ⟨_, rfl⟩
  obtain ⟨f5, hf5⟩ : ∃ f5, f5 = filN z.arf sl (sl + w) 0 := ⟨_, rfl⟩
  have b5i : ∀ x, sl ≤ x → x < sl + w → b5 x = 0 ∧ f5 x = 0 := by
    intro x h1 h2
    rw [hb5, hf5]
    exact ⟨if_pos ⟨h1, h2⟩, if_pos ⟨h1, h2⟩⟩
  have b5o : ∀ x, ¬ (sl ≤ x ∧ x < sl + w) → b5 x = z.abt x ∧ f5 x = z.arf x := by
    intro x h1
    rw [hb5, hf5]
    exact ⟨if_neg h1, if_neg h1⟩
  rw [← hb5, ← hf5] at hcl
  have ff5 : ∀ x, f5 x = 0 ∨ f5 x = 1 := by
    intro x
    by_cases h : sl ≤ x ∧ x < sl + w
    · exact Or.inl (b5i x h.1 h.2).2
    · rw [(b5o x h).2]; exact c.i.fl x
  have hdw : ∀ h, hv g h → b5 (g.st h) = z.abt (g.st h) := by
    intro h v
    refine (b5o _ ?_).1
    intro d
    have h1 := sla_in (i := g.st h - sl) c on k4 hlc (by omega)
    rw [← hslE] at h1
    exact (c.i.wd_ne (a := sl + (g.st h - sl)) (Or.inr ⟨o.ta n, T.m, by omega, by omega⟩)).2.2 h v (by omega)
  have i5 : HI0 (Hs.wm z b5 f5) g := c.i.wm ff5 hdw
  have fe : mp_entries (Hs.wm z b5 f5) (Int32.ofNat (o.ho n)) = some (Int32.ofNat (ens (a.sl n)).length) := by
    unfold mp_entries
    rw [show mp_field (Hs.wm z b5 f5) (Int32.ofNat (o.ho n)) 2 = _ from field_e (j := 2) (x := (ens (a.sl n)).length) i5 F.v (by rw [← hst]; exact bnb) (by
      rw [← hst]
      have q := b5o (st + 3) (cut 3 (by omega))
      refine q.1.trans ?_
      rw [hst]
      exact M.w2.2), PB.2.1]
  have sf : mp_setField (Hs.wm z b5 f5) (Int32.ofNat (o.ho n)) 2 (Int32.ofNat (ens ((a.sl n).set l none)).length) = _ := setField_e (j := 2) (x := (ens ((a.sl n).set l none)).length) i5 F.v (by rw [← hst]; exact bnb) (by omega)
  rw [← hst] at sf
  have sf : mp_setField (Hs.wm z b5 f5) (Int32.ofNat (o.ho n)) 2 (Int32.ofNat (ens ((a.sl n).set l none)).length) = some (Hs.wm z (vp_updL b5 (st + 3) (Int64.ofNat (ens ((a.sl n).set l none)).length)) (upd f5 (st + 3) 0), ()) := sf
  have esub : Int32.ofNat (ens (a.sl n)).length - 1 = Int32.ofNat (ens ((a.sl n).set l none)).length := by
    rw [show Int32.ofNat (ens (a.sl n)).length - 1 = Int32.ofNat ((ens (a.sl n)).length - 1) from q_sub (b := 1) (by omega)]
    congr 1
    omega
  obtain ⟨b7, hb7⟩ : ∃ b7, b7 = vp_updL b5 (st + 3) (Int64.ofNat (ens ((a.sl n).set l none)).length) := ⟨_, rfl⟩
  obtain ⟨f7, hf7⟩ : ∃ f7, f7 = upd f5 (st + 3) 0 := ⟨_, rfl⟩
  rw [← hb7, ← hf7] at sf
  have b7o : ∀ x, x ≠ st + 3 → b7 x = b5 x ∧ f7 x = f5 x := by
    intro x hx
    rw [hb7, hf7]
    exact ⟨if_neg hx, if_neg hx⟩
  have b73 : b7 (st + 3) = Int64.ofNat (ens ((a.sl n).set l none)).length ∧ f7 (st + 3) = 0 := by
    rw [hb7, hf7]
    exact ⟨if_pos rfl, if_pos rfl⟩
  refine ⟨Hs.wm z b7 f7, ?_, ?_, rfl, rfl⟩
  · rw [← hslE, ← hw, hcl, PB.2.2.2.2.1, fe, PB.2.1, esub, sf, PB.2.2.2.2.1]
  · refine RC_mset c A on k4 ?_ ?_ ?_ ?_ ?_ ?_
    · intro x
      by_cases h : x = st + 3
      · rw [h]; exact Or.inl b73.2
      · rw [(b7o x h).2]; exact ff5 x
    · intro x h1 h2
      have q1 := b7o x (by rw [hst]; exact h1 3 (by omega) (by omega))
      have q2 := b5o x (by
        intro d
        have h3 := sla_in (i := x - sl) c on k4 hlc (by omega)
        rw [← hslE] at h3
        exact h2 (x - g.st (o.ta n)) (by omega) (by omega) (by omega))
      exact ⟨q1.1.trans q2.1, q1.2.trans q2.2⟩
    · rw [← hst]; exact ⟨b73.2, b73.1⟩
    · have q1 := b7o (st + 4) (by omega)
      have q2 := b5o (st + 4) (cut 4 (by omega))
      rw [← hst]
      have := M.w3
      rw [← hst] at this
      exact ⟨q1.2.trans (q2.2.trans this.1), q1.1.trans (q2.1.trans this.2)⟩
    · have q1 := b7o (st + 5) (by omega)
      have q2 := b5o (st + 5) (cut 5 (by omega))
      rw [← hst, List.length_set]
      have := M.w4
      rw [← hst] at this
      exact ⟨q1.2.trans (q2.2.trans this.1), q1.1.trans (q2.1.trans this.2)⟩
    · intro j hj
      by_cases hjl : j = l
      · subst hjl
        rw [List.getElem?_set_self hl]
        have hx : ∀ i, i < w → b7 (sl + i) = 0 ∧ f7 (sl + i) = 0 := by
          intro i hi
          have q1 := b7o (sl + i) (by rw [hslE]; exact tne j i 3 hj hi (by omega))
          have q2 := b5i (sl + i) (by omega) (by omega)
          exact ⟨q1.1.trans q2.1, q1.2.trans q2.2⟩
        have hx0 := hx 0 (by omega)
        rw [Nat.add_zero] at hx0
        rw [hslE] at hx0 hx
        exact ⟨hx0.1, fun i hi => (hx i (by omega)).2⟩
      · rw [List.getElem?_set_ne (by omega)]
        refine SlR_w (T.sl j hj) ?_
        intro i hi
        have q1 := b7o (sla g o a n j + i) (tne j i 3 hj (by omega) (by omega))
        have q2 := b5o (sla g o a n j + i) (by
          intro d
          rw [hslE] at d
          by_cases hjl2 : j < l
          · have := sla_m (g := g) (o := o) (a := a) (n := n) hjl2
            omega
          · have := sla_m (g := g) (o := o) (a := a) (n := n) (show l < j by omega)
            omega)
        exact ⟨q1.1.trans q2.1, q1.2.trans q2.2⟩
theorem AI_del {a : Ab} {n l b : Nat} {e : Nat × (Nat → Wrd)} (A : AI a) (on : obj a n) (k4 : a.kd n = 4) (he : (a.sl n)[l]? = some (some e)) (hb : b < a.el.length) (h1 : (a.el[b]).1 = n) (h2 : (a.el[b]).2 = e) : AI (mset a n ((a.sl n).set l none) (a.no n) (a.el.eraseIdx b) a.tn) := by
  have okm := A.mp on k4
  have d := ens_del okm.srt he
  have sub : ∀ x, x ∈ ens ((a.sl n).set l none) → x ∈ ens (a.sl n) := by
    intro x hx
    rw [d] at hx
    exact (List.mem_filter.mp hx).1
  have hg : a.el[b]? = some (a.el[b]) := List.getElem?_eq_getElem hb
  have cn := A.cn n on k4
  have len : (a.el.eraseIdx b).length ≤ a.el.length := by
    rw [List.length_eraseIdx, if_pos hb]
    omega
  have sr := okm.srt
  rw [cn] at sr
  refine AI_mset A on k4 (by rw [List.length_set]; exact okm.sl) (Nat.le_refl _) A.tn okm.no ?_ (fun x hx => okm.lt x (sub x hx)) (fun x hx => okm.wd x (sub x hx)) (fun x hx => okm.mk x (sub x hx)) (fun x hx => okm.tx x (sub x hx)) ?_ (Nat.le_trans len A.en) ?_ ?_
  · rw [d]
    exact okm.srt.filter _
  · intro t ht
    exact A.el t ((List.eraseIdx_sublist _ _).mem ht)
  · rw [d, cn]
    have := eln_del (t := a.el[b]) h1 (l := a.el) (b := b) sr hg
    rw [h2] at this
    exact this.symm
  · intro k hk
    exact el_delo h1 hk hg
