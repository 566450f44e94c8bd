/-! The values of a key that is there, in the class. -/
theorem RC_put {z : Hs} {g : Gh} {o : Go} {a : Ab} {n l s p tn2 : Nat} {e : Nat × (Nat → Wrd)} {el2 : List Ent} (c : RC z g o a) (A : AI a) (on : obj a n) (k4 : a.kd n = 4) (os : obj a s) (k2 : a.kd s = 2) (hl : l < (a.sl n).length) (he : (a.sl n)[l]? = some (some e)) (hls : p + (a.nk n + a.nv n) ≤ a.ln s) :
    RC (Hs.wm z (va_cpy z.abt z.abt (g.st (o.ho s) + 1 + p + a.nk n) (sla g o a n l + 3 + a.nk n) (a.nv n)) (va_cpy z.arf z.arf (g.st (o.ho s) + 1 + p + a.nk n) (sla g o a n l + 3 + a.nk n) (a.nv n))) g o (mset a n ((a.sl n).set l (some (e.1, wmx e.2 (a.wo s) p (a.nk n) (a.nk n + a.nv n)))) (a.no n) el2 tn2) := by
  have okm := A.mp on k4
  have hsl := okm.sl
  have hlc : l < a.nc n := by omega
  have ob := c.ob n on
  obtain ⟨M, T⟩ := ob.mp k4
  have RR := (c.ob s os).rw k2
  obtain ⟨b, hb⟩ : ∃ b, b = va_cpy z.abt z.abt (g.st (o.ho s) + 1 + p + a.nk n) (sla g o a n l + 3 + a.nk n) (a.nv n) := ⟨_, rfl⟩
  obtain ⟨f, hf⟩ : ∃ f, f = va_cpy z.arf z.arf (g.st (o.ho s) + 1 + p + a.nk n) (sla g o a n l + 3 + a.nk n) (a.nv n) := ⟨_, rfl⟩
  have bi : ∀ i, i < a.nv n → b (sla g o a n l + 3 + a.nk n + i) = z.abt (g.st (o.ho s) + 1 + (p + (a.nk n + i))) ∧ f (sla g o a n l + 3 + a.nk n + i) = z.arf (g.st (o.ho s) + 1 + (p + (a.nk n + i))) := by
    intro i hi
    rw [hb, hf]
    unfold va_cpy
    rw [if_pos (by omega), if_pos (by omega), show g.st (o.ho s) + 1 + p + a.nk n + (sla g o a n l + 3 + a.nk n + i - (sla g o a n l + 3 + a.nk n)) = g.st (o.ho s) + 1 + (p + (a.nk n + i)) from by omega]
    exact ⟨rfl, rfl⟩
  have bo : ∀ x, ¬ (sla g o a n l + 3 + a.nk n ≤ x ∧ x < sla g o a n l + 3 + a.nk n + a.nv n) → b x = z.abt x ∧ f x = z.arf x := by
    intro x hx
    rw [hb, hf]
    exact ⟨if_neg hx, if_neg hx⟩
  rw [← hb, ← hf]
  have tne : ∀ x, x < 6 → ¬ (sla g o a n l + 3 + a.nk n ≤ g.st (o.ho n) + x ∧ g.st (o.ho n) + x < sla g o a n l + 3 + a.nk n + a.nv n) := by
    intro x hx d
    have := tab_ne (j := l) (i := g.st (o.ho n) + x - sla g o a n l) (x := x) c on k4 hlc (by omega) hx
    omega
  have hlen : (ens ((a.sl n).set l (some (e.1, wmx e.2 (a.wo s) p (a.nk n) (a.nk n + a.nv n))))).length = (ens (a.sl n)).length := by
    rw [ens_put okm.srt he, List.length_map]
  refine RC_mset c A on k4 ?_ ?_ ?_ ?_ ?_ ?_
  · intro x
    rw [hf]
    unfold va_cpy
    split
    · exact c.i.fl _
    · exact c.i.fl _
  · intro x h1 h2
    refine bo x ?_
    intro d
    have h3 := sla_in (i := x - sla g o a n l) c on k4 hlc (by omega)
    exact h2 (x - g.st (o.ta n)) (by omega) (by omega) (by omega)
  · have q := bo (g.st (o.ho n) + 3) (tne 3 (by omega))
    rw [hlen]
    exact ⟨q.2.trans M.w2.1, q.1.trans M.w2.2⟩
  · have q := bo (g.st (o.ho n) + 4) (tne 4 (by omega))
    exact ⟨q.2.trans M.w3.1, q.1.trans M.w3.2⟩
  · have q := bo (g.st (o.ho n) + 5) (tne 5 (by omega))
    rw [List.length_set]
    exact ⟨q.2.trans M.w4.1, q.1.trans M.w4.2⟩
  · intro j hj
    by_cases hjl : j = l
    · subst hjl
      rw [List.getElem?_set_self hl]
      have S := T.sl j hj
      rw [he] at S
      have q0 := bo (sla g o a n j) (by omega)
      have q1 := bo (sla g o a n j + 1) (by omega)
      have q2 := bo (sla g o a n j + 2) (by omega)
      refine ⟨q0.2.trans S.1, q0.1.trans S.2.1, q1.2.trans S.2.2.1, q2.2.trans S.2.2.2.1, ?_⟩
      intro i hi
      show f (sla g o a n j + 3 + i) = fW (wmx e.2 (a.wo s) p (a.nk n) (a.nk n + a.nv n) i) ∧ b (sla g o a n j + 3 + i) = bW o.ho (wmx e.2 (a.wo s) p (a.nk n) (a.nk n + a.nv n) i)
      by_cases hik : a.nk n ≤ i
      · have ew : wmx e.2 (a.wo s) p (a.nk n) (a.nk n + a.nv n) i = a.wo s (p + i) := if_pos ⟨hik, hi⟩
        have q := bi (i - a.nk n) (by omega)
        rw [show sla g o a n j + 3 + a.nk n + (i - a.nk n) = sla g o a n j + 3 + i from by omega, show p + (a.nk n + (i - a.nk n)) = p + i from by omega] at q
        have w := RR.2 (p + i) (by omega)
        rw [ew]
        exact ⟨q.2.trans w.1, q.1.trans w.2⟩
      · have ew : wmx e.2 (a.wo s) p (a.nk n) (a.nk n + a.nv n) i = e.2 i := if_neg (fun d => hik d.1)
        have q := bo (sla g o a n j + 3 + i) (by omega)
        have w := S.2.2.2.2 i hi
        rw [ew]
        exact ⟨q.2.trans w.1, q.1.trans w.2⟩
    · rw [List.getElem?_set_ne (by omega)]
      refine SlR_w (T.sl j hj) ?_
      intro i hi
      refine bo (sla g o a n j + i) ?_
      intro d
      by_cases hjl2 : j < l
      · have := sla_m (g := g) (o := o) (a := a) (n := n) hjl2
        omega
      · have := sla_m (g := g) (o := o) (a := a) (n := n) (show l < j by omega)
        omega
