/-! A call with a key; get on both sides. -/
theorem mwk_c {z : Hs} {g : Gh} {o : Go} {a : Ab} {m : Ms} {q : Gm} (c : RC z g o a) (R : RM m q a) (A : AI a) (p0 p1 : Int32) :
    (∃ (k : Int32) (e : String), (k = 1 ∧ e = "java/lang/IllegalArgumentException" ∨ k = 2 ∧ e = "java/lang/UnsupportedOperationException" ∨ k = 3 ∧ e = "java/lang/IndexOutOfBoundsException") ∧ (wh_needMapAndWords z p0 p1 = some (.inl e) ∨ wh_needMapAndWords z p0 p1 = some (.inr ()) ∧ wh_needTextualKey z p0 p1 = some (.inl e)) ∧ md_wrong m p0 p1 1 = some k) ∨
    (∃ i j n s p, MW a p0 p1 i j n s p ∧ wh_needMapAndWords z p0 p1 = some (.inr ()) ∧ wh_needTextualKey z p0 p1 = some (.inr ()) ∧ md_wrong m p0 p1 1 = some 0 ∧ tkk a n (fun i => a.wo s (p + i)) ∧ ∀ i, i < a.nk n → g.st (o.ho s) + 1 + p + i < z.nbt ∧ wat z o (g.st (o.ho s) + 1 + p + i) (a.wo s (p + i)) ∧ okW a (a.wo s (p + i))) := by
  rcases mw_c c R A p0 p1 with ⟨k, hk, hm⟩ | ⟨i, j, n, s, p, W, hw, hm⟩
  · rcases hk with ⟨rfl, hk⟩ | ⟨rfl, hk⟩ | ⟨rfl, hk⟩
    · exact Or.inl ⟨1, _, Or.inl ⟨rfl, rfl⟩, Or.inl hk, hm 1⟩
    · exact Or.inl ⟨2, _, Or.inr (Or.inl ⟨rfl, rfl⟩), Or.inl hk, hm 1⟩
    · exact Or.inl ⟨3, _, Or.inr (Or.inr ⟨rfl, rfl⟩), Or.inl hk, hm 1⟩
  · have W0 := W
    obtain ⟨hi, hj, e0, e1, gi, on, k4, gj, os, k2, hp, hl⟩ := W
    have okm := A.mp on k4
    have okr := A.rw os k2
    have ob := c.ob s os
    have RR := ob.rw k2
    have szs : g.sz (o.ho s) = 1 + a.ln s := by unfold Gh.sz; rw [ob.kd, k2, RR.1]; rfl
    have hh : hW o (a.rg i) = o.ho n := by rw [gi]; rfl
    have hy : ∀ i, i < a.nk n → g.st (o.ho s) + 1 + p + i < z.nbt ∧ wat z o (g.st (o.ho s) + 1 + p + i) (a.wo s (p + i)) ∧ okW a (a.wo s (p + i)) := by
      intro x hx
      have wn := c.i.wd_ne (a := g.st (o.ho s) + 1 + p + x) (Or.inr ⟨o.ho s, ob.m, by omega, by omega⟩)
      have := RR.2 (p + x) (by omega)
      rw [← Nat.add_assoc] at this
      exact ⟨wn.1, this, okr.2 (p + x) (by omega)⟩
    obtain ⟨r1, f1, t1⟩ := hasTextualKey_e c A on k4 hy
    obtain ⟨r2, f2, t2⟩ := md_isTextual_e R A hi hj gi on k4 gj os k2 hl
    have hm1 := hm 1
    have hc : wh_needTextualKey z p0 p1 = if r1 = 0 then some (.inl "java/lang/UnsupportedOperationException") else some (.inr ()) := by
      unfold wh_needTextualKey
      rw [e0, e1, c.handleAt (AI.in16 c hi) (c.rg i hi) (A.rg i hi), PB.2.1, hh, rowWord_e c A hj gj os, PB.2.1, f1, PB.2.1]
    rw [if_neg ne10, e0, e1, f2, PB.2.1, ← e0, ← e1] at hm1
    rcases t1 with ⟨rfl, t1⟩ | ⟨rfl, t1⟩
    · rcases t2 with ⟨rfl, t2⟩ | ⟨rfl, t2⟩
      · rw [if_neg ne10] at hc hm1
        exact Or.inr ⟨i, j, n, s, p, W0, hw, hc, hm1, t1, hy⟩
      · exact absurd t1 t2
    · rcases t2 with ⟨rfl, t2⟩ | ⟨rfl, t2⟩
      · exact absurd t2 t1
      · rw [if_pos rfl] at hc hm1
        exact Or.inl ⟨2, _, Or.inr (Or.inl ⟨rfl, rfl⟩), Or.inr ⟨hw, hc⟩, hm1⟩
theorem J_get {z : Lo} {m : Ms} {lm t : Nat} (r u : Int32) (S : St z.h m lm t) : ∃ z2 m2 k b, la_get z r u = some (z2, k) ∧ md_get m r u = some (m2, b) ∧ m2.thr = k ∧ (k = 0 → z2.aot 0 = b.toInt64) ∧ St z2.h m2 lm t ∧ Pot lm z2.h m2 = Pot lm z.h m := by
  obtain ⟨g, o, q, a, c, R, A, h1, h2⟩ := S
  have l00 : (0 : Int32) ≤ 0 := by decide
  rcases mwk_c c R A r u with ⟨k, e, hk, hw, hm⟩ | ⟨i, j, n, s, p, W, hw, hw2, hm, tk, hy⟩
  · have k0 : ¬ (k ≤ 0) := by
      rcases hk with ⟨rfl, _⟩ | ⟨rfl, _⟩ | ⟨rfl, _⟩ <;> decide
    have hc : wh_get z.h r u = some (z.h, .inl e) := by
      unfold wh_get
      rcases hw with hw | ⟨hw, hw2⟩
      · rw [hw, PB.2.2.1]
      · rw [hw, PB.2.2.2.1, hw2, PB.2.2.1]
    refine ⟨Lo.sh z z.h, Ms.sthr m k, k, 0, ?_, ?_, rfl, fun h => absurd (h ▸ l00) k0, ⟨g, o, q, a, c, R, A, h1, h2⟩, rfl⟩
    · unfold la_get
      rw [hc, PH2.2.2.1]
      rcases hk with ⟨rfl, rfl⟩ | ⟨rfl, rfl⟩ | ⟨rfl, rfl⟩
      · rw [if_pos rfl]
      · rw [if_neg (by decide), if_pos rfl]
      · rw [if_neg (by decide), if_neg (by decide), if_pos rfl]
    · unfold md_get
      rw [hm, PB.2.1, if_neg k0]
  · obtain ⟨hi, hj, e0, e1, gi, on, k4, gj, os, k2, hp, hl⟩ := W
    subst e0 e1
    have okm := A.mp on k4
    have F := c.mf on k4
    have nk := okm.nk
    have nv := okm.nv
    have hsl := okm.sl
    have tn := A.tn
    have no := okm.no
    have n0 : n ≠ 0 := by have := on.1; omega
    have hn := on.2.1
    have zk := R.z.K
    have hK := R.k
    have om := (R.ob n on).mp k4
    have tgn : m.atg i = Int32.ofNat n := by rw [(R.rg i hi).1, gi]; exact tgW_o n0
    have hh : hW o (a.rg i) = o.ho n := by rw [gi]; rfl
    have ob := c.ob s os
    have RR := ob.rw k2
    have szs : g.sz (o.ho s) = 1 + a.ln s := by unfold Gh.sz; rw [ob.kd, k2, RR.1]; rfl
    have tms := Til_mem c.i.til ob.m
    have eb := c.i.eb
    have hel := R.e.le
    have hnem := R.z.el
    obtain ⟨X, hX⟩ : ∃ X, X = wh_get z.h (Int32.ofNat i) (Int32.ofNat j) := ⟨_, rfl⟩
    have hc0 := hX.symm
    unfold wh_get mp_fetch at hX
    rw [hw, PB.2.2.2.1, hw2, PB.2.2.2.1, c.handleAt (AI.in16 c hi) (c.rg i hi) (A.rg i hi), PB.2.1, hh, rowWord_e c A hj gj os, PB.2.1] at hX
    obtain ⟨Y, hY⟩ : ∃ Y, Y = md_get m (Int32.ofNat i) (Int32.ofNat j) := ⟨_, rfl⟩
    have hm0 := hY.symm
    unfold md_get at hY
    rw [hm, PB.2.1, if_pos l00, R.z.tg, q_inb hi (by omega), gdT] at hY
    rcases slotOfKey_e c A on k4 hy tk with ⟨l, e, hll, hle, fe, f1⟩ | ⟨no1, f1⟩
    · rcases md_find_e (m := Ms.sthr m 0) R A hi hj gi on k4 gj os k2 hl tk with ⟨b, hb, b1, fb, f2⟩ | ⟨no2, f2⟩
      · have heq := FdR_u okm fe fb
        have hlc : l < a.nc n := by omega
        have slb := sla_b c A on k4 (show l ≤ a.nc n by omega)
        have hsl2 := sla_in (i := 3 + a.nk n + a.nv n - 1) c on k4 hlc (by omega)
        obtain ⟨C2, A2⟩ := RC_shw (lo := a.nk n) (hi := a.nk n + a.nv n) c A on k4 os k2 hle hlc (by omega) (Nat.le_refl _) hl
        obtain ⟨t2, v2, g1, R2⟩ := md_show_e (m := Ms.sthr m 0) (lo := a.nk n) (hi := a.nk n + a.nv n) (n := n) R A hj hb b1 gj os k2 hp (by omega) (Nat.le_refl _) (by omega) hl
        rw [← heq] at R2
        have e3 : Int32.ofNat (sla g o a n l) + 3 = Int32.ofNat (sla g o a n l + 3) := q_add _ 3
        have cw : hp_copyWords z.h (Int32.ofNat (g.st (o.ho s) + 1 + p + a.nk n)) (Int32.ofNat (sla g o a n l + 3 + a.nk n)) (Int32.ofNat (a.nv n)) = some (Hs.wm z.h (va_cpy z.h.abt z.h.abt (sla g o a n l + 3 + a.nk n) (g.st (o.ho s) + 1 + p + a.nk n) (a.nk n + a.nv n - a.nk n)) (va_cpy z.h.arf z.h.arf (sla g o a n l + 3 + a.nk n) (g.st (o.ho s) + 1 + p + a.nk n) (a.nk n + a.nv n - a.nk n)), ()) := by
          rw [Nat.add_sub_cancel_left]
          exact hp_copyWords_e c.i.hb (by omega) (by omega)
        have oi := orderIn_e (n := n) (j := l) C2 on k4 hlc hle
        have oi : mp_orderIn (Hs.wm z.h (va_cpy z.h.abt z.h.abt (sla g o a n l + 3 + a.nk n) (g.st (o.ho s) + 1 + p + a.nk n) (a.nk n + a.nv n - a.nk n)) (va_cpy z.h.arf z.h.arf (sla g o a n l + 3 + a.nk n) (g.st (o.ho s) + 1 + p + a.nk n) (a.nk n + a.nv n - a.nk n))) (Int32.ofNat (sla g o a n l)) = some (Int32.ofNat e.1) := oi
        rw [f1, PB.2.1, if_neg (Int32.neg1_ne (by omega)), keyWords_e F okm, PB.2.1, valueWords_e F okm, PB.2.1, e3, q_add, q_add, cw, PB.2.2.2.2.1, oi, PB.2.1, PB.2.2.2.2.1] at hX
        rw [f2, PB.2.1, if_pos (q_le0 (by omega)), q_nat (show i < 2147483648 by omega), tgn, R.z.ke, R.z.va, q_inb (show n < q.K by omega) (by omega), q_nat (show n < 2147483648 by omega), om.1, om.2.1, q_add, gdT, gdT, gdT, g1, PB.2.2.2.2.1] at hY
        have hY : Y = gd (inb (Int32.ofNat b) m.neo) (some (Ms.wwv (Ms.wwt (Ms.sthr m 0) t2) v2, m.aeo (Int32.ofNat b).toNatClampNeg)) := hY
        rw [R.z.eo, q_inb (show b < m.nem by omega) (by omega), gdT, q_nat (show b < 2147483648 by omega), R.e.od b hb, ← heq] at hY
        refine ⟨Lo.wot (Lo.sh z _) (vp_updL z.aot ((0 : Int32).toNatClampNeg) (Int32.ofNat e.1).toInt64), _, 0, Int32.ofNat e.1, ?_, hm0.trans hY, rfl, fun _ => rfl, ⟨g, o, q, _, C2, R2, A2, h1, h2⟩, rfl⟩
        unfold la_get
        rw [hc0, hX, PH2.2.2.2.1, inb01, gdT]
        rfl
      · exact absurd fe.2.1 (no2 e fe.1)
    · rcases md_find_e (m := Ms.sthr m 0) R A hi hj gi on k4 gj os k2 hl tk with ⟨b, hb, b1, fb, f2⟩ | ⟨no2, f2⟩
      · exact absurd fb.2.1 (no1 _ fb.1)
      · rw [f1, PB.2.1, if_pos rfl, PB.2.2.2.2.1] at hX
        rw [f2, PB.2.1, if_neg (by decide)] at hY
        refine ⟨Lo.wot (Lo.sh z z.h) (vp_updL z.aot ((0 : Int32).toNatClampNeg) (-1 : Int32).toInt64), Ms.sthr m 0, 0, -1, ?_, hm0.trans hY, rfl, fun _ => rfl, ⟨g, o, q, a, c, R, A, h1, h2⟩, rfl⟩
        unfold la_get
        rw [hc0, hX, PH2.2.2.2.1, inb01, gdT]
