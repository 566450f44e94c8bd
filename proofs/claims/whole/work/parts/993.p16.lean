/-! remove on both sides. -/
theorem J_remove {z : Lo} {m : Ms} {lm t : Nat} (r u : Int32) (S : St z.h m lm t) : ∃ z2 m2 k b, la_remove z r u = some (z2, k) ∧ md_remove m r u = some (m2, b) ∧ m2.thr = k ∧ (k = 0 → z2.aot 0 = b.toInt64) ∧ St z2.h m2 lm t ∧ Pot lm z2.h m2 = Pot lm z.h m := by
  obtain ⟨g, o, q, a, c, R, A, h1, h2⟩ := S
  have l00 : (0 : Int32) ≤ 0 := by decide
  rcases mwk_c c R A r u with ⟨k, e, hk, hw, hm⟩ | ⟨i, j, n, s, p, W, hw, hw2, hm, tk, hy⟩
  · have k0 : ¬ (k ≤ 0) := by
      rcases hk with ⟨rfl, _⟩ | ⟨rfl, _⟩ | ⟨rfl, _⟩ <;> decide
    have hc : wh_remove z.h r u = some (z.h, .inl e) := by
      unfold wh_remove
      rcases hw with hw | ⟨hw, hw2⟩
      · rw [hw, PB.2.2.1]
      · rw [hw, PB.2.2.2.1, hw2, PB.2.2.1]
    refine ⟨Lo.sh z z.h, Ms.sthr m k, k, 0, ?_, ?_, rfl, fun h => absurd (h ▸ l00) k0, ⟨g, o, q, a, c, R, A, h1, h2⟩, rfl⟩
    · unfold la_remove
      rw [hc, PH2.2.2.1]
      rcases hk with ⟨rfl, rfl⟩ | ⟨rfl, rfl⟩ | ⟨rfl, rfl⟩
      · rw [if_pos rfl]
      · rw [if_neg (by decide), if_pos rfl]
      · rw [if_neg (by decide), if_neg (by decide), if_pos rfl]
    · unfold md_remove
      rw [hm, PB.2.1, if_neg k0]
  · obtain ⟨hi, hj, e0, e1, gi, on, k4, gj, os, k2, hp, hl⟩ := W
    subst e0 e1
    have okm := A.mp on k4
    have F := c.mf on k4
    have hsl := okm.sl
    have hh : hW o (a.rg i) = o.ho n := by rw [gi]; rfl
    have hel := R.e.le
    have hnem := R.z.el
    obtain ⟨X, hX⟩ : ∃ X, X = wh_remove z.h (Int32.ofNat i) (Int32.ofNat j) := ⟨_, rfl⟩
    have hc0 := hX.symm
    unfold wh_remove mp_erase at hX
    rw [hw, PB.2.2.2.1, hw2, PB.2.2.2.1, c.handleAt (AI.in16 c hi) (c.rg i hi) (A.rg i hi), PB.2.1, hh, rowWord_e c A hj gj os, PB.2.1] at hX
    obtain ⟨Y, hY⟩ : ∃ Y, Y = md_remove m (Int32.ofNat i) (Int32.ofNat j) := ⟨_, rfl⟩
    have hm0 := hY.symm
    unfold md_remove at hY
    rw [hm, PB.2.1, if_pos l00] at hY
    rcases slotOfKey_e c A on k4 hy tk with ⟨l, e, hll, hle, fe, f1⟩ | ⟨no1, f1⟩
    · rcases md_find_e (m := Ms.sthr m 0) R A hi hj gi on k4 gj os k2 hl tk with ⟨b, hb, b1, fb, f2⟩ | ⟨no2, f2⟩
      · have heq := FdR_u okm fe fb
        have hlc : l < a.nc n := by omega
        have slb := sla_b c A on k4 (show l ≤ a.nc n by omega)
        obtain ⟨z7, d1, C2, d2, d3⟩ := RC_del (el2 := a.el.eraseIdx b) (tn2 := a.tn) c A on k4 hll hle
        have A2 := AI_del A on k4 hle hb b1 heq.symm
        obtain ⟨em, eo, et, ev, g1, g2⟩ := md_remove_e (m := Ms.sthr m 0) (x4 := Int32.ofNat e.1) R hb
        have R2 := RM_del (n := n) (l := l) (m := Ms.sthr m 0) R A hb g2
        rw [f1, PB.2.1, if_neg (Int32.neg1_ne (by omega)), orderIn_e c on k4 hlc hle, PB.2.1, slotWords_e F okm, PB.2.1, show ordS (some e) = Int32.ofNat e.1 from rfl, d1, PB.2.2.2.2.1] at hX
        rw [f2, PB.2.1, if_pos (q_le0 (by omega)), R.z.eo, q_inb (show b < m.nem by omega) (by omega), gdT, q_nat (show b < 2147483648 by omega), R.e.od b hb, ← heq, g1] at hY
        refine ⟨Lo.wot (Lo.sh z z7) (vp_updL z.aot ((0 : Int32).toNatClampNeg) (Int32.ofNat e.1).toInt64), _, 0, Int32.ofNat e.1, ?_, hm0.trans hY, rfl, fun _ => rfl, ⟨g, o, q, _, C2, R2, A2, h1, h2⟩, ?_⟩
        · unfold la_remove
          rw [hc0, hX, PH2.2.2.2.1, inb01, gdT]
        · show PH lm z7.nst + PW lm z7.nbt + PM m = PH lm z.h.nst + PW lm z.h.nbt + PM m
          rw [d2, d3]
      · exact absurd fe.2.1 (no2 e fe.1)
    · rcases md_find_e (m := Ms.sthr m 0) R A hi hj gi on k4 gj os k2 hl tk with ⟨b, hb, b1, fb, f2⟩ | ⟨no2, f2⟩
      · exact absurd fb.2.1 (no1 _ fb.1)
      · rw [f1, PB.2.1, if_pos rfl, PB.2.2.2.2.1] at hX
        rw [f2, PB.2.1, if_neg (by decide)] at hY
        refine ⟨Lo.wot (Lo.sh z z.h) (vp_updL z.aot ((0 : Int32).toNatClampNeg) (-1 : Int32).toInt64), Ms.sthr m 0, 0, -1, ?_, hm0.trans hY, rfl, fun _ => rfl, ⟨g, o, q, a, c, R, A, h1, h2⟩, rfl⟩
        unfold la_remove
        rw [hc0, hX, PH2.2.2.2.1, inb01, gdT]
