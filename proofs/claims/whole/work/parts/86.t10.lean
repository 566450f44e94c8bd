/-! part on both sides. -/
theorem J_part {z : Lo} {m : Ms} {lm t : Nat} (r s u v : Int32) (S : St z.h m lm t) (ht : t < 1000) : ∃ c d z2 m2 k b, la_part z r s u v = some (c, z2, k) ∧ md_part m r s u v = some (d, m2, b) ∧ m2.thr = k ∧ (k = 0 → z2.aot 0 = b.toInt64) ∧ St z2.h m2 lm (t + 1) ∧ c + d + Pot lm z.h m ≤ Pot lm z2.h m2 := by
  obtain ⟨g, o, q, a, c, R, A, h1, h2⟩ := S
  have l00 : (0 : Int32) ≤ 0 := by decide
  have l10 : ¬ ((1 : Int32) ≤ 0) := by decide
  have l20 : ¬ ((2 : Int32) ≤ 0) := by decide
  have l30 : ¬ ((3 : Int32) ≤ 0) := by decide
  have bad : wh_part z.h r s u v = some (0, z.h, .inl "java/lang/IllegalArgumentException") → md_part m r s u v = some (0, Ms.sthr m 1, 0) → ∃ c d z2 m2 k b, la_part z r s u v = some (c, z2, k) ∧ md_part m r s u v = some (d, m2, b) ∧ m2.thr = k ∧ (k = 0 → z2.aot 0 = b.toInt64) ∧ St z2.h m2 lm (t + 1) ∧ c + d + Pot lm z.h m ≤ Pot lm z2.h m2 := by
    intro e1 e2
    refine ⟨0, 0, Lo.sh z z.h, Ms.sthr m 1, 1, 0, ?_, e2, rfl, fun h => absurd h (by decide), ⟨g, o, q, a, c, R, A, h1, by omega⟩, by show 0 + 0 + Pot lm z.h m ≤ Pot lm z.h m; omega⟩
    unfold la_part
    rw [e1, PH2.2.2.2.2.1, if_pos rfl]
    rfl
  have bad2 : wh_part z.h r s u v = some (0, z.h, .inl "java/lang/UnsupportedOperationException") → md_part m r s u v = md_part_j75 r s u v 2 (Ms.sthr m 0) → ∃ c d z2 m2 k b, la_part z r s u v = some (c, z2, k) ∧ md_part m r s u v = some (d, m2, b) ∧ m2.thr = k ∧ (k = 0 → z2.aot 0 = b.toInt64) ∧ St z2.h m2 lm (t + 1) ∧ c + d + Pot lm z.h m ≤ Pot lm z2.h m2 := by
    intro e1 e2
    refine ⟨0, 0, Lo.sh z z.h, Ms.sthr (Ms.sthr m 0) 2, 2, 0, ?_, ?_, rfl, fun h => absurd h (by decide), ⟨g, o, q, a, c, R, A, h1, by omega⟩, by show 0 + 0 + Pot lm z.h m ≤ Pot lm z.h m; omega⟩
    · unfold la_part
      rw [e1, PH2.2.2.2.2.1, if_neg (by decide), if_pos rfl]
      rfl
    · rw [e2]
      unfold md_part_j75
      rw [if_neg l20]
  have bad3 : wh_part z.h r s u v = some (0, z.h, .inl "java/lang/IndexOutOfBoundsException") → md_part m r s u v = md_part_j70 r s u v (Ms.sthr m 0) → ∃ c d z2 m2 k b, la_part z r s u v = some (c, z2, k) ∧ md_part m r s u v = some (d, m2, b) ∧ m2.thr = k ∧ (k = 0 → z2.aot 0 = b.toInt64) ∧ St z2.h m2 lm (t + 1) ∧ c + d + Pot lm z.h m ≤ Pot lm z2.h m2 := by
    intro e1 e2
    refine ⟨0, 0, Lo.sh z z.h, Ms.sthr (Ms.sthr m 0) 3, 3, 0, ?_, ?_, rfl, fun h => absurd h (by decide), ⟨g, o, q, a, c, R, A, h1, by omega⟩, by show 0 + 0 + Pot lm z.h m ≤ Pot lm z.h m; omega⟩
    · unfold la_part
      rw [e1, PH2.2.2.2.2.1, if_neg (by decide), if_neg (by decide), if_pos rfl]
      rfl
    · rw [e2]
      unfold md_part_j70 md_part_j75
      rw [if_neg l30]
  rcases reg_c r with ⟨i, hi, rfl⟩ | hr
  · rcases reg_c s with ⟨j, hj, rfl⟩ | hs
    · obtain ⟨X, hX⟩ : ∃ X, X = wh_part z.h (Int32.ofNat i) (Int32.ofNat j) u v := ⟨_, rfl⟩
      have hc0 := hX.symm
      unfold wh_part at hX
      rw [nreg_y hi, PB.2.2.2.1, nreg_y hj, PB.2.2.2.1, textIn_e c A hj] at hX
      have hm0 : md_part m (Int32.ofNat i) (Int32.ofNat j) u v = md_part_j20 (Int32.ofNat i) (Int32.ofNat j) u v 0 m := by
        unfold md_part
        rw [mreg_y hi, PB.2.1, if_neg ne10, mreg_y hj, PB.2.1, if_neg ne10]
      unfold md_part_j20 at hm0
      rw [if_pos l00, md_isText_e (m := Ms.sthr m 0) R A hj, PB.2.1] at hm0
      by_cases hkj : kW a (a.rg j) = 3 ∨ kW a (a.rg j) = 1
      · rw [if_pos hkj, PB.2.2.2.1] at hX
        rw [if_pos hkj, if_neg ne10] at hm0
        obtain ⟨n1, e1, t1⟩ := kW_tx A (A.rg j hj) hkj
        have hh1 : hW o (a.rg j) = o.ho n1 := by rw [e1]; rfl
        obtain ⟨v1, ln1, _⟩ := c.txh t1
        have tl1 := tl_le A t1
        have g1 : m.atg j = tgW (.inr (n1, 0)) := by rw [(R.rg j hj).1, e1]
        rw [hh1, c.i.length v1, PB.2.1, ln1] at hX
        by_cases hu0 : u < 0
        · rw [if_pos hu0] at hX hm0
          exact bad3 (hc0.trans hX) hm0
        · rw [if_neg hu0] at hX hm0
          by_cases hvu : v < u
          · rw [if_pos hvu] at hX hm0
            exact bad3 (hc0.trans hX) hm0
          · rw [if_neg hvu] at hX hm0
            have hm1 : md_part m (Int32.ofNat i) (Int32.ofNat j) u v = if v ≤ Int32.ofNat (tl a n1) then md_part_j75 (Int32.ofNat i) (Int32.ofNat j) u v 0 (Ms.sthr m 0) else md_part_j70 (Int32.ofNat i) (Int32.ofNat j) u v (Ms.sthr m 0) := by
              rw [hm0]
              show gd (inb (Int32.ofNat j) m.ntg) (b0 (md_bytesOf (Ms.sthr m 0) (m.atg (Int32.ofNat j).toNatClampNeg)) _) = _
              rw [R.z.tg, q_inb hj (by omega), q_nat (show j < 2147483648 by omega), g1, gdT, md_bytesOf_e (m := Ms.sthr m 0) R A t1, PB.2.1]
            by_cases hvl : v ≤ Int32.ofNat (tl a n1)
            · rw [if_pos hvl] at hX hm1
              have hu0' : 0 ≤ u := Int32.not_lt.mp hu0
              have huv : u ≤ v := Int32.not_lt.mp hvu
              obtain ⟨y, hy, rfl⟩ := rng_c (tl a n1) (by omega) ⟨Int32.le_trans hu0' huv, hvl⟩
              obtain ⟨x, hx, rfl⟩ := rng_c y (by omega) ⟨hu0', huv⟩
              obtain ⟨L, hLe⟩ : ∃ L, y = x + L := ⟨y - x, by omega⟩
              subst hLe
              have eL : Int32.ofNat (x + L) - Int32.ofNat x = Int32.ofNat L := by
                rw [q_sub (by omega), show x + L - x = L from by omega]
              have tk3 : tkN 3 L 0 0 = (L + 7) / 8 + 1 := rfl
              obtain ⟨c1, z1, g1', o1, C, f1, p1, ho1⟩ := RC_claim (kd := 3) (ln := L) c A (Or.inr rfl) (by omega)
              obtain ⟨m1, q1, f2, R1, th1, p2⟩ := RM_room (n := (L + 7) / 8 + 1) (m := Ms.sthr (Ms.sthr m 0) 0) R A (by omega) rfl
              have A1 := AI_room (n := (L + 7) / 8 + 1) A
              obtain ⟨rm1, rm2, rm3, rm4⟩ := roomA_md (a := a) (n := (L + 7) / 8 + 1)
              obtain ⟨s1, s2, s3, s4, s5⟩ := room_tx (T := (L + 7) / 8 + 1) A hj e1 t1
              rw [tk3] at C f1
              have hc1 : tx_partOf z.h (Int32.ofNat (o.ho n1)) (Int32.ofNat x) (Int32.ofNat (x + L)) = bcwt (some (c1, z1, if (roomA a ((L + 7) / 8 + 1)).us + ((L + 7) / 8 + 1) ≤ a.lm then .inr (Int32.ofNat (o1.ho (a.md + 1))) else .inl "java/lang/IllegalStateException")) (fun c9 z9 e9 => (c9, (z9, .inl e9))) (fun z1 r1 => (tx_partOf_l20 FU (Int32.ofNat (o.ho n1)) (Int32.ofNat x) (Int32.ofNat L) r1 0 z1)) := by
                unfold tx_partOf
                rw [eL]
                exact congrArg (fun t => bcwt t _ _) f1
              have hm2 : md_part m (Int32.ofNat i) (Int32.ofNat j) (Int32.ofNat x) (Int32.ofNat (x + L)) = bw (if (roomA a ((L + 7) / 8 + 1)).us + ((L + 7) / 8 + 1) ≤ a.lm then some (Ms.susd m1 (Int64.ofNat ((roomA a ((L + 7) / 8 + 1)).us + ((L + 7) / 8 + 1))), 1) else some (m1, 0)) (fun z16 r16 => (if r16 = 0 then (md_part_j125 (Int32.ofNat i) (Int32.ofNat x) (Int32.ofNat (x + L)) (tgW (.inr (n1, 0))) r16 4 z16) else (md_part_j125 (Int32.ofNat i) (Int32.ofNat x) (Int32.ofNat (x + L)) (tgW (.inr (n1, 0))) r16 0 z16))) := by
                rw [hm1]
                unfold md_part_j75
                rw [if_pos l00, eL]
                show gd (inb (Int32.ofNat j) m.ntg) (gd (nzb 8) (bw (md_hasRoom (Ms.sthr (Ms.sthr m 0) 0) ((((Int32.ofNat L + 7) / 8).toInt64) + 1)) (fun z16 r16 => (if r16 = 0 then (md_part_j125 (Int32.ofNat i) (Int32.ofNat x) (Int32.ofNat (x + L)) (m.atg (Int32.ofNat j).toNatClampNeg) r16 4 z16) else (md_part_j125 (Int32.ofNat i) (Int32.ofNat x) (Int32.ofNat (x + L)) (m.atg (Int32.ofNat j).toNatClampNeg) r16 0 z16))))) = _
                have e7 : Int32.ofNat L + 7 = Int32.ofNat (L + 7) := q_add _ 7
                have e8 : Int32.ofNat (L + 7) / 8 = Int32.ofNat ((L + 7) / 8) := q_div (b := 8) (by omega) (by omega)
                have e5 : Int64.ofNat ((L + 7) / 8) + 1 = Int64.ofNat ((L + 7) / 8 + 1) := l_add _ 1
                rw [R.z.tg, q_inb hj (by omega), q_nat (show j < 2147483648 by omega), g1, gdT, e7, e8, q_64 (by omega), e5, show nzb 8 = true from by decide, gdT, f2]
              rw [hc1] at hX
              have q1h := HPp c
              by_cases h : (roomA a ((L + 7) / 8 + 1)).us + ((L + 7) / 8 + 1) ≤ a.lm
              · rw [if_pos h] at C hX hm2
                have A2 : AI (newA (roomA a ((L + 7) / 8 + 1)) 3 L 0 0 0) := AI_new A1 (by rw [rm2]; exact h) (by rw [rm3]; omega) (Or.inr (Or.inl ⟨rfl, by omega⟩))
                have nn := newA_n (a := roomA a ((L + 7) / 8 + 1)) (kd := 3) (ln := L) (nk := 0) (nv := 0) (nt := 0)
                have oN := newA_obj (a := roomA a ((L + 7) / 8 + 1)) (kd := 3) (ln := L) (nk := 0) (nv := 0) (nt := 0)
                obtain ⟨x1, x2, x3⟩ := newA_tx (kd := 3) (ln := L) s1 (by rw [rm1]; exact s5)
                obtain ⟨d1, m2, q2, f7, R2, th2, p3⟩ := RM_txt (ln := L) (x := 0) R1 A1 (by omega) (by rw [rm2]; exact h)
                have hx3 := x3.trans s4
                obtain ⟨z4, z5, m6, b2, k1, k2, k3, C6, R6, A6, lm6, tn6, nb6, ns6, pm6, th6⟩ := pt_core (i := i) (x := x) (L := L) C R2 A2 (fun F => wrt_0) x1 (by rw [rm1]; omega) oN nn.2.1 nn.2.2.1 (by rw [hx3]; exact hy) hi
                rw [rm1] at f7 k1 k2 k3
                rw [ho1 n1 s5] at k1
                have hpC := HPp C
                rw [show (newA (roomA a ((L + 7) / 8 + 1)) 3 L 0 0 0).lm = a.lm from rm2] at hpC
                refine ⟨c1 + 0 + 0 + 0, d1 + 0, Lo.wot (Lo.sh z z5) (vp_updL z.aot ((0 : Int32).toNatClampNeg) (Int32.ofNat (a.md + 1)).toInt64), m6, 0, Int32.ofNat (a.md + 1), ?_, ?_, th6.trans th2, fun _ => rfl, ⟨g1', o1, q2, b2, C6, R6, A6, lm6.trans (rm2.trans h1), ?_⟩, ?_⟩
                · unfold la_part
                  rw [hc0, hX, PB.2.2.2.2.2.2.2.2.2.2, k1, PB.2.2.2.2.2.2.2.1, PB.2.2.2.2.2.2.2.2.2.2, k2, PB.2.2.2.2.1, PB.2.2.2.2.2.2.2.1, PH2.2.2.2.2.2, inb01, gdT]
                  rfl
                · rw [hm2, PB.2.2.2.2.1, if_neg ne10]
                  unfold md_part_j125
                  rw [if_neg ne10, eL, f7, PB.2.2.2.2.2.2.2.2.1, k3]
                  rfl
                · rw [tn6]
                  show (roomA a ((L + 7) / 8 + 1)).tn + 1 ≤ t + 1
                  rw [rm3]; omega
                · have p2 : PM m1 = PM m := p2
                  show c1 + 0 + 0 + 0 + (d1 + 0) + (PH lm z.h.nst + PW lm z.h.nbt + PM m) ≤ PH lm z5.nst + PW lm z5.nbt + PM m6
                  rw [nb6, ns6, pm6, ← h1]
                  rw [q1h, hpC] at p1
                  omega
              · rw [if_neg h] at C hX hm2
                refine ⟨c1 + 0, 0, Lo.sh z z1, Ms.sthr m1 4, 4, 0, ?_, ?_, rfl, fun h => absurd h (by decide), ⟨g1', o1, q1, roomA a ((L + 7) / 8 + 1), C, R1, A1, rm2.trans h1, by rw [rm3]; omega⟩, ?_⟩
                · unfold la_part
                  rw [hc0, hX, PB.2.2.2.2.2.2.2.2.2.1, PB.2.2.2.2.2.2.2.2.2.1, PH2.2.2.2.2.1, if_neg (by decide), if_neg (by decide), if_neg (by decide), if_pos rfl]
                  rfl
                · rw [hm2, PB.2.2.2.2.1, if_pos rfl]
                  unfold md_part_j125
                  rw [if_pos rfl]
                · have q2 := HPp C
                  rw [rm2] at q2
                  rw [q1h, q2] at p1
                  have p2 : PM m1 = PM m := p2
                  show c1 + 0 + 0 + (PH lm z.h.nst + PW lm z.h.nbt + PM m) ≤ PH lm z1.nst + PW lm z1.nbt + PM m1
                  rw [← h1]
                  omega
            · rw [if_neg hvl] at hX hm1
              exact bad3 (hc0.trans hX) hm1
      · rw [if_neg hkj, PB.2.2.1] at hX
        rw [if_neg hkj, if_pos rfl] at hm0
        exact bad2 (hc0.trans hX) hm0
    · refine bad ?_ ?_
      · unfold wh_part
        rw [nreg_y hi, PB.2.2.2.1, nreg_n hs, PB.2.2.1]
      · unfold md_part md_part_j15 md_part_j20
        rw [mreg_y hi, PB.2.1, if_neg ne10, mreg_n hs, PB.2.1, if_pos rfl, if_neg l10]
  · refine bad ?_ ?_
    · unfold wh_part
      rw [nreg_n hr, PB.2.2.1]
    · unfold md_part md_part_j15 md_part_j20
      rw [mreg_n hr, PB.2.1, if_pos rfl, if_neg l10]
