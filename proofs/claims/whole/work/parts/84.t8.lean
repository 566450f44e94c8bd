/-! join on both sides. -/
theorem jn_core {z : Hs} {g : Gh} {o : Go} {b : Ab} {m : Ms} {q : Gm} {n1 n2 L N i : Nat} (C : RC z g o b) (R : RM m q b) (A : AI b) (w0 : ∀ F, wrt b N (cut F 0) = b) (t1 : txn b n1) (t2 : txn b n2) (m1 : n1 ≠ N) (m2 : n2 ≠ N) (oN : obj b N) (kN : b.kd N = 3) (lN : b.ln N = L) (hL : L = tl b n1 + tl b n2) (hL2 : L ≤ 32768) (hi : i < 16) :
    ∃ z4 z5 m6 b2, tx_joined_l36 FU (Int32.ofNat (o.ho n1)) (Int32.ofNat (o.ho n2)) (Int32.ofNat (tl b n1)) (Int32.ofNat L) (Int32.ofNat (o.ho N)) 0 z = some (0, z4, .inr (Int32.ofNat (o.ho N))) ∧ wh_hold z4 (Int32.ofNat i) (Int32.ofNat (o.ho N)) = some (z5, Int32.ofNat N) ∧ md_join_l179 FU (Int32.ofNat i) (tgW (.inr (n1, 0))) (tgW (.inr (n2, 0))) (Int32.ofNat L) (Int32.ofNat N) 0 m = some (0, m6, Int32.ofNat N) ∧ RC z5 g o b2 ∧ RM m6 q b2 ∧ AI b2 ∧ b2.lm = b.lm ∧ b2.tn = b.tn ∧ z5.nbt = z.nbt ∧ z5.nst = z.nst ∧ PM m6 = PM m ∧ m6.thr = m.thr := by
  have n0 : N ≠ 0 := by have := oN.1; omega
  obtain ⟨z4, f4, C4, nb4, ns4⟩ := jn_loop (g := g) (o := o) (b := b) (n1 := n1) (n2 := n2) (L := L) (N := N) (F := jnF (tb b n1) (tb b n2) (tl b n1)) A t1 t2 m1 m2 oN kN lN hL hL2 rfl ((L + 7) / 8) 0 FU z (by omega) (by unfold FU; omega) (by rw [Nat.mul_zero, w0]; exact C)
  obtain ⟨m5, f5, R5, p5, th5⟩ := mj_loop (q := q) (b := b) (n1 := n1) (n2 := n2) (L := L) (N := N) (r := i) (F := jnF (tb b n1) (tb b n2) (tl b n1)) A hi t1 t2 m1 m2 oN kN lN hL hL2 rfl L 0 FU m (by omega) (by unfold FU; omega) (by rw [w0]; exact R)
  have A4 : AI (wrt b N (jnF (tb b n1) (tb b n2) (tl b n1))) := AI_bs A oN kN (jnF_lt A t1 t2) (fun y hy => jnF_0 A t1 t2 y (by omega))
  obtain ⟨f6, C6⟩ := RC_hold (n := N) C4 A4 hi oN
  have R6 := RM_reg (i := i) (w := .inr (N, 0)) R5
  rw [tgW_o n0] at R6
  refine ⟨z4, _, _, _, f4, f6, f5, C6, R6, AI_reg A4 ?_, rfl, rfl, nb4, ns4, p5, th5⟩
  refine Or.inr ⟨oN, Nat.zero_le _, ?_⟩
  split
  · exact Nat.zero_le _
  · rfl
theorem J_join {z : Lo} {m : Ms} {lm t : Nat} (r s u : Int32) (S : St z.h m lm t) (ht : t < 1000) : ∃ c d z2 m2 k b, la_join z r s u = some (c, z2, k) ∧ md_join m r s u = some (d, m2, b) ∧ m2.thr = k ∧ (k = 0 → z2.aot 0 = b.toInt64) ∧ St z2.h m2 lm (t + 1) ∧ c + d + Pot lm z.h m ≤ Pot lm z2.h m2 := by
  obtain ⟨g, o, q, a, c, R, A, h1, h2⟩ := S
  have l00 : (0 : Int32) ≤ 0 := by decide
  have l10 : ¬ ((1 : Int32) ≤ 0) := by decide
  have l20 : ¬ ((2 : Int32) ≤ 0) := by decide
  have bad : wh_join z.h r s u = some (0, z.h, .inl "java/lang/IllegalArgumentException") → md_join m r s u = some (0, Ms.sthr m 1, 0) → ∃ c d z2 m2 k b, la_join z r s u = some (c, z2, k) ∧ md_join m r s u = some (d, m2, b) ∧ m2.thr = k ∧ (k = 0 → z2.aot 0 = b.toInt64) ∧ St z2.h m2 lm (t + 1) ∧ c + d + Pot lm z.h m ≤ Pot lm z2.h m2 := by
    intro e1 e2
    refine ⟨0, 0, Lo.sh z z.h, Ms.sthr m 1, 1, 0, ?_, e2, rfl, fun h => absurd h (by decide), ⟨g, o, q, a, c, R, A, h1, by omega⟩, by show 0 + 0 + Pot lm z.h m ≤ Pot lm z.h m; omega⟩
    unfold la_join
    rw [e1, PH2.2.2.2.2.1, if_pos rfl]
    rfl
  have bad2 : wh_join z.h r s u = some (0, z.h, .inl "java/lang/UnsupportedOperationException") → md_join m r s u = md_join_j82 r s u (Ms.sthr m 0) → ∃ c d z2 m2 k b, la_join z r s u = some (c, z2, k) ∧ md_join m r s u = some (d, m2, b) ∧ m2.thr = k ∧ (k = 0 → z2.aot 0 = b.toInt64) ∧ St z2.h m2 lm (t + 1) ∧ c + d + Pot lm z.h m ≤ Pot lm z2.h m2 := by
    intro e1 e2
    refine ⟨0, 0, Lo.sh z z.h, Ms.sthr (Ms.sthr m 0) 2, 2, 0, ?_, ?_, rfl, fun h => absurd h (by decide), ⟨g, o, q, a, c, R, A, h1, by omega⟩, by show 0 + 0 + Pot lm z.h m ≤ Pot lm z.h m; omega⟩
    · unfold la_join
      rw [e1, PH2.2.2.2.2.1, if_neg (by decide), if_pos rfl]
      rfl
    · rw [e2]
      unfold md_join_j82 md_join_j87
      rw [if_neg l20]
  rcases reg_c r with ⟨i, hi, rfl⟩ | hr
  · rcases reg_c s with ⟨j, hj, rfl⟩ | hs
    · rcases reg_c u with ⟨l, hl, rfl⟩ | hu
      · obtain ⟨X, hX⟩ : ∃ X, X = wh_join z.h (Int32.ofNat i) (Int32.ofNat j) (Int32.ofNat l) := ⟨_, rfl⟩
        have hc0 := hX.symm
        unfold wh_join at hX
        rw [nreg_y hi, PB.2.2.2.1, nreg_y hj, PB.2.2.2.1, nreg_y hl, PB.2.2.2.1, textIn_e c A hj, textIn_e c A hl] at hX
        have hm0 : md_join m (Int32.ofNat i) (Int32.ofNat j) (Int32.ofNat l) = md_join_j27 (Int32.ofNat i) (Int32.ofNat j) (Int32.ofNat l) 0 m := by
          unfold md_join
          rw [mreg_y hi, PB.2.1, if_neg ne10, mreg_y hj, PB.2.1, if_neg ne10, mreg_y hl, PB.2.1, if_neg ne10]
        unfold md_join_j27 at hm0
        rw [if_pos l00, md_isText_e (m := Ms.sthr m 0) R A hj, PB.2.1, md_isText_e (m := Ms.sthr m 0) R A hl] at hm0
        by_cases hkj : kW a (a.rg j) = 3 ∨ kW a (a.rg j) = 1
        · rw [if_pos hkj, PB.2.2.2.1] at hX
          rw [if_pos hkj, if_neg ne10, PB.2.1] at hm0
          by_cases hkl : kW a (a.rg l) = 3 ∨ kW a (a.rg l) = 1
          · rw [if_pos hkl, PB.2.2.2.1] at hX
            rw [if_pos hkl, if_neg ne10] at hm0
            obtain ⟨n1, e1, t1⟩ := kW_tx A (A.rg j hj) hkj
            obtain ⟨n2, e2, t2⟩ := kW_tx A (A.rg l hl) hkl
            have hh1 : hW o (a.rg j) = o.ho n1 := by rw [e1]; rfl
            have hh2 : hW o (a.rg l) = o.ho n2 := by rw [e2]; rfl
            obtain ⟨v1, ln1, _⟩ := c.txh t1
            obtain ⟨v2, ln2, _⟩ := c.txh t2
            have tl1 := tl_le A t1
            have tl2 := tl_le A t2
            have g1 : m.atg j = tgW (.inr (n1, 0)) := by rw [(R.rg j hj).1, e1]
            have g2 : m.atg l = tgW (.inr (n2, 0)) := by rw [(R.rg l hl).1, e2]
            rw [hh1, hh2, c.i.length v1, PB.2.1, c.i.length v2, PB.2.1, ln1, ln2, q_add] at hX
            have hm1 : md_join m (Int32.ofNat i) (Int32.ofNat j) (Int32.ofNat l) = if Int32.ofNat (tl a n1 + tl a n2) ≤ 32768 then md_join_j87 (Int32.ofNat i) (Int32.ofNat j) (Int32.ofNat l) 0 (Ms.sthr m 0) else md_join_j82 (Int32.ofNat i) (Int32.ofNat j) (Int32.ofNat l) (Ms.sthr m 0) := by
              rw [hm0]
              show gd (inb (Int32.ofNat j) m.ntg) (b0 (md_bytesOf (Ms.sthr m 0) (m.atg (Int32.ofNat j).toNatClampNeg)) (fun r13 => gd (inb (Int32.ofNat l) m.ntg) (b0 (md_bytesOf (Ms.sthr m 0) (m.atg (Int32.ofNat l).toNatClampNeg)) _))) = _
              rw [R.z.tg, q_inb hj (by omega), q_inb hl (by omega), q_nat (show j < 2147483648 by omega), q_nat (show l < 2147483648 by omega), g1, g2, gdT, md_bytesOf_e (m := Ms.sthr m 0) R A t1, PB.2.1, gdT, md_bytesOf_e (m := Ms.sthr m 0) R A t2, PB.2.1, q_add]
            by_cases hL : tl a n1 + tl a n2 ≤ 32768
            · have hL' : Int32.ofNat (tl a n1 + tl a n2) ≤ 32768 := (q_le (b := 32768) (by omega) (by omega)).mpr hL
              rw [if_pos hL'] at hX hm1
              obtain ⟨L, hLe⟩ : ∃ L, L = tl a n1 + tl a n2 := ⟨_, rfl⟩
              have tk3 : tkN 3 L 0 0 = (L + 7) / 8 + 1 := rfl
              obtain ⟨c1, z1, g1', o1, C, f1, p1, ho1⟩ := RC_claim (kd := 3) (ln := L) c A (Or.inr rfl) (by omega)
              obtain ⟨m1, q1, f2, R1, th1, p2⟩ := RM_room (n := (L + 7) / 8 + 1) (m := Ms.sthr (Ms.sthr m 0) 0) R A (by omega) rfl
              have A1 := AI_room (n := (L + 7) / 8 + 1) A
              obtain ⟨rm1, rm2, rm3, rm4⟩ := roomA_md (a := a) (n := (L + 7) / 8 + 1)
              obtain ⟨s1, s2, s3, s4, s5⟩ := room_tx (T := (L + 7) / 8 + 1) A hj e1 t1
              obtain ⟨w1, w2, w3, w4, w5⟩ := room_tx (T := (L + 7) / 8 + 1) A hl e2 t2
              rw [tk3] at C f1
              have hc1 : tx_joined z.h (Int32.ofNat (o.ho n1)) (Int32.ofNat (o.ho n2)) = bcwt (some (c1, z1, if (roomA a ((L + 7) / 8 + 1)).us + ((L + 7) / 8 + 1) ≤ a.lm then .inr (Int32.ofNat (o1.ho (a.md + 1))) else .inl "java/lang/IllegalStateException")) (fun c9 z9 e9 => (c9, (z9, .inl e9))) (fun z3 r3 => (tx_joined_l36 FU (Int32.ofNat (o.ho n1)) (Int32.ofNat (o.ho n2)) (Int32.ofNat (tl a n1)) (Int32.ofNat L) r3 0 z3)) := by
                unfold tx_joined
                rw [c.i.length v1, PB.2.1, c.i.length v2, PB.2.1, ln1, ln2, q_add, ← hLe]
                exact congrArg (fun t => bcwt t _ _) f1
              have hm2 : md_join m (Int32.ofNat i) (Int32.ofNat j) (Int32.ofNat l) = bw (if (roomA a ((L + 7) / 8 + 1)).us + ((L + 7) / 8 + 1) ≤ a.lm then some (Ms.susd m1 (Int64.ofNat ((roomA a ((L + 7) / 8 + 1)).us + ((L + 7) / 8 + 1))), 1) else some (m1, 0)) (fun z23 r23 => (if r23 = 0 then (md_join_j158 (Int32.ofNat i) (tgW (.inr (n1, 0))) (tgW (.inr (n2, 0))) (Int32.ofNat L) r23 3 z23) else (md_join_j158 (Int32.ofNat i) (tgW (.inr (n1, 0))) (tgW (.inr (n2, 0))) (Int32.ofNat L) r23 0 z23))) := by
                rw [hm1]
                unfold md_join_j87
                rw [if_pos l00]
                show gd (inb (Int32.ofNat j) m.ntg) (gd (inb (Int32.ofNat l) m.ntg) (b0 (md_bytesOf (Ms.sthr (Ms.sthr m 0) 0) (m.atg (Int32.ofNat j).toNatClampNeg)) (fun r20 => b0 (md_bytesOf (Ms.sthr (Ms.sthr m 0) 0) (m.atg (Int32.ofNat l).toNatClampNeg)) (fun r21 => gd (nzb 8) (bw (md_hasRoom (Ms.sthr (Ms.sthr m 0) 0) (((((r20 + r21) + 7) / 8).toInt64) + 1)) (fun z23 r23 => (if r23 = 0 then (md_join_j158 (Int32.ofNat i) (m.atg (Int32.ofNat j).toNatClampNeg) (m.atg (Int32.ofNat l).toNatClampNeg) (r20 + r21) r23 3 z23) else (md_join_j158 (Int32.ofNat i) (m.atg (Int32.ofNat j).toNatClampNeg) (m.atg (Int32.ofNat l).toNatClampNeg) (r20 + r21) r23 0 z23)))))))) = _
                have e7 : Int32.ofNat L + 7 = Int32.ofNat (L + 7) := q_add _ 7
                have e8 : Int32.ofNat (L + 7) / 8 = Int32.ofNat ((L + 7) / 8) := q_div (b := 8) (by omega) (by omega)
                have e5 : Int64.ofNat ((L + 7) / 8) + 1 = Int64.ofNat ((L + 7) / 8 + 1) := l_add _ 1
                rw [R.z.tg, q_inb hj (by omega), q_inb hl (by omega), q_nat (show j < 2147483648 by omega), q_nat (show l < 2147483648 by omega), g1, g2, gdT, gdT, md_bytesOf_e (m := Ms.sthr (Ms.sthr m 0) 0) R A t1, PB.2.1, md_bytesOf_e (m := Ms.sthr (Ms.sthr m 0) 0) R A t2, PB.2.1, q_add, ← hLe, e7, e8, q_64 (by omega), e5, show nzb 8 = true from by decide, gdT, f2]
              rw [hc1] at hX
              have q1h := HPp c
              by_cases h : (roomA a ((L + 7) / 8 + 1)).us + ((L + 7) / 8 + 1) ≤ a.lm
              · rw [if_pos h] at C hX hm2
                have A2 : AI (newA (roomA a ((L + 7) / 8 + 1)) 3 L 0 0 0) := AI_new A1 (by rw [rm2]; exact h) (by rw [rm3]; omega) (Or.inr (Or.inl ⟨rfl, by omega⟩))
                have nn := newA_n (a := roomA a ((L + 7) / 8 + 1)) (kd := 3) (ln := L) (nk := 0) (nv := 0) (nt := 0)
                have oN := newA_obj (a := roomA a ((L + 7) / 8 + 1)) (kd := 3) (ln := L) (nk := 0) (nv := 0) (nt := 0)
                obtain ⟨x1, x2, x3⟩ := newA_tx (kd := 3) (ln := L) s1 (by rw [rm1]; exact s5)
                obtain ⟨y1, y2, y3⟩ := newA_tx (kd := 3) (ln := L) w1 (by rw [rm1]; exact w5)
                obtain ⟨d1, m2, q2, f7, R2, th2, p3⟩ := RM_txt (ln := L) (x := 0) R1 A1 (by omega) (by rw [rm2]; exact h)
                have hx3 := x3.trans s4
                have hy3 := y3.trans w4
                obtain ⟨z4, z5, m6, b2, k1, k2, k3, C6, R6, A6, lm6, tn6, nb6, ns6, pm6, th6⟩ := jn_core (i := i) (L := L) C R2 A2 (fun F => wrt_0) x1 y1 (by rw [rm1]; omega) (by rw [rm1]; omega) oN nn.2.1 nn.2.2.1 (by rw [hx3, hy3]; exact hLe) (by omega) hi
                rw [rm1] at f7 k1 k2 k3
                rw [hx3, ho1 n1 s5, ho1 n2 w5] at k1
                have hpC := HPp C
                rw [show (newA (roomA a ((L + 7) / 8 + 1)) 3 L 0 0 0).lm = a.lm from rm2] at hpC
                refine ⟨c1 + 0 + 0 + 0, d1 + 0, Lo.wot (Lo.sh z z5) (vp_updL z.aot ((0 : Int32).toNatClampNeg) (Int32.ofNat (a.md + 1)).toInt64), m6, 0, Int32.ofNat (a.md + 1), ?_, ?_, th6.trans th2, fun _ => rfl, ⟨g1', o1, q2, b2, C6, R6, A6, lm6.trans (rm2.trans h1), ?_⟩, ?_⟩
                · unfold la_join
                  rw [hc0, hX, PB.2.2.2.2.2.2.2.2.2.2, k1, PB.2.2.2.2.2.2.2.1, PB.2.2.2.2.2.2.2.2.2.2, k2, PB.2.2.2.2.1, PB.2.2.2.2.2.2.2.1, PH2.2.2.2.2.2, inb01, gdT]
                  rfl
                · rw [hm2, PB.2.2.2.2.1, if_neg ne10]
                  unfold md_join_j158
                  rw [if_neg ne10, f7, PB.2.2.2.2.2.2.2.2.1, k3]
                  rfl
                · rw [tn6]
                  show (roomA a ((L + 7) / 8 + 1)).tn + 1 ≤ t + 1
                  rw [rm3]; omega
                · have p2 : PM m1 = PM m := p2
                  show c1 + 0 + 0 + 0 + (d1 + 0) + (PH lm z.h.nst + PW lm z.h.nbt + PM m) ≤ PH lm z5.nst + PW lm z5.nbt + PM m6
                  rw [nb6, ns6, pm6, ← h1]
                  rw [q1h, hpC] at p1
                  omega
              · rw [if_neg h] at C hX hm2
                refine ⟨c1 + 0, 0, Lo.sh z z1, Ms.sthr m1 3, 3, 0, ?_, ?_, rfl, fun h => absurd h (by decide), ⟨g1', o1, q1, roomA a ((L + 7) / 8 + 1), C, R1, A1, rm2.trans h1, by rw [rm3]; omega⟩, ?_⟩
                · unfold la_join
                  rw [hc0, hX, PB.2.2.2.2.2.2.2.2.2.1, PB.2.2.2.2.2.2.2.2.2.1, PH2.2.2.2.2.1, if_neg (by decide), if_neg (by decide), if_pos rfl]
                  rfl
                · rw [hm2, PB.2.2.2.2.1, if_pos rfl]
                  unfold md_join_j158
                  rw [if_pos rfl]
                · have q2 := HPp C
                  rw [rm2] at q2
                  rw [q1h, q2] at p1
                  have p2 : PM m1 = PM m := p2
                  show c1 + 0 + 0 + (PH lm z.h.nst + PW lm z.h.nbt + PM m) ≤ PH lm z1.nst + PW lm z1.nbt + PM m1
                  rw [← h1]
                  omega
            · have hL' : ¬ (Int32.ofNat (tl a n1 + tl a n2) ≤ 32768) := fun d => hL ((q_le (b := 32768) (by omega) (by omega)).mp d)
              rw [if_neg hL'] at hX hm1
              exact bad2 (hc0.trans hX) hm1
          · rw [if_neg hkl, PB.2.2.1] at hX
            rw [if_neg hkl, if_pos rfl] at hm0
            exact bad2 (hc0.trans hX) hm0
        · rw [if_neg hkj, PB.2.2.1] at hX
          rw [if_neg hkj, if_pos rfl] at hm0
          exact bad2 (hc0.trans hX) hm0
      · refine bad ?_ ?_
        · unfold wh_join
          rw [nreg_y hi, PB.2.2.2.1, nreg_y hj, PB.2.2.2.1, nreg_n hu, PB.2.2.1]
        · unfold md_join md_join_j22 md_join_j27
          rw [mreg_y hi, PB.2.1, if_neg ne10, mreg_y hj, PB.2.1, if_neg ne10, mreg_n hu, PB.2.1, if_pos rfl, if_neg l10]
    · refine bad ?_ ?_
      · unfold wh_join
        rw [nreg_y hi, PB.2.2.2.1, nreg_n hs, PB.2.2.1]
      · unfold md_join md_join_j22 md_join_j27
        rw [mreg_y hi, PB.2.1, if_neg ne10, mreg_n hs, PB.2.1, if_pos rfl, if_neg l10]
  · refine bad ?_ ?_
    · unfold wh_join
      rw [nreg_n hr, PB.2.2.1]
    · unfold md_join md_join_j22 md_join_j27
      rw [mreg_n hr, PB.2.1, if_pos rfl, if_neg l10]
