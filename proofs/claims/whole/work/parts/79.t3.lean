/-! compare, setByte on both sides; texts alike. -/
theorem tx_order_r {z : Hs} {g : Gh} {o : Go} {a : Ab} {n1 n2 : Nat} (c : RC z g o a) (A : AI a) (t1 : txn a n1) (t2 : txn a n2) : ∃ x, tx_order z (Int32.ofNat (o.ho n1)) (Int32.ofNat (o.ho n2)) = some x ∧ OrdR (tb a n1) (tb a n2) (tl a n1) (tl a n2) x := by
  have l1 := tl_le A t1
  have l2 := tl_le A t2
  obtain ⟨v1, e1, _⟩ := c.txh t1
  obtain ⟨v2, e2, _⟩ := c.txh t2
  have b1 : ∀ i, tb a n1 i < 256 := fun i => tb_lt A t1
  have b2 : ∀ i, tb a n2 i < 256 := fun i => tb_lt A t2
  obtain ⟨M, hM⟩ : ∃ M, M = min (tl a n1) (tl a n2) := ⟨_, rfl⟩
  have hmin : (if Int32.ofNat (tl a n2) < Int32.ofNat (tl a n1) then Int32.ofNat (tl a n2) else Int32.ofNat (tl a n1)) = Int32.ofNat M := by
    by_cases h : tl a n2 < tl a n1
    · rw [if_pos ((q_lt (by omega) (by omega)).mpr h)]
      congr 1; omega
    · rw [if_neg (fun d => h ((q_lt (by omega) (by omega)).mp d))]
      congr 1; omega
  have loop : ∀ k w fu, w + k = (M + 7) / 8 → k < fu → (∀ j, j < 8 * w → tb a n1 j = tb a n2 j) → ∃ x, tx_order_l26 fu (Int32.ofNat (o.ho n1)) (Int32.ofNat (o.ho n2)) (Int32.ofNat ((M + 7) / 8)) (Int32.ofNat w) z = some x ∧ OrdR (tb a n1) (tb a n2) (tl a n1) (tl a n2) x := by
    intro k
    induction k with
    | zero =>
      intro w fu hw hfu hj
      obtain ⟨f, rfl⟩ : ∃ f, fu = f + 1 := ⟨fu - 1, by omega⟩
      rw [tx_order_l26, if_pos ((q_le (by omega) (by omega)).mpr (by omega)), c.i.length v1, PB.2.1, c.i.length v2, PB.2.1, e1, e2, ji_e (by omega) (by omega), PB.2.1]
      exact ⟨_, rfl, Or.inr ⟨fun j g1 g2 => hj j (by omega), rfl⟩⟩
    | succ k ih =>
      intro w fu hw hfu hj
      obtain ⟨f, rfl⟩ : ∃ f, fu = f + 1 := ⟨fu - 1, by omega⟩
      rw [tx_order_l26, if_neg (fun d => absurd ((q_le (by omega) (by omega)).mp d) (by omega)), wordOf_e c A t1 (by omega), PB.2.1, wordOf_e c A t2 (by omega), PB.2.1, jl_e (pk_lt64 b1 w) (pk_lt64 b2 w), PB.2.1]
      rcases pk_cmp b1 b2 w with ⟨p1, p2⟩ | ⟨j, hj8, p1, p2, p3, p4⟩
      · rw [p1, if_neg (Nat.lt_irrefl _), if_pos rfl, if_pos rfl]
        have e4 : Int32.ofNat w + 1 = Int32.ofNat (w + 1) := q_add w 1
        rw [e4]
        refine ih (w + 1) f (by omega) (by omega) ?_
        intro i hi
        by_cases hiw : i < 8 * w
        · exact hj i hiw
        · have := p2 (i - 8 * w) (by omega)
          rw [show 8 * w + (i - 8 * w) = i from by omega] at this
          exact this
      · have hall : ∀ i, i < 8 * w + j → tb a n1 i = tb a n2 i := by
          intro i hi
          by_cases hiw : i < 8 * w
          · exact hj i hiw
          · have := p1 (i - 8 * w) (by omega)
            rw [show 8 * w + (i - 8 * w) = i from by omega] at this
            exact this
        -- the answer: -1 or 1
        have hx : OrdR (tb a n1) (tb a n2) (tl a n1) (tl a n2) (if tb a n1 (8 * w + j) < tb a n2 (8 * w + j) then -1 else 1) := by
          by_cases hd : 8 * w + j < tl a n1 ∧ 8 * w + j < tl a n2
          · exact Or.inl ⟨8 * w + j, hd.1, hd.2, hall, p2, rfl⟩
          · refine Or.inr ⟨fun i g1 g2 => hall i (by omega), ?_⟩
            by_cases h1 : tl a n1 ≤ 8 * w + j
            · have z1 := tb_0 A t1 h1
              have h2 : 8 * w + j < tl a n2 := by
                by_cases h2 : 8 * w + j < tl a n2
                · exact h2
                · have z2 := tb_0 (i := 8 * w + j) A t2 (by omega)
                  omega
              rw [if_pos (by omega), if_pos (by omega)]
            · have z2 := tb_0 (i := 8 * w + j) A t2 (by omega)
              rw [if_neg (by omega), if_neg (by omega), if_neg (by omega)]
        by_cases hlt : pk (tb a n1) w < pk (tb a n2) w
        · rw [if_pos hlt, if_neg (by decide), if_neg (by decide)]
          rw [if_pos (p3.mp hlt)] at hx
          exact ⟨_, rfl, hx⟩
        · rw [if_neg hlt, if_neg p4, if_neg ne10, if_pos (by decide)]
          rw [if_neg (fun d => hlt (p3.mpr d))] at hx
          exact ⟨_, rfl, hx⟩
  unfold tx_order
  rw [c.i.length v1, PB.2.1, c.i.length v2, PB.2.1, e1, e2, hmin, PB.2.1, wordsFor_e (by omega), PB.2.1]
  exact loop ((M + 7) / 8) 0 FU (by omega) (by unfold FU; omega) (fun j hj => by omega)
theorem J_compare {z : Lo} {m : Ms} {lm t : Nat} (r s : Int32) (S : St z.h m lm t) : ∃ z2 m2 k b, la_compare z r s = some (z2, k) ∧ md_compare m r s = some (m2, b) ∧ m2.thr = k ∧ (k = 0 → z2.aot 0 = b.toInt64) ∧ St z2.h m2 lm t ∧ Pot lm z2.h m2 = Pot lm z.h m := by
  obtain ⟨g, o, q, a, c, R, A, h1, h2⟩ := S
  have l00 : (0 : Int32) ≤ 0 := by decide
  have l10 : ¬ ((1 : Int32) ≤ 0) := by decide
  have l20 : ¬ ((2 : Int32) ≤ 0) := by decide
  have bad : wh_compare z.h r s = some (.inl "java/lang/IllegalArgumentException") → md_compare m r s = some (Ms.sthr m 1, 0) → ∃ z2 m2 k b, la_compare z r s = some (z2, k) ∧ md_compare m r s = some (m2, b) ∧ m2.thr = k ∧ (k = 0 → z2.aot 0 = b.toInt64) ∧ St z2.h m2 lm t ∧ Pot lm z2.h m2 = Pot lm z.h m := by
    intro x1 x2
    refine ⟨z, Ms.sthr m 1, 1, 0, ?_, x2, rfl, fun h => absurd h (by decide), ⟨g, o, q, a, c, R, A, h1, h2⟩, rfl⟩
    unfold la_compare
    rw [x1, PH2.1, if_pos rfl]
  have bad2 : wh_compare z.h r s = some (.inl "java/lang/UnsupportedOperationException") → md_compare m r s = md_compare_j53 r s (Ms.sthr m 0) → ∃ z2 m2 k b, la_compare z r s = some (z2, k) ∧ md_compare m r s = some (m2, b) ∧ m2.thr = k ∧ (k = 0 → z2.aot 0 = b.toInt64) ∧ St z2.h m2 lm t ∧ Pot lm z2.h m2 = Pot lm z.h m := by
    intro x1 x2
    refine ⟨z, Ms.sthr (Ms.sthr m 0) 2, 2, 0, ?_, ?_, rfl, fun h => absurd h (by decide), ⟨g, o, q, a, c, R, A, h1, h2⟩, rfl⟩
    · unfold la_compare
      rw [x1, PH2.1, if_neg (by decide), if_pos rfl]
    · rw [x2]
      unfold md_compare_j53 md_compare_j54
      rw [if_neg l20]
  rcases reg_c r with ⟨i, hi, rfl⟩ | hr
  · rcases reg_c s with ⟨j, hj, rfl⟩ | hs
    · obtain ⟨X, hX⟩ : ∃ X, X = wh_compare z.h (Int32.ofNat i) (Int32.ofNat j) := ⟨_, rfl⟩
      have hc0 := hX.symm
      unfold wh_compare at hX
      rw [nreg_y hi, PB.2.2.2.1, nreg_y hj, PB.2.2.2.1, textIn_e c A hi, textIn_e c A hj] at hX
      have hm0 : md_compare m (Int32.ofNat i) (Int32.ofNat j) = md_compare_j20 (Int32.ofNat i) (Int32.ofNat j) 0 m := by
        unfold md_compare
        rw [mreg_y hi, PB.2.1, if_neg ne10, mreg_y hj, PB.2.1, if_neg ne10]
      unfold md_compare_j20 at hm0
      rw [if_pos l00, md_isText_e (m := Ms.sthr m 0) R A hi, PB.2.1, md_isText_e (m := Ms.sthr m 0) R A hj] at hm0
      by_cases hki : kW a (a.rg i) = 3 ∨ kW a (a.rg i) = 1
      · rw [if_pos hki, PB.2.2.2.1] at hX
        rw [if_pos hki, if_neg ne10, PB.2.1] at hm0
        by_cases hkj : kW a (a.rg j) = 3 ∨ kW a (a.rg j) = 1
        · rw [if_pos hkj, PB.2.2.2.1] at hX
          rw [if_pos hkj, if_neg ne10] at hm0
          obtain ⟨n1, e1, t1⟩ := kW_tx A (A.rg i hi) hki
          obtain ⟨n2, e2, t2⟩ := kW_tx A (A.rg j hj) hkj
          obtain ⟨x, f1, o1⟩ := tx_order_r c A t1 t2
          obtain ⟨y, f2, o2⟩ := md_order_r (m := Ms.sthr (Ms.sthr m 0) 0) R A t1 t2
          have hxy := OrdR_u o1 o2
          subst hxy
          have hh1 : hW o (a.rg i) = o.ho n1 := by rw [e1]; rfl
          have hh2 : hW o (a.rg j) = o.ho n2 := by rw [e2]; rfl
          rw [hh1, hh2, f1, PB.2.1] at hX
          refine ⟨Lo.wot z (vp_updL z.aot ((0 : Int32).toNatClampNeg) x.toInt64), Ms.sthr (Ms.sthr m 0) 0, 0, x, ?_, ?_, rfl, fun _ => rfl, ⟨g, o, q, a, c, R, A, h1, h2⟩, rfl⟩
          · unfold la_compare
            rw [hc0, hX, PH2.2.1, inb01, gdT]
          · rw [hm0]
            unfold md_compare_j54
            rw [if_pos l00]
            show gd (inb (Int32.ofNat i) m.ntg) (gd (inb (Int32.ofNat j) m.ntg) (b0 (md_order (Ms.sthr (Ms.sthr m 0) 0) (m.atg (Int32.ofNat i).toNatClampNeg) (m.atg (Int32.ofNat j).toNatClampNeg)) _)) = _
            rw [R.z.tg, q_inb hi (by omega), q_inb hj (by omega), q_nat (show i < 2147483648 by omega), q_nat (show j < 2147483648 by omega), (R.rg i hi).1, (R.rg j hj).1, e1, e2, f2, gdT, gdT, PB.2.1]
        · rw [if_neg hkj, PB.2.2.1] at hX
          rw [if_neg hkj, if_pos rfl] at hm0
          exact bad2 (hc0.trans hX) hm0
      · rw [if_neg hki, PB.2.2.1] at hX
        rw [if_neg hki, if_pos rfl] at hm0
        exact bad2 (hc0.trans hX) hm0
    · refine bad ?_ ?_
      · unfold wh_compare
        rw [nreg_y hi, PB.2.2.2.1, nreg_n hs, PB.2.2.1]
      · unfold md_compare md_compare_j15 md_compare_j20
        rw [mreg_y hi, PB.2.1, if_neg ne10, mreg_n hs, PB.2.1, if_pos rfl, if_neg l10]
  · refine bad ?_ ?_
    · unfold wh_compare
      rw [nreg_n hr, PB.2.2.1]
    · unfold md_compare md_compare_j15 md_compare_j20
      rw [mreg_n hr, PB.2.1, if_pos rfl, if_neg l10]
/-- a byte set among bits -/
theorem setb {hi y lo u k : Nat} (hy : y < 256) (hl : lo < 2 ^ k) (hu : u < 256) (hk : k ≤ 56) (hP : 2 ^ k * (2 ^ 8 * hi + y) + lo < 2 ^ 64) : ((2 ^ k * (2 ^ 8 * hi + y) + lo) &&& (2 ^ 64 - (255 * 2 ^ k + 1))) ||| (u * 2 ^ k) = 2 ^ k * (2 ^ 8 * hi + u) + lo := by
  have e8 : (2 : Nat) ^ 8 = 256 := by decide
  have hm : 255 * 2 ^ k < 2 ^ 64 := by
    have : 2 ^ k ≤ 2 ^ 56 := Nat.pow_le_pow_right (by omega) hk
    have e : (2 : Nat) ^ 64 = 256 * 2 ^ 56 := by decide
    rw [e]
    omega
  apply Nat.eq_of_testBit_eq
  intro t
  rw [Nat.testBit_or, Nat.testBit_and, Nat.testBit_two_pow_mul_add _ hl, Nat.testBit_two_pow_sub_succ hm, Nat.testBit_two_pow_mul_add _ hl, Nat.mul_comm 255, Nat.mul_comm u, Nat.testBit_two_pow_mul, Nat.testBit_two_pow_mul]
  by_cases h1 : t < k
  · rw [if_pos h1, if_pos h1, show decide (t ≥ k) = false from decide_eq_false (by omega), show decide (t < 64) = true from decide_eq_true (by omega)]
    simp
  · rw [if_neg h1, if_neg h1, show decide (t ≥ k) = true from decide_eq_true (by omega)]
    rw [Nat.testBit_two_pow_mul_add hi (show y < 2 ^ 8 by omega), Nat.testBit_two_pow_mul_add hi (show u < 2 ^ 8 by omega)]
    have h255 : (255 : Nat).testBit (t - k) = decide (t - k < 8) := Nat.testBit_two_pow_sub_one 8 (t - k)
    rw [h255]
    by_cases h2 : t - k < 8
    · rw [if_pos h2, if_pos h2, show decide (t - k < 8) = true from decide_eq_true h2]
      simp
    · rw [if_neg h2, if_neg h2, show decide (t - k < 8) = false from decide_eq_false h2]
      have uf : u.testBit (t - k) = false := Nat.testBit_lt_two_pow (Nat.lt_of_lt_of_le (show u < 2 ^ 8 by omega) (Nat.pow_le_pow_right (by omega) (by omega)))
      rw [uf]
      by_cases h3 : t < 64
      · rw [show decide (t < 64) = true from decide_eq_true h3]
        simp
      · rw [show decide (t < 64) = false from decide_eq_false h3]
        have hf : hi.testBit (t - k - 8) = false := by
          refine Nat.testBit_lt_two_pow ?_
          have h4 : 2 ^ k * 2 ^ 8 * hi < 2 ^ 64 := by
            rw [Nat.mul_add, ← Nat.mul_assoc] at hP
            omega
          have h5 : 2 ^ k * 2 ^ 8 * 2 ^ (t - k - 8) = 2 ^ t := by
            rw [← Nat.pow_add, ← Nat.pow_add]
            congr 1; omega
          have h6 : 2 ^ 64 ≤ 2 ^ t := Nat.pow_le_pow_right (by omega) (by omega)
          have h7 : 2 ^ k * 2 ^ 8 * hi < 2 ^ k * 2 ^ 8 * 2 ^ (t - k - 8) := by omega
          exact Nat.lt_of_mul_lt_mul_left h7
        rw [hf]
        simp
theorem xor_m1 {x : Nat} (hx : x < 18446744073709551616) : Int64.ofNat x ^^^ (-1) = Int64.ofNat (2 ^ 64 - (x + 1)) := by
  have e : (-1 : Int64) = Int64.ofNat (2 ^ 64 - 1) := by decide
  rw [e, l_xor]
  congr 1
  apply Nat.eq_of_testBit_eq
  intro t
  have hx2 : x < 2 ^ 64 := hx
  rw [Nat.testBit_xor, Nat.testBit_two_pow_sub_one, Nat.testBit_two_pow_sub_succ hx2]
  by_cases h : t < 64
  · rw [show decide (t < 64) = true from decide_eq_true h]
    simp
  · have xf : x.testBit t = false := Nat.testBit_lt_two_pow (Nat.lt_of_lt_of_le hx2 (Nat.pow_le_pow_right (by omega) (by omega)))
    rw [show decide (t < 64) = false from decide_eq_false h, xf]
    rfl
theorem pk_upd {f : Nat → Nat} (h : ∀ i, f i < 256) (w j u : Nat) (hj : j < 8) (hu : u < 256) : (pk f w &&& (2 ^ 64 - (255 * 2 ^ (56 - 8 * j) + 1))) ||| (u * 2 ^ (56 - 8 * j)) = pk (updN f (8 * w + j) u) w := by
  have h0 := h (8 * w)
  have h1 := h (8 * w + 1)
  have h2 := h (8 * w + 2)
  have h3 := h (8 * w + 3)
  have h4 := h (8 * w + 4)
  have h5 := h (8 * w + 5)
  have h6 := h (8 * w + 6)
  have h7 := h (8 * w + 7)
  have hL := pk_lt64 h w
  -- the word as high part, byte, low part
  have key : ∀ hi y lo k, y < 256 → lo < 2 ^ k → k ≤ 56 → k = 56 - 8 * j → pk f w = 2 ^ k * (2 ^ 8 * hi + y) + lo → pk (updN f (8 * w + j) u) w = 2 ^ k * (2 ^ 8 * hi + u) + lo → (pk f w &&& (2 ^ 64 - (255 * 2 ^ (56 - 8 * j) + 1))) ||| (u * 2 ^ (56 - 8 * j)) = pk (updN f (8 * w + j) u) w := by
    intro hi y lo k g1 g2 g3 g4 g5 g6
    rw [g6, ← g4, g5]
    refine setb g1 g2 hu g3 ?_
    rw [← g5]
    exact hL
  have un : ∀ i, i ≠ j → updN f (8 * w + j) u (8 * w + i) = f (8 * w + i) := fun i hi => updN_o _ _ (by omega)
  have us : updN f (8 * w + j) u (8 * w + j) = u := updN_s _ _ _
  have hj8 : j = 0 ∨ j = 1 ∨ j = 2 ∨ j = 3 ∨ j = 4 ∨ j = 5 ∨ j = 6 ∨ j = 7 := by omega
  rcases hj8 with rfl | rfl | rfl | rfl | rfl | rfl | rfl | rfl
  · refine key 0 (f (8 * w)) (f (8 * w + 1) * 281474976710656 + f (8 * w + 2) * 1099511627776 + f (8 * w + 3) * 4294967296 + f (8 * w + 4) * 16777216 + f (8 * w + 5) * 65536 + f (8 * w + 6) * 256 + f (8 * w + 7)) 56 h0 (by omega) (by omega) (by omega) (by unfold pk; omega) ?_
    unfold pk
    have us : updN f (8 * w + 0) u (8 * w) = u := us
    rw [us, un 1 (by omega), un 2 (by omega), un 3 (by omega), un 4 (by omega), un 5 (by omega), un 6 (by omega), un 7 (by omega)]
    omega
  · refine key (f (8 * w)) (f (8 * w + 1)) (f (8 * w + 2) * 1099511627776 + f (8 * w + 3) * 4294967296 + f (8 * w + 4) * 16777216 + f (8 * w + 5) * 65536 + f (8 * w + 6) * 256 + f (8 * w + 7)) 48 h1 (by omega) (by omega) (by omega) (by unfold pk; omega) ?_
    unfold pk
    rw [us, show updN f (8 * w + 1) u (8 * w) = f (8 * w) from un 0 (by omega), un 2 (by omega), un 3 (by omega), un 4 (by omega), un 5 (by omega), un 6 (by omega), un 7 (by omega)]
    omega
  · refine key (f (8 * w) * 256 + f (8 * w + 1)) (f (8 * w + 2)) (f (8 * w + 3) * 4294967296 + f (8 * w + 4) * 16777216 + f (8 * w + 5) * 65536 + f (8 * w + 6) * 256 + f (8 * w + 7)) 40 h2 (by omega) (by omega) (by omega) (by unfold pk; omega) ?_
    unfold pk
    rw [us, show updN f (8 * w + 2) u (8 * w) = f (8 * w) from un 0 (by omega), un 1 (by omega), un 3 (by omega), un 4 (by omega), un 5 (by omega), un 6 (by omega), un 7 (by omega)]
    omega
  · refine key (f (8 * w) * 65536 + f (8 * w + 1) * 256 + f (8 * w + 2)) (f (8 * w + 3)) (f (8 * w + 4) * 16777216 + f (8 * w + 5) * 65536 + f (8 * w + 6) * 256 + f (8 * w + 7)) 32 h3 (by omega) (by omega) (by omega) (by unfold pk; omega) ?_
    unfold pk
    rw [us, show updN f (8 * w + 3) u (8 * w) = f (8 * w) from un 0 (by omega), un 1 (by omega), un 2 (by omega), un 4 (by omega), un 5 (by omega), un 6 (by omega), un 7 (by omega)]
    omega
  · refine key (f (8 * w) * 16777216 + f (8 * w + 1) * 65536 + f (8 * w + 2) * 256 + f (8 * w + 3)) (f (8 * w + 4)) (f (8 * w + 5) * 65536 + f (8 * w + 6) * 256 + f (8 * w + 7)) 24 h4 (by omega) (by omega) (by omega) (by unfold pk; omega) ?_
    unfold pk
    rw [us, show updN f (8 * w + 4) u (8 * w) = f (8 * w) from un 0 (by omega), un 1 (by omega), un 2 (by omega), un 3 (by omega), un 5 (by omega), un 6 (by omega), un 7 (by omega)]
    omega
  · refine key (f (8 * w) * 4294967296 + f (8 * w + 1) * 16777216 + f (8 * w + 2) * 65536 + f (8 * w + 3) * 256 + f (8 * w + 4)) (f (8 * w + 5)) (f (8 * w + 6) * 256 + f (8 * w + 7)) 16 h5 (by omega) (by omega) (by omega) (by unfold pk; omega) ?_
    unfold pk
    rw [us, show updN f (8 * w + 5) u (8 * w) = f (8 * w) from un 0 (by omega), un 1 (by omega), un 2 (by omega), un 3 (by omega), un 4 (by omega), un 6 (by omega), un 7 (by omega)]
    omega
  · refine key (f (8 * w) * 1099511627776 + f (8 * w + 1) * 4294967296 + f (8 * w + 2) * 16777216 + f (8 * w + 3) * 65536 + f (8 * w + 4) * 256 + f (8 * w + 5)) (f (8 * w + 6)) (f (8 * w + 7)) 8 h6 (by omega) (by omega) (by omega) (by unfold pk; omega) ?_
    unfold pk
    rw [us, show updN f (8 * w + 6) u (8 * w) = f (8 * w) from un 0 (by omega), un 1 (by omega), un 2 (by omega), un 3 (by omega), un 4 (by omega), un 5 (by omega), un 7 (by omega)]
    omega
  · refine key (f (8 * w) * 281474976710656 + f (8 * w + 1) * 1099511627776 + f (8 * w + 2) * 4294967296 + f (8 * w + 3) * 16777216 + f (8 * w + 4) * 65536 + f (8 * w + 5) * 256 + f (8 * w + 6)) (f (8 * w + 7)) 0 0 h7 (by omega) (by omega) (by omega) (by unfold pk; omega) ?_
    unfold pk
    rw [us, show updN f (8 * w + 7) u (8 * w) = f (8 * w) from un 0 (by omega), un 1 (by omega), un 2 (by omega), un 3 (by omega), un 4 (by omega), un 5 (by omega), un 6 (by omega)]
    omega
