/-! byteAt and compare on both sides. -/
theorem rng_l {i : Int32} {n : Nat} (hn : n ≤ 32768) : (0 ≤ i ∧ i ≤ Int32.ofNat n - 1) ↔ (0 ≤ i ∧ i < Int32.ofNat n) := by
  constructor
  · intro ⟨h1, h2⟩
    refine ⟨h1, ?_⟩
    by_cases h0 : n = 0
    · subst h0
      exact absurd (Int32.le_trans h1 h2) (by decide)
    · have e : Int32.ofNat n - 1 = Int32.ofNat (n - 1) := q_sub (b := 1) (by omega)
      rw [e] at h2
      obtain ⟨x, hx, rfl⟩ := rng_c (n - 1) (by omega) ⟨h1, h2⟩
      exact (q_lt (by omega) (by omega)).mpr (by omega)
  · intro ⟨h1, h2⟩
    refine ⟨h1, ?_⟩
    have h3 := i.toNatClampNeg_lt
    rw [← Int32.ofNat_toNatClampNeg i h1] at h2 ⊢
    have h4 := (q_lt (by omega) (by omega)).mp h2
    have e : Int32.ofNat n - 1 = Int32.ofNat (n - 1) := q_sub (b := 1) (by omega)
    rw [e]
    exact (q_le (by omega) (by omega)).mpr (by omega)
theorem ltn_c {i : Int32} {n : Nat} (hn : n ≤ 32768) (h : 0 ≤ i ∧ i < Int32.ofNat n) : ∃ x, x < n ∧ i = Int32.ofNat x := by
  refine ⟨i.toNatClampNeg, ?_, (Int32.ofNat_toNatClampNeg i h.1).symm⟩
  have h1 := i.toNatClampNeg_lt
  have h2 := h.2
  rw [← Int32.ofNat_toNatClampNeg i h.1] at h2
  exact (q_lt (by omega) (by omega)).mp h2
theorem needByte_e {z : Hs} {g : Gh} {o : Go} {a : Ab} {n : Nat} {i : Int32} (c : RC z g o a) (A : AI a) (h : txn a n) : wh_needByte z (Int32.ofNat (o.ho n)) i = if 0 ≤ i ∧ i < Int32.ofNat (tl a n) then some (.inr ()) else some (.inl "java/lang/IndexOutOfBoundsException") := by
  obtain ⟨v, l, ws⟩ := c.txh h
  unfold wh_needByte
  by_cases h0 : i < 0
  · rw [if_pos h0, if_neg (fun d => absurd (Int32.lt_of_lt_of_le h0 d.1) Int32.lt_irrefl)]
  · rw [if_neg h0, c.i.length v, PB.2.1, l]
    by_cases h1 : i < Int32.ofNat (tl a n)
    · rw [if_pos h1, if_pos ⟨Int32.not_lt.mp h0, h1⟩]
    · rw [if_neg h1, if_neg (fun d => h1 d.2)]
theorem J_byteAt {z : Lo} {m : Ms} {lm t : Nat} (s i : Int32) (S : St z.h m lm t) : ∃ z2 m2 k b, la_byteAt z s i = some (z2, k) ∧ md_byteAt m s i = some (m2, b) ∧ m2.thr = k ∧ (k = 0 → z2.aot 0 = b.toInt64) ∧ St z2.h m2 lm t ∧ Pot lm z2.h m2 = Pot lm z.h m := by
  obtain ⟨g, o, q, a, c, R, A, h1, h2⟩ := S
  have l00 : (0 : Int32) ≤ 0 := by decide
  have l10 : ¬ ((1 : Int32) ≤ 0) := by decide
  have l20 : ¬ ((2 : Int32) ≤ 0) := by decide
  have l30 : ¬ ((3 : Int32) ≤ 0) := by decide
  rcases reg_c s with ⟨j, hj, rfl⟩ | hs
  · have ok := A.rg j hj
    obtain ⟨X, hX⟩ : ∃ X, X = wh_byteAt z.h (Int32.ofNat j) i := ⟨_, rfl⟩
    have hc0 := hX.symm
    unfold wh_byteAt at hX
    rw [nreg_y hj, PB.2.2.2.1, textIn_e c A hj] at hX
    have hm0 : md_byteAt m (Int32.ofNat j) i = md_byteAt_j13 (Int32.ofNat j) i 0 m := by
      unfold md_byteAt
      rw [mreg_y hj, PB.2.1, if_neg ne10]
    unfold md_byteAt_j13 at hm0
    rw [if_pos l00, md_isText_e (m := Ms.sthr m 0) R A hj, PB.2.1] at hm0
    by_cases hk : kW a (a.rg j) = 3 ∨ kW a (a.rg j) = 1
    · obtain ⟨n, e, tx⟩ := kW_tx A ok hk
      have tle := tl_le A tx
      have hh : hW o (a.rg j) = o.ho n := by rw [e]; rfl
      have v1 : m.atg j = tgW (.inr (n, 0)) := by rw [(R.rg j hj).1, e]
      rw [if_pos hk, PB.2.2.2.1, hh, needByte_e c A tx] at hX
      rw [if_pos hk, if_neg ne10] at hm0
      have hm1 : md_byteAt m (Int32.ofNat j) i = if (if 0 ≤ i ∧ i < Int32.ofNat (tl a n) then (0 : Int32) else 1) = 0 then md_byteAt_j63 (Int32.ofNat j) i 0 (Ms.sthr m 0) else md_byteAt_j63 (Int32.ofNat j) i 3 (Ms.sthr m 0) := by
        rw [hm0]
        show gd (inb (Int32.ofNat j) m.ntg) (b0 (md_bytesOf (Ms.sthr m 0) (m.atg (Int32.ofNat j).toNatClampNeg)) _) = _
        rw [R.z.tg, q_inb hj (by omega), gdT, q_nat (by omega), v1, md_bytesOf_e (m := Ms.sthr m 0) R A tx, PB.2.1]
        by_cases hb : 0 ≤ i ∧ i < Int32.ofNat (tl a n)
        · rw [outs_y ((rng_l tle).mpr hb), PB.2.1, if_pos hb]
        · rw [outs_n (fun d => hb ((rng_l tle).mp d)), PB.2.1, if_neg hb]
      by_cases hb : 0 ≤ i ∧ i < Int32.ofNat (tl a n)
      · rw [if_pos hb, PB.2.2.2.1] at hX
        rw [if_pos hb, if_pos rfl] at hm1
        obtain ⟨x, hx, rfl⟩ := ltn_c tle hb
        rw [byteOf_e c A tx hx, PB.2.1] at hX
        refine ⟨Lo.wot z (vp_updL z.aot ((0 : Int32).toNatClampNeg) (Int32.ofNat (tb a n x)).toInt64), Ms.sthr (Ms.sthr m 0) 0, 0, Int32.ofNat (tb a n x), ?_, ?_, rfl, fun _ => rfl, ⟨g, o, q, a, c, R, A, h1, h2⟩, rfl⟩
        · unfold la_byteAt
          rw [hc0, hX, PH2.2.1, inb01, gdT]
        · rw [hm1]
          unfold md_byteAt_j63
          rw [if_pos l00]
          show gd (inb (Int32.ofNat j) m.ntg) (b0 (md_byteOf (Ms.sthr (Ms.sthr m 0) 0) (m.atg (Int32.ofNat j).toNatClampNeg) (Int32.ofNat x)) _) = _
          rw [R.z.tg, q_inb hj (by omega), gdT, q_nat (by omega), v1, md_byteOf_e (m := Ms.sthr (Ms.sthr m 0) 0) R A tx hx, PB.2.1]
      · rw [if_neg hb, PB.2.2.1] at hX
        rw [if_neg hb, if_neg ne10] at hm1
        refine ⟨z, Ms.sthr (Ms.sthr m 0) 3, 3, 0, ?_, ?_, rfl, fun h => absurd h (by decide), ⟨g, o, q, a, c, R, A, h1, h2⟩, rfl⟩
        · unfold la_byteAt
          rw [hc0, hX, PH2.1, if_neg (by decide), if_neg (by decide), if_pos rfl]
        · rw [hm1]
          unfold md_byteAt_j63
          rw [if_neg l30]
    · rw [if_neg hk, PB.2.2.1] at hX
      rw [if_neg hk, if_pos rfl] at hm0
      refine ⟨z, Ms.sthr (Ms.sthr m 0) 2, 2, 0, ?_, ?_, rfl, fun h => absurd h (by decide), ⟨g, o, q, a, c, R, A, h1, h2⟩, rfl⟩
      · unfold la_byteAt
        rw [hc0, hX, PH2.1, if_neg (by decide), if_pos rfl]
      · rw [hm0]
        unfold md_byteAt_j63
        rw [if_neg l20]
  · refine ⟨z, Ms.sthr m 1, 1, 0, ?_, ?_, rfl, fun h => absurd h (by decide), ⟨g, o, q, a, c, R, A, h1, h2⟩, rfl⟩
    · unfold la_byteAt wh_byteAt
      rw [nreg_n hs, PB.2.2.1, PH2.1, if_pos rfl]
    · unfold md_byteAt md_byteAt_j13
      rw [mreg_n hs, PB.2.1, if_pos rfl, if_neg l10]
/-- the order of two texts -/
def OrdR (f g : Nat → Nat) (n m : Nat) (x : Int32) : Prop :=
  (∃ d, d < n ∧ d < m ∧ (∀ i, i < d → f i = g i) ∧ f d ≠ g d ∧ x = if f d < g d then -1 else 1) ∨
  ((∀ i, i < n → i < m → f i = g i) ∧ x = if n < m then -1 else if n = m then 0 else 1)
theorem OrdR_u {f g : Nat → Nat} {n m : Nat} {x y : Int32} (h1 : OrdR f g n m x) (h2 : OrdR f g n m y) : x = y := by
  rcases h1 with ⟨d, d1, d2, d3, d4, d5⟩ | ⟨d1, d2⟩
  · rcases h2 with ⟨e, e1, e2, e3, e4, e5⟩ | ⟨e1, e2⟩
    · have : d = e := by
        by_cases h : d < e
        · exact absurd (e3 d h) d4
        · by_cases h' : e < d
          · exact absurd (d3 e h') e4
          · omega
      subst this
      rw [d5, e5]
    · exact absurd (e1 d d1 d2) d4
  · rcases h2 with ⟨e, e1, e2, e3, e4, e5⟩ | ⟨e1, e2⟩
    · exact absurd (d1 e e1 e2) e4
    · rw [d2, e2]
theorem md_order_r {m : Ms} {q : Gm} {a : Ab} {n1 n2 : Nat} (R : RM m q a) (A : AI a) (t1 : txn a n1) (t2 : txn a n2) : ∃ x, md_order m (tgW (.inr (n1, 0))) (tgW (.inr (n2, 0))) = some x ∧ OrdR (tb a n1) (tb a n2) (tl a n1) (tl a n2) x := by
  have l1 := tl_le A t1
  have l2 := tl_le A t2
  have j62 : md_order_j62 (tgW (.inr (n1, 0))) (tgW (.inr (n2, 0))) m = some (if tl a n1 < tl a n2 then -1 else if tl a n1 = tl a n2 then 0 else 1) := by
    unfold md_order_j62
    rw [md_bytesOf_e R A t1, PB.2.1, md_bytesOf_e R A t2, PB.2.1, PB.2.1, PB.2.1]
    by_cases h : tl a n1 < tl a n2
    · rw [if_neg (fun c => absurd ((q_le (by omega) (by omega)).mp c) (by omega)), if_pos h]
    · rw [if_pos ((q_le (by omega) (by omega)).mpr (by omega)), if_neg h]
      by_cases h3 : tl a n1 = tl a n2
      · rw [if_pos ((q_le (by omega) (by omega)).mpr (by omega)), if_pos h3]
      · rw [if_neg (fun c => absurd ((q_le (by omega) (by omega)).mp c) (by omega)), if_neg h3]
  have loop : ∀ k i fu, i + k = tl a n1 + 1 → k < fu → (∀ j, j < i → tb a n1 j = tb a n2 j) → i ≤ tl a n1 → ∃ x, md_order_l2 fu (tgW (.inr (n1, 0))) (tgW (.inr (n2, 0))) (Int32.ofNat i) m = some x ∧ OrdR (tb a n1) (tb a n2) (tl a n1) (tl a n2) x := by
    intro k
    induction k with
    | zero => intro i fu hi hfu hj hle; omega
    | succ k ih =>
      intro i fu hi hfu hj hle
      obtain ⟨f, rfl⟩ : ∃ f, fu = f + 1 := ⟨fu - 1, by omega⟩
      rw [md_order_l2, md_bytesOf_e R A t1, PB.2.1]
      by_cases h1 : tl a n1 ≤ i
      · rw [if_pos ((q_le (by omega) (by omega)).mpr h1), j62]
        exact ⟨_, rfl, Or.inr ⟨fun j g1 g2 => hj j (by omega), rfl⟩⟩
      · rw [if_neg (fun c => h1 ((q_le (by omega) (by omega)).mp c)), md_bytesOf_e R A t2, PB.2.1]
        by_cases h2 : tl a n2 ≤ i
        · rw [if_pos ((q_le (by omega) (by omega)).mpr h2), j62]
          exact ⟨_, rfl, Or.inr ⟨fun j g1 g2 => hj j (by omega), rfl⟩⟩
        · have b1 := tb_lt (i := i) A t1
          have b2 := tb_lt (i := i) A t2
          rw [if_neg (fun c => h2 ((q_le (by omega) (by omega)).mp c)), md_byteOf_e R A t1 (by omega), PB.2.1, md_byteOf_e R A t2 (by omega), PB.2.1, PB.2.1, PB.2.1]
          by_cases h3 : tb a n1 i = tb a n2 i
          · rw [if_pos (by rw [h3])]
            have e1 : Int32.ofNat i + 1 = Int32.ofNat (i + 1) := q_add i 1
            rw [e1]
            refine ih (i + 1) f (by omega) (by omega) ?_ (by omega)
            intro j hj2
            by_cases hji : j = i
            · rw [hji]; exact h3
            · exact hj j (by omega)
          · rw [if_neg (q_nek _ (by omega) (by omega) h3)]
            by_cases h4 : tb a n1 i < tb a n2 i
            · rw [if_neg (fun c => absurd ((q_le (by omega) (by omega)).mp c) (by omega))]
              exact ⟨_, rfl, Or.inl ⟨i, by omega, by omega, hj, h3, by rw [if_pos h4]⟩⟩
            · rw [if_pos ((q_le (by omega) (by omega)).mpr (by omega))]
              exact ⟨_, rfl, Or.inl ⟨i, by omega, by omega, hj, h3, by rw [if_neg h4]⟩⟩
  unfold md_order
  exact loop (tl a n1 + 1) 0 FU (by omega) (by unfold FU; omega) (fun j hj => by omega) (by omega)
theorem xor63 {x : Nat} (hx : x < 18446744073709551616) : x ^^^ 9223372036854775808 = if x < 9223372036854775808 then x + 9223372036854775808 else x - 9223372036854775808 := by
  have e63 : (9223372036854775808 : Nat) = 2 ^ 63 := by decide
  apply Nat.eq_of_testBit_eq
  intro i
  rw [Nat.testBit_xor]
  have hb : (9223372036854775808 : Nat).testBit i = decide (63 = i) := by rw [e63]; exact Nat.testBit_two_pow
  rw [hb]
  by_cases h : x < 9223372036854775808
  · rw [if_pos h]
    have hx2 : x < 2 ^ 63 := by rw [← e63]; exact h
    have := Nat.testBit_two_pow_mul_add 1 hx2 i
    rw [Nat.mul_one, ← e63, Nat.add_comm] at this
    rw [this]
    by_cases h1 : i < 63
    · rw [if_pos h1, show decide (63 = i) = false from decide_eq_false (by omega), Bool.xor_false]
    · rw [if_neg h1]
      have xf : x.testBit i = false := Nat.testBit_lt_two_pow (Nat.lt_of_lt_of_le hx2 (Nat.pow_le_pow_right (by omega) (by omega)))
      rw [xf]
      by_cases h2 : i = 63
      · subst h2; decide
      · obtain ⟨k, hk⟩ : ∃ k, i - 63 = k + 1 := ⟨i - 64, by omega⟩
        rw [hk]
        have : (1 : Nat).testBit (k + 1) = false := Nat.testBit_lt_two_pow (by have : 1 ≤ 2 ^ k := Nat.one_le_two_pow; rw [Nat.pow_succ]; omega)
        rw [this, show decide (63 = i) = false from decide_eq_false (by omega), Bool.xor_false]
  · rw [if_neg h]
    obtain ⟨r, rfl⟩ : ∃ r, x = 9223372036854775808 + r := ⟨x - 9223372036854775808, by omega⟩
    have hr : r < 2 ^ 63 := by rw [← e63]; omega
    have := Nat.testBit_two_pow_mul_add 1 hr i
    rw [Nat.mul_one, ← e63] at this
    rw [this, show 9223372036854775808 + r - 9223372036854775808 = r from by omega]
    by_cases h1 : i < 63
    · rw [if_pos h1, show decide (63 = i) = false from decide_eq_false (by omega), Bool.xor_false]
    · rw [if_neg h1]
      have xf : r.testBit i = false := Nat.testBit_lt_two_pow (Nat.lt_of_lt_of_le hr (Nat.pow_le_pow_right (by omega) (by omega)))
      rw [xf]
      by_cases h2 : i = 63
      · subst h2; decide
      · obtain ⟨k, hk⟩ : ∃ k, i - 63 = k + 1 := ⟨i - 64, by omega⟩
        rw [hk]
        have : (1 : Nat).testBit (k + 1) = false := Nat.testBit_lt_two_pow (by have : 1 ≤ 2 ^ k := Nat.one_le_two_pow; rw [Nat.pow_succ]; omega)
        rw [this, show decide (63 = i) = false from decide_eq_false (by omega), Bool.xor_false]
theorem sgn_i {x : Nat} (hx : x < 18446744073709551616) : (Int64.ofNat x ^^^ (-9223372036854775808)).toInt = (x : Int) - 9223372036854775808 := by
  have e : (-9223372036854775808 : Int64) = Int64.ofNat 9223372036854775808 := by decide
  rw [e, l_xor, xor63 hx, Int64.toInt_ofNat']
  show Int.bmod _ 18446744073709551616 = _
  by_cases h : x < 9223372036854775808
  · rw [if_pos h]
    unfold Int.bmod
    dsimp only
    split <;> omega
  · rw [if_neg h]
    unfold Int.bmod
    dsimp only
    split <;> omega
theorem sgn_lt {x y : Nat} (hx : x < 18446744073709551616) (hy : y < 18446744073709551616) : (Int64.ofNat x ^^^ (-9223372036854775808) < Int64.ofNat y ^^^ (-9223372036854775808)) ↔ x < y := by
  rw [Int64.lt_iff_toInt_lt, sgn_i hx, sgn_i hy]
  omega
theorem jl_e {z : Hs} {x y : Nat} (hx : x < 18446744073709551616) (hy : y < 18446744073709551616) : jl_compare z (Int64.ofNat x ^^^ (-9223372036854775808)) (Int64.ofNat y ^^^ (-9223372036854775808)) = some (if x < y then -1 else if x = y then 0 else 1) := by
  unfold jl_compare
  by_cases h : x < y
  · rw [if_neg (fun c => absurd (Int64.lt_of_lt_of_le ((sgn_lt hx hy).mpr h) (lg_ge.mp c)) Int64.lt_irrefl), if_pos h]
  · have hle : Int64.ofNat y ^^^ (-9223372036854775808) ≤ Int64.ofNat x ^^^ (-9223372036854775808) := Int64.not_lt.mp (fun c => h ((sgn_lt hx hy).mp c))
    rw [if_pos (lg_ge.mpr hle), if_neg h]
    by_cases h2 : x = y
    · rw [if_pos h2, if_pos (by rw [h2, lg_cmp0])]
    · rw [if_neg h2, if_neg]
      intro c
      rw [lg_cmp0] at c
      have hlt : y < x := by omega
      have := (sgn_lt hy hx).mpr hlt
      rw [c] at this
      exact absurd this Int64.lt_irrefl
theorem ji_e {z : Hs} {x y : Nat} (hx : x < 2147483648) (hy : y < 2147483648) : ji_compare z (Int32.ofNat x) (Int32.ofNat y) = some (if x < y then -1 else if x = y then 0 else 1) := by
  unfold ji_compare
  by_cases h : x < y
  · rw [if_neg (fun c => absurd ((q_le (by omega) (by omega)).mp c) (by omega)), if_pos h]
  · rw [if_pos ((q_le (by omega) (by omega)).mpr (by omega)), if_neg h]
    by_cases h2 : x = y
    · rw [if_pos h2, if_pos (by rw [h2])]
    · rw [if_neg h2, if_neg (q_nek _ (by omega) (by omega) h2)]
/-- two words: equal bytes, or a first difference that decides -/
theorem pk_cmp {f g : Nat → Nat} (hf : ∀ i, f i < 256) (hg : ∀ i, g i < 256) (w : Nat) : (pk f w = pk g w ∧ ∀ j, j < 8 → f (8 * w + j) = g (8 * w + j)) ∨ ∃ j, j < 8 ∧ (∀ i, i < j → f (8 * w + i) = g (8 * w + i)) ∧ f (8 * w + j) ≠ g (8 * w + j) ∧ (pk f w < pk g w ↔ f (8 * w + j) < g (8 * w + j)) ∧ pk f w ≠ pk g w := by
  have f0 := hf (8 * w)
  have f1 := hf (8 * w + 1)
  have f2 := hf (8 * w + 2)
  have f3 := hf (8 * w + 3)
  have f4 := hf (8 * w + 4)
  have f5 := hf (8 * w + 5)
  have f6 := hf (8 * w + 6)
  have f7 := hf (8 * w + 7)
  have g0 := hg (8 * w)
  have g1 := hg (8 * w + 1)
  have g2 := hg (8 * w + 2)
  have g3 := hg (8 * w + 3)
  have g4 := hg (8 * w + 4)
  have g5 := hg (8 * w + 5)
  have g6 := hg (8 * w + 6)
  have g7 := hg (8 * w + 7)
  have c8 : ∀ P : Nat → Prop, P 0 → P 1 → P 2 → P 3 → P 4 → P 5 → P 6 → P 7 → ∀ j, j < 8 → P j := by
    intro P p0 p1 p2 p3 p4 p5 p6 p7 j hj
    have hj8 : j = 0 ∨ j = 1 ∨ j = 2 ∨ j = 3 ∨ j = 4 ∨ j = 5 ∨ j = 6 ∨ j = 7 := by omega
    rcases hj8 with rfl | rfl | rfl | rfl | rfl | rfl | rfl | rfl <;> assumption
  by_cases d0 : f (8 * w) = g (8 * w)
  · by_cases d1 : f (8 * w + 1) = g (8 * w + 1)
    · by_cases d2 : f (8 * w + 2) = g (8 * w + 2)
      · by_cases d3 : f (8 * w + 3) = g (8 * w + 3)
        · by_cases d4 : f (8 * w + 4) = g (8 * w + 4)
          · by_cases d5 : f (8 * w + 5) = g (8 * w + 5)
            · by_cases d6 : f (8 * w + 6) = g (8 * w + 6)
              · by_cases d7 : f (8 * w + 7) = g (8 * w + 7)
                · exact Or.inl ⟨by unfold pk; omega, c8 (fun j => f (8 * w + j) = g (8 * w + j)) d0 d1 d2 d3 d4 d5 d6 d7⟩
                · exact Or.inr ⟨7, by omega, fun i hi => c8 (fun j => j < 7 → f (8 * w + j) = g (8 * w + j)) (fun _ => d0) (fun _ => d1) (fun _ => d2) (fun _ => d3) (fun _ => d4) (fun _ => d5) (fun _ => d6) (fun c => by omega) i (by omega) hi, d7, by unfold pk; omega, by unfold pk; omega⟩
              · exact Or.inr ⟨6, by omega, fun i hi => c8 (fun j => j < 6 → f (8 * w + j) = g (8 * w + j)) (fun _ => d0) (fun _ => d1) (fun _ => d2) (fun _ => d3) (fun _ => d4) (fun _ => d5) (fun c => by omega) (fun c => by omega) i (by omega) hi, d6, by unfold pk; omega, by unfold pk; omega⟩
            · exact Or.inr ⟨5, by omega, fun i hi => c8 (fun j => j < 5 → f (8 * w + j) = g (8 * w + j)) (fun _ => d0) (fun _ => d1) (fun _ => d2) (fun _ => d3) (fun _ => d4) (fun c => by omega) (fun c => by omega) (fun c => by omega) i (by omega) hi, d5, by unfold pk; omega, by unfold pk; omega⟩
          · exact Or.inr ⟨4, by omega, fun i hi => c8 (fun j => j < 4 → f (8 * w + j) = g (8 * w + j)) (fun _ => d0) (fun _ => d1) (fun _ => d2) (fun _ => d3) (fun c => by omega) (fun c => by omega) (fun c => by omega) (fun c => by omega) i (by omega) hi, d4, by unfold pk; omega, by unfold pk; omega⟩
        · exact Or.inr ⟨3, by omega, fun i hi => c8 (fun j => j < 3 → f (8 * w + j) = g (8 * w + j)) (fun _ => d0) (fun _ => d1) (fun _ => d2) (fun c => by omega) (fun c => by omega) (fun c => by omega) (fun c => by omega) (fun c => by omega) i (by omega) hi, d3, by unfold pk; omega, by unfold pk; omega⟩
      · exact Or.inr ⟨2, by omega, fun i hi => c8 (fun j => j < 2 → f (8 * w + j) = g (8 * w + j)) (fun _ => d0) (fun _ => d1) (fun c => by omega) (fun c => by omega) (fun c => by omega) (fun c => by omega) (fun c => by omega) (fun c => by omega) i (by omega) hi, d2, by unfold pk; omega, by unfold pk; omega⟩
    · exact Or.inr ⟨1, by omega, fun i hi => c8 (fun j => j < 1 → f (8 * w + j) = g (8 * w + j)) (fun _ => d0) (fun c => by omega) (fun c => by omega) (fun c => by omega) (fun c => by omega) (fun c => by omega) (fun c => by omega) (fun c => by omega) i (by omega) hi, d1, by unfold pk; omega, by unfold pk; omega⟩
  · exact Or.inr ⟨0, by omega, fun i hi => by omega, d0, by show _ ↔ f (8 * w) < g (8 * w); unfold pk; omega, by unfold pk; omega⟩
