/-! Eight bytes from anywhere. -/
theorem l_wrap (a b : Nat) : Int64.ofNat (a + b * 18446744073709551616) = Int64.ofNat a := by
  apply Int64.toBitVec_inj.mp
  apply BitVec.eq_of_toNat_eq
  rw [Int64.toBitVec_ofNat', Int64.toBitVec_ofNat', BitVec.toNat_ofNat, BitVec.toNat_ofNat]
  omega
theorem q_neg {d : Nat} (h0 : 0 < d) (h : d < 2147483648) : -(Int32.ofNat d) = Int32.ofNat (4294967296 - d) := by
  apply Int32.toBitVec_inj.mp
  apply BitVec.eq_of_toNat_eq
  rw [Int32.toBitVec_neg, BitVec.toNat_neg]
  show (2 ^ 32 - d % 2 ^ 32) % 2 ^ 32 = (4294967296 - d) % 2 ^ 32
  omega
theorem q_ti {d : Nat} (h : d < 2147483648) : (-(Int32.ofNat d)).toInt = -(d : Int) := by
  by_cases h0 : d = 0
  · subst h0; decide
  · rw [q_neg (by omega) h, Int32.toInt_ofNat']
    show Int.bmod _ 4294967296 = _
    unfold Int.bmod
    dsimp only
    split <;> omega
theorem q_nlt {d : Nat} (h0 : 0 < d) (h : d < 2147483648) : -(Int32.ofNat d) < 0 := by
  rw [Int32.lt_iff_toInt_lt, q_ti h]
  show -(d : Int) < 0
  omega
theorem sar3n {d : Nat} (h : d < 2147483648) : (-(Int32.ofNat d)) >>> ((3 : Int32) &&& 31) = -(Int32.ofNat ((d + 7) / 8)) := by
  rw [show ((3 : Int32) &&& 31) = 3 from by decide]
  apply Int32.toBitVec_inj.mp
  rw [Int32.toBitVec_shiftRight, show ((3 : Int32).toBitVec.smod 32) = 3#32 from by decide]
  apply BitVec.eq_of_toInt_eq
  show ((-(Int32.ofNat d)).toBitVec.sshiftRight 3).toInt = (-(Int32.ofNat ((d + 7) / 8))).toInt
  rw [BitVec.toInt_sshiftRight, q_ti (by omega)]
  show (-(Int32.ofNat d)).toInt >>> 3 = _
  rw [q_ti h, Int.shiftRight_eq_div_pow]
  omega
theorem and7n {d : Nat} (h0 : 0 < d) (h : d < 2147483648) : (-(Int32.ofNat d)) &&& 7 = Int32.ofNat ((8 - d % 8) % 8) := by
  rw [q_neg h0 h, m7i]
  congr 1
  omega
theorem q_subn {a b : Nat} (h : a ≤ b) : Int32.ofNat a - Int32.ofNat b = -(Int32.ofNat (b - a)) := by
  rw [← q_sub h, Int32.neg_sub]
theorem pk_sh {f g : Nat → Nat} {w : Nat} (h : ∀ j, j < 8 → f j = g (8 * w + j)) : pk f 0 = pk g w := by
  unfold pk
  rw [show f (8 * 0) = g (8 * w) from h 0 (by omega), show f (8 * 0 + 1) = g (8 * w + 1) from h 1 (by omega), show f (8 * 0 + 2) = g (8 * w + 2) from h 2 (by omega), show f (8 * 0 + 3) = g (8 * w + 3) from h 3 (by omega), show f (8 * 0 + 4) = g (8 * w + 4) from h 4 (by omega), show f (8 * 0 + 5) = g (8 * w + 5) from h 5 (by omega), show f (8 * 0 + 6) = g (8 * w + 6) from h 6 (by omega), show f (8 * 0 + 7) = g (8 * w + 7) from h 7 (by omega)]
/-- shifted words: r bytes off, the top going out -/
theorem pk_off {f g : Nat → Nat} (h : ∀ i, f i < 256) (w r : Nat) (hr : 1 ≤ r ∧ r < 8) (hg : ∀ j, j < 8 → g j = f (8 * w + r + j)) : ∃ T, pk f w * 2 ^ (8 * r) + pk f (w + 1) / 2 ^ (64 - 8 * r) = pk g 0 + T * 18446744073709551616 := by
  have a0 := h (8 * w)
  have a1 := h (8 * w + 1)
  have a2 := h (8 * w + 2)
  have a3 := h (8 * w + 3)
  have a4 := h (8 * w + 4)
  have a5 := h (8 * w + 5)
  have a6 := h (8 * w + 6)
  have a7 := h (8 * w + 7)
  have c0 := h (8 * w + 8)
  have c1 := h (8 * w + 9)
  have c2 := h (8 * w + 10)
  have c3 := h (8 * w + 11)
  have c4 := h (8 * w + 12)
  have c5 := h (8 * w + 13)
  have c6 := h (8 * w + 14)
  have c7 := h (8 * w + 15)
  have e1 : pk f (w + 1) = f (8 * w + 8) * 72057594037927936 + f (8 * w + 9) * 281474976710656 + f (8 * w + 10) * 1099511627776 + f (8 * w + 11) * 4294967296 + f (8 * w + 12) * 16777216 + f (8 * w + 13) * 65536 + f (8 * w + 14) * 256 + f (8 * w + 15) := by
    unfold pk
    rw [show 8 * (w + 1) = 8 * w + 8 from by omega]
  have e2 : pk g 0 = f (8 * w + r) * 72057594037927936 + f (8 * w + r + 1) * 281474976710656 + f (8 * w + r + 2) * 1099511627776 + f (8 * w + r + 3) * 4294967296 + f (8 * w + r + 4) * 16777216 + f (8 * w + r + 5) * 65536 + f (8 * w + r + 6) * 256 + f (8 * w + r + 7) := by
    unfold pk
    rw [show g (8 * 0) = f (8 * w + r) from hg 0 (by omega), show g (8 * 0 + 1) = _ from hg 1 (by omega), show g (8 * 0 + 2) = _ from hg 2 (by omega), show g (8 * 0 + 3) = _ from hg 3 (by omega), show g (8 * 0 + 4) = _ from hg 4 (by omega), show g (8 * 0 + 5) = _ from hg 5 (by omega), show g (8 * 0 + 6) = _ from hg 6 (by omega), show g (8 * 0 + 7) = _ from hg 7 (by omega)]
  rw [e1, e2]
  have hr7 : r = 1 ∨ r = 2 ∨ r = 3 ∨ r = 4 ∨ r = 5 ∨ r = 6 ∨ r = 7 := by omega
  rcases hr7 with rfl | rfl | rfl | rfl | rfl | rfl | rfl
  · refine ⟨f (8 * w), ?_⟩
    unfold pk
    simp only [Nat.add_assoc, Nat.reduceAdd]
    omega
  · refine ⟨f (8 * w) * 256 + f (8 * w + 1), ?_⟩
    unfold pk
    simp only [Nat.add_assoc, Nat.reduceAdd]
    omega
  · refine ⟨f (8 * w) * 65536 + f (8 * w + 1) * 256 + f (8 * w + 2), ?_⟩
    unfold pk
    simp only [Nat.add_assoc, Nat.reduceAdd]
    omega
  · refine ⟨f (8 * w) * 16777216 + f (8 * w + 1) * 65536 + f (8 * w + 2) * 256 + f (8 * w + 3), ?_⟩
    unfold pk
    simp only [Nat.add_assoc, Nat.reduceAdd]
    omega
  · refine ⟨f (8 * w) * 4294967296 + f (8 * w + 1) * 16777216 + f (8 * w + 2) * 65536 + f (8 * w + 3) * 256 + f (8 * w + 4), ?_⟩
    unfold pk
    simp only [Nat.add_assoc, Nat.reduceAdd]
    omega
  · refine ⟨f (8 * w) * 1099511627776 + f (8 * w + 1) * 4294967296 + f (8 * w + 2) * 16777216 + f (8 * w + 3) * 65536 + f (8 * w + 4) * 256 + f (8 * w + 5), ?_⟩
    unfold pk
    simp only [Nat.add_assoc, Nat.reduceAdd]
    omega
  · refine ⟨f (8 * w) * 281474976710656 + f (8 * w + 1) * 1099511627776 + f (8 * w + 2) * 4294967296 + f (8 * w + 3) * 16777216 + f (8 * w + 4) * 65536 + f (8 * w + 5) * 256 + f (8 * w + 6), ?_⟩
    unfold pk
    simp only [Nat.add_assoc, Nat.reduceAdd]
    omega
theorem eight_e {z : Hs} {g : Gh} {o : Go} {a : Ab} {n y : Nat} (c : RC z g o a) (A : AI a) (h : txn a n) (hy : y < 1048000) : tx_eightFrom z (Int32.ofNat (o.ho n)) (Int32.ofNat y) = some (Int64.ofNat (pk (fun k => tb a n (y + k)) 0)) := by
  have fl : ∀ j, tb a n j < 256 := fun j => tb_lt A h
  have e1 : 8 * Int32.ofNat (y % 8) = Int32.ofNat (8 * (y % 8)) := q_mul 8 _
  have e2 : Int32.ofNat (y / 8) + 1 = Int32.ofNat (y / 8 + 1) := q_add _ 1
  unfold tx_eightFrom
  rw [q_sar3 (by omega), m7i, e1, e2, wordOf_e c A h (by omega), PB.2.1, wordOf_e c A h (by omega), PB.2.1, l_shl (by omega)]
  by_cases hr : y % 8 = 0
  · rw [hr, if_pos (show Int32.ofNat (8 * 0) = 0 from rfl), Nat.mul_zero, Nat.pow_zero, Nat.mul_one]
    rw [pk_sh (f := fun k => tb a n (y + k)) (g := tb a n) (w := y / 8) (fun j hj => by show tb a n (y + j) = _; rw [show 8 * (y / 8) + j = y + j from by omega])]
  · have e3 : 64 - Int32.ofNat (8 * (y % 8)) = Int32.ofNat (64 - 8 * (y % 8)) := q_sub (a := 64) (by omega)
    rw [if_neg (q_ne0 (by omega) (by omega)), e3, l_shr (pk_lt64 fl _) (by omega), l_or]
    obtain ⟨T, hT⟩ := pk_off (g := fun k => tb a n (y + k)) fl (y / 8) (y % 8) (by omega) (by
      intro j hj
      show tb a n (y + j) = _
      congr 1; omega)
    have hY : pk (tb a n) (y / 8 + 1) / 2 ^ (64 - 8 * (y % 8)) < 2 ^ (8 * (y % 8)) := by
      rw [Nat.div_lt_iff_lt_mul (Nat.two_pow_pos _), ← Nat.pow_add, show 8 * (y % 8) + (64 - 8 * (y % 8)) = 64 from by omega]
      exact pk_lt64 fl _
    rw [n_or hY, hT, l_wrap]
theorem eight_n {z : Hs} {g : Gh} {o : Go} {a : Ab} {n d : Nat} (c : RC z g o a) (A : AI a) (h : txn a n) (h0 : 0 < d) (hd : d < 1048000) : tx_eightFrom z (Int32.ofNat (o.ho n)) (-(Int32.ofNat d)) = some (Int64.ofNat (pk (fun k => if k < d then 0 else tb a n (k - d)) 0)) := by
  have fl : ∀ j, tb a n j < 256 := fun j => tb_lt A h
  have e1 : 8 * Int32.ofNat ((8 - d % 8) % 8) = Int32.ofNat (8 * ((8 - d % 8) % 8)) := q_mul 8 _
  unfold tx_eightFrom
  rw [sar3n (by omega), and7n h0 (by omega), e1, wordOf_n (q_nlt (by omega) (by omega)), PB.2.1]
  have zs : (0 : Int64) <<< ((Int32.ofNat (8 * ((8 - d % 8) % 8))).toInt64 &&& 63) = 0 := by
    have := l_shl (a := 0) (k := 8 * ((8 - d % 8) % 8)) (by omega)
    rw [Nat.zero_mul] at this
    exact this
  rw [zs]
  by_cases hr : d % 8 = 0
  · rw [show (8 - d % 8) % 8 = 0 from by omega, if_pos (show Int32.ofNat (8 * 0) = 0 from rfl), pk_0]
    · rfl
    · intro j hj
      show (if 8 * 0 + j < d then 0 else _) = 0
      rw [if_pos (by omega)]
  · have er : (8 - d % 8) % 8 = 8 - d % 8 := by omega
    have e3 : 64 - Int32.ofNat (8 * ((8 - d % 8) % 8)) = Int32.ofNat (64 - 8 * ((8 - d % 8) % 8)) := q_sub (a := 64) (by omega)
    rw [if_neg (q_ne0 (by omega) (by omega)), e3]
    by_cases h8 : d < 8
    · have e4 : -(Int32.ofNat ((d + 7) / 8)) + 1 = Int32.ofNat 0 := by
        rw [show (d + 7) / 8 = 1 from by omega]
        decide
      rw [e4, wordOf_e c A h (by omega), PB.2.1, l_shr (pk_lt64 fl _) (by omega)]
      have e5 : (0 : Int64) = Int64.ofNat 0 := rfl
      rw [e5, l_or, Nat.zero_or, er]
      refine congrArg (fun t => some (Int64.ofNat t)) ?_
      -- the word's bytes go d places down
      have a0 := fl 0
      have a1 := fl 1
      have a2 := fl 2
      have a3 := fl 3
      have a4 := fl 4
      have a5 := fl 5
      have a6 := fl 6
      have a7 := fl 7
      have hd7 : d = 1 ∨ d = 2 ∨ d = 3 ∨ d = 4 ∨ d = 5 ∨ d = 6 ∨ d = 7 := by omega
      have p0 : pk (tb a n) 0 = tb a n 0 * 72057594037927936 + tb a n 1 * 281474976710656 + tb a n 2 * 1099511627776 + tb a n 3 * 4294967296 + tb a n 4 * 16777216 + tb a n 5 * 65536 + tb a n 6 * 256 + tb a n 7 := rfl
      rw [p0]
      unfold pk
      rcases hd7 with rfl | rfl | rfl | rfl | rfl | rfl | rfl <;> simp <;> omega
    · have e4 : -(Int32.ofNat ((d + 7) / 8)) + 1 = -(Int32.ofNat ((d + 7) / 8 - 1)) := by
        rw [show Int32.ofNat ((d + 7) / 8) = Int32.ofNat ((d + 7) / 8 - 1) + Int32.ofNat 1 from by rw [q_add]; congr 1; omega, Int32.neg_add]
        rw [Int32.sub_eq_add_neg, Int32.add_assoc]
        rw [show -(Int32.ofNat 1) + 1 = 0 from by decide, Int32.add_zero]
      rw [e4, wordOf_n (q_nlt (by omega) (by omega)), PB.2.1]
      have zs2 : ((0 : Int64).toUInt64 >>> ((Int32.ofNat (64 - 8 * ((8 - d % 8) % 8))).toInt64.toUInt64 &&& Int64.toUInt64 63)).toInt64 = 0 := by
        have := l_shr (a := 0) (k := 64 - 8 * ((8 - d % 8) % 8)) (by omega) (by omega)
        rw [Nat.zero_div] at this
        exact this
      rw [zs2, pk_0]
      · rfl
      · intro j hj
        show (if 8 * 0 + j < d then 0 else _) = 0
        rw [if_pos (by omega)]
/-- bytes before S from f, bytes from S on from g: or joins them -/
theorem pk_or {f g : Nat → Nat} (hf : ∀ i, f i < 256) (hg : ∀ i, g i < 256) (S w : Nat) (h1 : ∀ i, S ≤ i → f i = 0) (h2 : ∀ i, i < S → g i = 0) : pk f w ||| pk g w = pk (fun i => f i + g i) w := by
  have s0 : pk (fun i => f i + g i) w = pk f w + pk g w := by
    unfold pk
    dsimp only
    omega
  rw [s0]
  by_cases hlo : S ≤ 8 * w
  · rw [pk_0 (f := f) (fun j _ => h1 _ (by omega)), Nat.zero_or, Nat.zero_add]
  · by_cases hhi : 8 * w + 8 ≤ S
    · rw [pk_0 (f := g) (fun j _ => h2 _ (by omega)), Nat.or_zero, Nat.add_zero]
    · have f0 := hf (8 * w)
      have g1 := hg (8 * w + 1)
      have g2 := hg (8 * w + 2)
      have g3 := hg (8 * w + 3)
      have g4 := hg (8 * w + 4)
      have g5 := hg (8 * w + 5)
      have g6 := hg (8 * w + 6)
      have g7 := hg (8 * w + 7)
      have key : ∀ q k, pk f w = q * 2 ^ k → pk g w < 2 ^ k → pk f w ||| pk g w = pk f w + pk g w := by
        intro q k e1 e2
        rw [e1]
        exact n_or e2
      have hs : S = 8 * w + 1 ∨ S = 8 * w + 2 ∨ S = 8 * w + 3 ∨ S = 8 * w + 4 ∨ S = 8 * w + 5 ∨ S = 8 * w + 6 ∨ S = 8 * w + 7 := by omega
      rcases hs with e | e | e | e | e | e | e
      · have z1 := h1 (8 * w + 1) (by omega)
        have z2 := h1 (8 * w + 2) (by omega)
        have z3 := h1 (8 * w + 3) (by omega)
        have z4 := h1 (8 * w + 4) (by omega)
        have z5 := h1 (8 * w + 5) (by omega)
        have z6 := h1 (8 * w + 6) (by omega)
        have z7 := h1 (8 * w + 7) (by omega)
        have y0 := h2 (8 * w) (by omega)
        exact key (f (8 * w)) 56 (by unfold pk; omega) (by unfold pk; omega)
      · have z2 := h1 (8 * w + 2) (by omega)
        have z3 := h1 (8 * w + 3) (by omega)
        have z4 := h1 (8 * w + 4) (by omega)
        have z5 := h1 (8 * w + 5) (by omega)
        have z6 := h1 (8 * w + 6) (by omega)
        have z7 := h1 (8 * w + 7) (by omega)
        have y0 := h2 (8 * w) (by omega)
        have y1 := h2 (8 * w + 1) (by omega)
        exact key (f (8 * w) * 256 + f (8 * w + 1)) 48 (by unfold pk; omega) (by unfold pk; omega)
      · have z3 := h1 (8 * w + 3) (by omega)
        have z4 := h1 (8 * w + 4) (by omega)
        have z5 := h1 (8 * w + 5) (by omega)
        have z6 := h1 (8 * w + 6) (by omega)
        have z7 := h1 (8 * w + 7) (by omega)
        have y0 := h2 (8 * w) (by omega)
        have y1 := h2 (8 * w + 1) (by omega)
        have y2 := h2 (8 * w + 2) (by omega)
        exact key (f (8 * w) * 65536 + f (8 * w + 1) * 256 + f (8 * w + 2)) 40 (by unfold pk; omega) (by unfold pk; omega)
      · have z4 := h1 (8 * w + 4) (by omega)
        have z5 := h1 (8 * w + 5) (by omega)
        have z6 := h1 (8 * w + 6) (by omega)
        have z7 := h1 (8 * w + 7) (by omega)
        have y0 := h2 (8 * w) (by omega)
        have y1 := h2 (8 * w + 1) (by omega)
        have y2 := h2 (8 * w + 2) (by omega)
        have y3 := h2 (8 * w + 3) (by omega)
        exact key (f (8 * w) * 16777216 + f (8 * w + 1) * 65536 + f (8 * w + 2) * 256 + f (8 * w + 3)) 32 (by unfold pk; omega) (by unfold pk; omega)
      · have z5 := h1 (8 * w + 5) (by omega)
        have z6 := h1 (8 * w + 6) (by omega)
        have z7 := h1 (8 * w + 7) (by omega)
        have y0 := h2 (8 * w) (by omega)
        have y1 := h2 (8 * w + 1) (by omega)
        have y2 := h2 (8 * w + 2) (by omega)
        have y3 := h2 (8 * w + 3) (by omega)
        have y4 := h2 (8 * w + 4) (by omega)
        exact key (f (8 * w) * 4294967296 + f (8 * w + 1) * 16777216 + f (8 * w + 2) * 65536 + f (8 * w + 3) * 256 + f (8 * w + 4)) 24 (by unfold pk; omega) (by unfold pk; omega)
      · have z6 := h1 (8 * w + 6) (by omega)
        have z7 := h1 (8 * w + 7) (by omega)
        have y0 := h2 (8 * w) (by omega)
        have y1 := h2 (8 * w + 1) (by omega)
        have y2 := h2 (8 * w + 2) (by omega)
        have y3 := h2 (8 * w + 3) (by omega)
        have y4 := h2 (8 * w + 4) (by omega)
        have y5 := h2 (8 * w + 5) (by omega)
        exact key (f (8 * w) * 1099511627776 + f (8 * w + 1) * 4294967296 + f (8 * w + 2) * 16777216 + f (8 * w + 3) * 65536 + f (8 * w + 4) * 256 + f (8 * w + 5)) 16 (by unfold pk; omega) (by unfold pk; omega)
      · have z7 := h1 (8 * w + 7) (by omega)
        have y0 := h2 (8 * w) (by omega)
        have y1 := h2 (8 * w + 1) (by omega)
        have y2 := h2 (8 * w + 2) (by omega)
        have y3 := h2 (8 * w + 3) (by omega)
        have y4 := h2 (8 * w + 4) (by omega)
        have y5 := h2 (8 * w + 5) (by omega)
        have y6 := h2 (8 * w + 6) (by omega)
        exact key (f (8 * w) * 281474976710656 + f (8 * w + 1) * 1099511627776 + f (8 * w + 2) * 4294967296 + f (8 * w + 3) * 16777216 + f (8 * w + 4) * 65536 + f (8 * w + 5) * 256 + f (8 * w + 6)) 8 (by unfold pk; omega) (by unfold pk; omega)
