/-! part: words and bytes. -/
theorem and_hi {X k m : Nat} : X &&& ((2 ^ m - 1) * 2 ^ k) = (X / 2 ^ k % 2 ^ m) * 2 ^ k := by
  apply Nat.eq_of_testBit_eq
  intro t
  rw [Nat.testBit_and, Nat.mul_comm (2 ^ m - 1), Nat.mul_comm (X / 2 ^ k % 2 ^ m), Nat.testBit_two_pow_mul, Nat.testBit_two_pow_mul, Nat.testBit_two_pow_sub_one, Nat.testBit_mod_two_pow, Nat.testBit_div_two_pow]
  by_cases h : t ≥ k
  · rw [show decide (t ≥ k) = true from decide_eq_true h, show t - k + k = t from by omega, Bool.true_and, Bool.true_and, Bool.and_comm]
  · rw [show decide (t ≥ k) = false from decide_eq_false h, Bool.false_and, Bool.false_and, Bool.and_false]
theorem mask_e {s : Nat} (hs : s < 8) : (-1 : Int64) <<< ((Int32.ofNat (8 * s)).toInt64 &&& 63) = Int64.ofNat ((2 ^ (64 - 8 * s) - 1) * 2 ^ (8 * s)) := by
  have e : (-1 : Int64) = Int64.ofNat 18446744073709551615 := by decide
  rw [e, l_shl (by omega)]
  have hs8 : s = 0 ∨ s = 1 ∨ s = 2 ∨ s = 3 ∨ s = 4 ∨ s = 5 ∨ s = 6 ∨ s = 7 := by omega
  rcases hs8 with rfl | rfl | rfl | rfl | rfl | rfl | rfl | rfl <;> decide
/-- the bytes of a part -/
def ptF (f : Nat → Nat) (x L : Nat) : Nat → Nat := fun k => if k < L then f (x + k) else 0
theorem pt_cut {f : Nat → Nat} (h : ∀ i, f i < 256) (x L w s : Nat) (hs : s < 8) (h1 : 8 * w < L) (h2 : (s = 0 ∧ 8 * (w + 1) ≤ L) ∨ (0 < s ∧ 8 * (w + 1) = L + s)) : pk (fun k => f (x + 8 * w + k)) 0 / 2 ^ (8 * s) % 2 ^ (64 - 8 * s) * 2 ^ (8 * s) = pk (ptF f x L) w := by
  have a0 := h (x + 8 * w)
  have a1 := h (x + 8 * w + 1)
  have a2 := h (x + 8 * w + 2)
  have a3 := h (x + 8 * w + 3)
  have a4 := h (x + 8 * w + 4)
  have a5 := h (x + 8 * w + 5)
  have a6 := h (x + 8 * w + 6)
  have a7 := h (x + 8 * w + 7)
  have e0 : pk (fun k => f (x + 8 * w + k)) 0 = f (x + 8 * w) * 72057594037927936 + f (x + 8 * w + 1) * 281474976710656 + f (x + 8 * w + 2) * 1099511627776 + f (x + 8 * w + 3) * 4294967296 + f (x + 8 * w + 4) * 16777216 + f (x + 8 * w + 5) * 65536 + f (x + 8 * w + 6) * 256 + f (x + 8 * w + 7) := rfl
  have F : ∀ j, ptF f x L (8 * w + j) = if 8 * w + j < L then f (x + 8 * w + j) else 0 := by
    intro j
    unfold ptF
    rw [Nat.add_assoc]
  have F0 : ptF f x L (8 * w) = f (x + 8 * w) := if_pos h1
  rw [e0]
  unfold pk
  rw [F0, F 1, F 2, F 3, F 4, F 5, F 6, F 7]
  have hs8 : s = 0 ∨ s = 1 ∨ s = 2 ∨ s = 3 ∨ s = 4 ∨ s = 5 ∨ s = 6 ∨ s = 7 := by omega
  rcases hs8 with rfl | rfl | rfl | rfl | rfl | rfl | rfl | rfl
  · rw [if_pos (by omega), if_pos (by omega), if_pos (by omega), if_pos (by omega), if_pos (by omega), if_pos (by omega), if_pos (by omega)]
    omega
  · rw [if_pos (by omega), if_pos (by omega), if_pos (by omega), if_pos (by omega), if_pos (by omega), if_pos (by omega), if_neg (by omega)]
    omega
  · rw [if_pos (by omega), if_pos (by omega), if_pos (by omega), if_pos (by omega), if_pos (by omega), if_neg (by omega), if_neg (by omega)]
    omega
  · rw [if_pos (by omega), if_pos (by omega), if_pos (by omega), if_pos (by omega), if_neg (by omega), if_neg (by omega), if_neg (by omega)]
    omega
  · rw [if_pos (by omega), if_pos (by omega), if_pos (by omega), if_neg (by omega), if_neg (by omega), if_neg (by omega), if_neg (by omega)]
    omega
  · rw [if_pos (by omega), if_pos (by omega), if_neg (by omega), if_neg (by omega), if_neg (by omega), if_neg (by omega), if_neg (by omega)]
    omega
  · rw [if_pos (by omega), if_neg (by omega), if_neg (by omega), if_neg (by omega), if_neg (by omega), if_neg (by omega), if_neg (by omega)]
    omega
  · rw [if_neg (by omega), if_neg (by omega), if_neg (by omega), if_neg (by omega), if_neg (by omega), if_neg (by omega), if_neg (by omega)]
    omega
theorem pt_loop {g : Gh} {o : Go} {b : Ab} {n x L N : Nat} {F : Nat → Nat} (A : AI b) (t1 : txn b n) (m1 : n ≠ N) (oN : obj b N) (kN : b.kd N = 3) (lN : b.ln N = L) (hL : x + L ≤ tl b n) (hF : F = ptF (tb b n) x L) : ∀ k w fu (z : Hs), w + k = (L + 7) / 8 → k < fu → RC z g o (wrt b N (cut F (8 * w))) →
    ∃ z2, tx_partOf_l20 fu (Int32.ofNat (o.ho n)) (Int32.ofNat x) (Int32.ofNat L) (Int32.ofNat (o.ho N)) (Int32.ofNat w) z = some (0, z2, .inr (Int32.ofNat (o.ho N))) ∧ RC z2 g o (wrt b N F) ∧ z2.nbt = z.nbt ∧ z2.nst = z.nst := by
  have tle := tl_le A t1
  have b1 : ∀ i, tb b n i < 256 := fun i => tb_lt A t1
  have bF : ∀ i, F i < 256 := by
    intro i
    rw [hF]
    unfold ptF
    split
    · exact b1 _
    · omega
  have zF : ∀ i, L ≤ i → F i = 0 := by
    intro i hi
    rw [hF]
    exact if_neg (by omega)
  intro k
  induction k with
  | zero =>
    intro w fu z hw hfu c
    obtain ⟨f, rfl⟩ : ∃ f, fu = f + 1 := ⟨fu - 1, by omega⟩
    refine ⟨z, ?_, ?_, rfl, rfl⟩
    · rw [tx_partOf_l20, wordsFor_e (by omega), PB.2.1, if_pos ((q_le (by omega) (by omega)).mpr (by omega))]
    · rw [cut_all (fun i hi => zF i (by omega))] at c
      exact c
  | succ k ih =>
    intro w fu z hw hfu c
    obtain ⟨f, rfl⟩ : ∃ f, fu = f + 1 := ⟨fu - 1, by omega⟩
    have Aw := AI_wrt A oN kN bF (fun i hi => zF i (by omega)) (8 * w)
    obtain ⟨q1, q2, q3⟩ := wr_tx t1 m1 (cut F (8 * w))
    obtain ⟨z2, e2, c2, nb, ns⟩ := wr_step c Aw oN kN (by omega)
    obtain ⟨z3, e3, c3, nb3, ns3⟩ := ih (w + 1) f z2 (by omega) (by omega) c2
    refine ⟨z3, ?_, c3, nb3.trans nb, ns3.trans ns⟩
    have e1 : Int32.ofNat w + 1 = Int32.ofNat (w + 1) := q_add w 1
    have e8 : 8 * Int32.ofNat w = Int32.ofNat (8 * w) := q_mul 8 w
    have e9 : 8 * Int32.ofNat (w + 1) = Int32.ofNat (8 * (w + 1)) := q_mul 8 (w + 1)
    have hob := c.ob N oN
    obtain ⟨s, hs⟩ : ∃ s, s = 8 * (w + 1) - L := ⟨_, rfl⟩
    have hsur : (if 0 < Int32.ofNat (8 * (w + 1)) - Int32.ofNat L then Int32.ofNat (8 * (w + 1)) - Int32.ofNat L else 0) = Int32.ofNat s := by
      by_cases hc : L < 8 * (w + 1)
      · rw [q_sub (by omega), if_pos (show (0 : Int32) < Int32.ofNat (8 * (w + 1) - L) from (q_lt (a := 0) (by omega) (by omega)).mpr (by omega)), hs]
      · rw [q_subn (by omega)]
        have : ¬ ((0 : Int32) < -(Int32.ofNat (L - 8 * (w + 1)))) := by
          rw [Int32.lt_iff_toInt_lt, q_ti (by omega)]
          show ¬ ((0 : Int) < -((L - 8 * (w + 1) : Nat) : Int))
          omega
        rw [if_neg this, hs, show 8 * (w + 1) - L = 0 from by omega]
        rfl
    have e10 : 8 * Int32.ofNat s = Int32.ofNat (8 * s) := q_mul 8 s
    have hcut := pt_cut b1 x L w s (by omega) (by omega) (by omega)
    rw [← hF] at hcut
    rw [tx_partOf_l20, wordsFor_e (by omega), PB.2.1, if_neg (fun d => absurd ((q_le (by omega) (by omega)).mp d) (by omega)), e1, e9, hsur, PB.2.1, c.i.first (Or.inr hob.m), PB.2.1, e8, q_add, eight_e c Aw q1 (by omega), PB.2.1, q2, e10, mask_e (by omega), l_and, and_hi, hcut, q_add, e2, PB.2.2.2.2.1]
    exact e3
theorem mp_loop {q : Gm} {b : Ab} {n x L N r : Nat} {F : Nat → Nat} (A : AI b) (hr : r < 16) (t1 : txn b n) (m1 : n ≠ N) (oN : obj b N) (kN : b.kd N = 3) (lN : b.ln N = L) (hL : x + L ≤ tl b n) (hF : F = ptF (tb b n) x L) : ∀ k i fu (m : Ms), i + k = L → k < fu → RM m q (wrt b N (cut F i)) →
    ∃ m2, md_part_l148 fu (Int32.ofNat r) (Int32.ofNat x) (Int32.ofNat (x + L)) (tgW (.inr (n, 0))) (Int32.ofNat N) (Int32.ofNat (x + i)) m = some (0, Ms.wvl (Ms.wtg m2 (upd m2.atg r (Int32.ofNat N))) (vp_updL m2.avl r 0), Int32.ofNat N) ∧ RM m2 q (wrt b N F) ∧ PM m2 = PM m ∧ m2.thr = m.thr := by
  have tle := tl_le A t1
  have b1 : ∀ i, tb b n i < 256 := fun i => tb_lt A t1
  have bF : ∀ i, F i < 256 := by
    intro i
    rw [hF]
    unfold ptF
    split
    · exact b1 _
    · omega
  have zF : ∀ i, L ≤ i → F i = 0 := by
    intro i hi
    rw [hF]
    exact if_neg (by omega)
  intro k
  induction k with
  | zero =>
    intro i fu m hi hfu R
    obtain ⟨f, rfl⟩ : ∃ f, fu = f + 1 := ⟨fu - 1, by omega⟩
    refine ⟨m, ?_, ?_, rfl, rfl⟩
    · rw [md_part_l148, if_pos ((q_le (by omega) (by omega)).mpr (by omega)), md_set_e hr R.z.tg R.z.vl, PB.2.2.2.2.1]
    · rw [cut_all (fun j hj => zF j (by omega))] at R
      exact R
  | succ k ih =>
    intro i fu m hi hfu R
    obtain ⟨f, rfl⟩ : ∃ f, fu = f + 1 := ⟨fu - 1, by omega⟩
    have Aw := AI_wrt A oN kN bF (fun j hj => zF j (by omega)) i
    obtain ⟨q1, q2, q3⟩ := wr_tx t1 m1 (cut F i)
    have e1 : Int32.ofNat (x + i) + 1 = Int32.ofNat (x + (i + 1)) := q_add (x + i) 1
    have om := (R.ob N oN).tx kN
    have oml : q.sr N + b.ln N ≤ q.bc := om.2.1
    have zb := R.z.by
    have zk := R.z.K
    have hK : b.md < q.K := R.k
    have hN := oN.2.1
    have R2 := wr_byte R oN kN (by omega)
    obtain ⟨m3, e3, R3, p3, h3⟩ := ih (i + 1) f _ (by omega) (by omega) R2
    refine ⟨m3, ?_, R3, p3, h3⟩
    have nb : ∀ x, vp_nar .byte ((Int32.ofNat x).toInt8.toInt32) = vp_nar .byte (Int32.ofNat x) := fun x => narb (Int32.ofNat x)
    have eF : F i = tb b n (x + i) := by
      rw [hF]
      exact if_pos (by omega)
    rw [md_part_l148, if_neg (fun d => absurd ((q_le (by omega) (by omega)).mp d) (by omega)), R.z.sr, q_inb (show N < q.K by omega) (by omega), gdT, md_byteOf_e R Aw q1 (by rw [q3]; omega), PB.2.1, q2, ← eF, nb, q_nat (show N < 2147483648 by omega), om.1, q_add, q_sub (show x ≤ q.sr N + (x + i) by omega), show q.sr N + (x + i) - x = q.sr N + i from by omega, q_inb (show q.sr N + i < m.nby by omega) (by omega), gdT, q_nat (show q.sr N + i < 2147483648 by omega), e1]
    exact e3
theorem pt_core {z : Hs} {g : Gh} {o : Go} {b : Ab} {m : Ms} {q : Gm} {n x L N i : Nat} (C : RC z g o b) (R : RM m q b) (A : AI b) (w0 : ∀ F, wrt b N (cut F 0) = b) (t1 : txn b n) (m1 : n ≠ N) (oN : obj b N) (kN : b.kd N = 3) (lN : b.ln N = L) (hL : x + L ≤ tl b n) (hi : i < 16) :
    ∃ z4 z5 m6 b2, tx_partOf_l20 FU (Int32.ofNat (o.ho n)) (Int32.ofNat x) (Int32.ofNat L) (Int32.ofNat (o.ho N)) 0 z = some (0, z4, .inr (Int32.ofNat (o.ho N))) ∧ wh_hold z4 (Int32.ofNat i) (Int32.ofNat (o.ho N)) = some (z5, Int32.ofNat N) ∧ md_part_l148 FU (Int32.ofNat i) (Int32.ofNat x) (Int32.ofNat (x + L)) (tgW (.inr (n, 0))) (Int32.ofNat N) (Int32.ofNat x) m = some (0, m6, Int32.ofNat N) ∧ RC z5 g o b2 ∧ RM m6 q b2 ∧ AI b2 ∧ b2.lm = b.lm ∧ b2.tn = b.tn ∧ z5.nbt = z.nbt ∧ z5.nst = z.nst ∧ PM m6 = PM m ∧ m6.thr = m.thr := by
  have n0 : N ≠ 0 := by have := oN.1; omega
  have tle := tl_le A t1
  obtain ⟨z4, f4, C4, nb4, ns4⟩ := pt_loop (g := g) (o := o) (b := b) (n := n) (x := x) (L := L) (N := N) (F := ptF (tb b n) x L) A t1 m1 oN kN lN hL rfl ((L + 7) / 8) 0 FU z (by omega) (by unfold FU; omega) (by rw [Nat.mul_zero, w0]; exact C)
  obtain ⟨m5, f5, R5, p5, th5⟩ := mp_loop (q := q) (b := b) (n := n) (x := x) (L := L) (N := N) (r := i) (F := ptF (tb b n) x L) A hi t1 m1 oN kN lN hL rfl L 0 FU m (by omega) (by unfold FU; omega) (by rw [w0]; exact R)
  have A4 : AI (wrt b N (ptF (tb b n) x L)) := AI_bs A oN kN (by
    intro y
    unfold ptF
    split
    · exact tb_lt A t1
    · omega) (fun y hy => if_neg (by omega))
  obtain ⟨f6, C6⟩ := RC_hold (n := N) C4 A4 hi oN
  have R6 := RM_reg (i := i) (w := .inr (N, 0)) R5
  rw [tgW_o n0] at R6
  refine ⟨z4, _, _, _, f4, f6, f5, C6, R6, AI_reg A4 ?_, rfl, rfl, nb4, ns4, p5, th5⟩
  refine Or.inr ⟨oN, Nat.zero_le _, ?_⟩
  split
  · exact Nat.zero_le _
  · rfl
