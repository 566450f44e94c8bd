/-! join on both sides. -/
theorem newA_tx {a : Ab} {kd ln n : Nat} (t : txn a n) (hn : n ≤ a.md) : txn (newA a kd ln 0 0 0) n ∧ tb (newA a kd ln 0 0 0) n = tb a n ∧ tl (newA a kd ln 0 0 0) n = tl a n := by
  have E := (newA_o (a := a) (kd := kd) (ln := ln) (nk := 0) (nv := 0) (nt := 0) hn).1
  have X := newA_x (a := a) (kd := kd) (ln := ln) (nk := 0) (nv := 0) (nt := 0)
  refine ⟨?_, ?_, ?_⟩
  · rcases t with t | ⟨t, k3⟩
    · exact Or.inl t
    · exact Or.inr ⟨X.ob t, E.kd.trans k3⟩
  · funext i
    unfold tb
    rw [E.bs]
  · unfold tl
    rw [E.ln]
theorem tg_n {a : Ab} {n : Nat} (A : AI a) (t : txn a n) : n ≤ a.md := by
  rcases t with t | ⟨t, _⟩
  · omega
  · exact t.2.1
theorem mj_loop {q : Gm} {b : Ab} {n1 n2 L N r : Nat} {F : Nat → Nat} (A : AI b) (hr : r < 16) (t1 : txn b n1) (t2 : txn b n2) (m1 : n1 ≠ N) (m2 : n2 ≠ N) (oN : obj b N) (kN : b.kd N = 3) (lN : b.ln N = L) (hL : L = tl b n1 + tl b n2) (hL2 : L ≤ 32768) (hF : F = jnF (tb b n1) (tb b n2) (tl b n1)) : ∀ k i fu (m : Ms), i + k = L → k < fu → RM m q (wrt b N (cut F i)) →
    ∃ m2, md_join_l179 fu (Int32.ofNat r) (tgW (.inr (n1, 0))) (tgW (.inr (n2, 0))) (Int32.ofNat L) (Int32.ofNat N) (Int32.ofNat i) m = some (0, Ms.wvl (Ms.wtg m2 (upd m2.atg r (Int32.ofNat N))) (vp_updL m2.avl r 0), Int32.ofNat N) ∧ RM m2 q (wrt b N F) ∧ PM m2 = PM m ∧ m2.thr = m.thr := by
  have bF : ∀ i, F i < 256 := by intro i; rw [hF]; exact jnF_lt A t1 t2 i
  have zF : ∀ i, L ≤ i → F i = 0 := by intro i hi; rw [hF]; exact jnF_0 A t1 t2 i (by omega)
  intro k
  induction k with
  | zero =>
    intro i fu m hi hfu R
    obtain ⟨f, rfl⟩ : ∃ f, fu = f + 1 := ⟨fu - 1, by omega⟩
    refine ⟨m, ?_, ?_, rfl, rfl⟩
    · rw [md_join_l179, if_pos ((q_le (by omega) (by omega)).mpr (by omega)), md_set_e hr R.z.tg R.z.vl, PB.2.2.2.2.1]
    · rw [cut_all (fun j hj => zF j (by omega))] at R
      exact R
  | succ k ih =>
    intro i fu m hi hfu R
    obtain ⟨f, rfl⟩ : ∃ f, fu = f + 1 := ⟨fu - 1, by omega⟩
    have Aw := AI_wrt A oN kN bF (fun j hj => zF j (by omega)) i
    obtain ⟨q1, q2, q3⟩ := wr_tx t1 m1 (cut F i)
    obtain ⟨r1, r2, r3⟩ := wr_tx t2 m2 (cut F i)
    have e1 : Int32.ofNat i + 1 = Int32.ofNat (i + 1) := q_add i 1
    have om := (R.ob N oN).tx kN
    have oml : q.sr N + b.ln N ≤ q.bc := om.2.1
    have zb := R.z.by
    have zk := R.z.K
    have hK : b.md < q.K := R.k
    have hN := oN.2.1
    have R2 := wr_byte R oN kN (by omega)
    obtain ⟨m3, e3, R3, p3, h3⟩ := ih (i + 1) f _ (by omega) (by omega) R2
    refine ⟨m3, ?_, R3, p3, h3⟩
    have l1 := tl_le A t1
    have nb : ∀ x, vp_nar .byte ((Int32.ofNat x).toInt8.toInt32) = vp_nar .byte (Int32.ofNat x) := fun x => narb (Int32.ofNat x)
    rw [md_join_l179, if_neg (fun d => absurd ((q_le (by omega) (by omega)).mp d) (by omega)), R.z.sr, q_inb (show N < q.K by omega) (by omega), gdT, md_bytesOf_e R Aw q1, PB.2.1, q3, PB.2.1, q_nat (show N < 2147483648 by omega), om.1, q_add, q_inb (show q.sr N + i < m.nby by omega) (by omega), q_nat (show q.sr N + i < 2147483648 by omega), e1]
    by_cases hS : tl b n1 ≤ i
    · have eF : F i = tb b n2 (i - tl b n1) := by
        rw [hF]
        unfold jnF
        rw [if_neg (by omega), tb_0 A t1 hS, Nat.zero_add]
      rw [if_pos ((q_le (by omega) (by omega)).mpr hS), q_sub hS, md_byteOf_e R Aw r1 (by rw [r3]; omega), PB.2.1, gdT, r2, ← eF, nb]
      exact e3
    · have eF : F i = tb b n1 i := by
        rw [hF]
        unfold jnF
        rw [if_pos (by omega), Nat.add_zero]
      rw [if_neg (fun d => hS ((q_le (by omega) (by omega)).mp d)), md_byteOf_e R Aw q1 (by rw [q3]; omega), PB.2.1, gdT, q2, ← eF, nb]
      exact e3
