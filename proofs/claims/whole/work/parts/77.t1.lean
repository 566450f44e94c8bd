/-! Texts: bytes and words. -/
def tl (a : Ab) (n : Nat) : Nat := if n = 0 then 0 else a.ln n
def tb (a : Ab) (n i : Nat) : Nat := if n = 0 then 0 else a.bs n i
/-- n is a text, or 0 for nil -/
def txn (a : Ab) (n : Nat) : Prop := n = 0 ∨ (obj a n ∧ a.kd n = 3)
theorem tb_lt {a : Ab} {n i : Nat} (A : AI a) (h : txn a n) : tb a n i < 256 := by
  unfold tb
  by_cases h0 : n = 0
  · rw [if_pos h0]; omega
  · rw [if_neg h0]
    have := h.resolve_left h0
    exact (A.tx this.1 this.2).2.1 i
theorem tb_0 {a : Ab} {n i : Nat} (A : AI a) (h : txn a n) (hi : tl a n ≤ i) : tb a n i = 0 := by
  unfold tb
  unfold tl at hi
  by_cases h0 : n = 0
  · rw [if_pos h0]
  · rw [if_neg h0] at hi
    rw [if_neg h0]
    have := h.resolve_left h0
    exact (A.tx this.1 this.2).2.2 i hi
theorem tl_le {a : Ab} {n : Nat} (A : AI a) (h : txn a n) : tl a n ≤ 32768 := by
  unfold tl
  by_cases h0 : n = 0
  · rw [if_pos h0]; omega
  · rw [if_neg h0]
    have := h.resolve_left h0
    exact (A.tx this.1 this.2).1
theorem pk_lt64 {f : Nat → Nat} (h : ∀ i, f i < 256) (w : Nat) : pk f w < 18446744073709551616 := by
  have h0 := h (8 * w)
  have h1 := h (8 * w + 1)
  have h2 := h (8 * w + 2)
  have h3 := h (8 * w + 3)
  have h4 := h (8 * w + 4)
  have h5 := h (8 * w + 5)
  have h6 := h (8 * w + 6)
  have h7 := h (8 * w + 7)
  unfold pk
  omega
theorem pk_byte {f : Nat → Nat} (h : ∀ i, f i < 256) (w j : Nat) (hj : j < 8) : pk f w / 2 ^ (56 - 8 * j) % 256 = f (8 * w + j) := by
  have h0 := h (8 * w)
  have h1 := h (8 * w + 1)
  have h2 := h (8 * w + 2)
  have h3 := h (8 * w + 3)
  have h4 := h (8 * w + 4)
  have h5 := h (8 * w + 5)
  have h6 := h (8 * w + 6)
  have h7 := h (8 * w + 7)
  have hj8 : j = 0 ∨ j = 1 ∨ j = 2 ∨ j = 3 ∨ j = 4 ∨ j = 5 ∨ j = 6 ∨ j = 7 := by omega
  rcases hj8 with rfl | rfl | rfl | rfl | rfl | rfl | rfl | rfl
  · show pk f w / 72057594037927936 % 256 = f (8 * w)
    unfold pk; omega
  · show pk f w / 281474976710656 % 256 = f (8 * w + 1)
    unfold pk; omega
  · show pk f w / 1099511627776 % 256 = f (8 * w + 2)
    unfold pk; omega
  · show pk f w / 4294967296 % 256 = f (8 * w + 3)
    unfold pk; omega
  · show pk f w / 16777216 % 256 = f (8 * w + 4)
    unfold pk; omega
  · show pk f w / 65536 % 256 = f (8 * w + 5)
    unfold pk; omega
  · show pk f w / 256 % 256 = f (8 * w + 6)
    unfold pk; omega
  · show pk f w / 1 % 256 = f (8 * w + 7)
    unfold pk; omega
theorem pk_0 {f : Nat → Nat} {w : Nat} (h : ∀ j, j < 8 → f (8 * w + j) = 0) : pk f w = 0 := by
  unfold pk
  rw [show f (8 * w) = 0 from h 0 (by omega), h 1 (by omega), h 2 (by omega), h 3 (by omega), h 4 (by omega), h 5 (by omega), h 6 (by omega), h 7 (by omega)]
theorem wordsFor_e {z : Hs} {n : Nat} (hn : n ≤ 131072) : tx_wordsFor z (Int32.ofNat n) = some (Int32.ofNat ((n + 7) / 8)) := by
  unfold tx_wordsFor
  rw [show hp_sizeOf z 3 (Int32.ofNat n) = some (Int32.ofNat (1 + (if 3 = 3 then (n + 7) / 8 else n))) from hp_sizeOf_e (k := 3) (by omega) (by omega), PB.2.1, if_pos rfl]
  have : Int32.ofNat (1 + (n + 7) / 8) - 1 = Int32.ofNat (1 + (n + 7) / 8 - 1) := q_sub (b := 1) (by omega)
  rw [this, show 1 + (n + 7) / 8 - 1 = (n + 7) / 8 from by omega]
theorem RC.txh {z : Hs} {g : Gh} {o : Go} {a : Ab} {n : Nat} (c : RC z g o a) (h : txn a n) : hv g (o.ho n) ∧ g.ln (o.ho n) = tl a n ∧ ∀ w, w < (tl a n + 7) / 8 → g.st (o.ho n) + 1 + w < z.nbt ∧ g.st (o.ho n) + 1 + w < g.e ∧ z.abt (g.st (o.ho n) + 1 + w) = Int64.ofNat (pk (tb a n) w) := by
  unfold tl
  rcases h with rfl | ⟨on, k3⟩
  · rw [c.h0, if_pos rfl]
    exact ⟨Or.inl rfl, c.i.h0.2.2.1, fun w hw => by omega⟩
  · have n0 : n ≠ 0 := by have := on.1; omega
    have ob := c.ob n on
    have T := ob.tx k3
    have e : tb a n = a.bs n := by funext i; exact if_neg n0
    rw [if_neg n0, e]
    refine ⟨Or.inr ob.m, T.1, ?_⟩
    intro w hw
    have wn := c.i.wd_ne (a := g.st (o.ho n) + 1 + w) (Or.inr ⟨o.ho n, ob.m, by omega, by unfold Gh.sz; rw [ob.kd, k3, T.1, if_pos rfl]; omega⟩)
    exact ⟨wn.1, wn.2.1, T.2 w hw⟩
theorem wordOf_e {z : Hs} {g : Gh} {o : Go} {a : Ab} {n w : Nat} (c : RC z g o a) (A : AI a) (h : txn a n) (hw : w < 131072) : tx_wordOf z (Int32.ofNat (o.ho n)) (Int32.ofNat w) = some (Int64.ofNat (pk (tb a n) w)) := by
  obtain ⟨v, l, ws⟩ := c.txh h
  have tle := tl_le A h
  unfold tx_wordOf tx_wordOf_j19
  rw [if_neg (q_nlt0 (by omega)), c.i.length v, PB.2.1, l, wordsFor_e (by omega), PB.2.1]
  by_cases hc : w < (tl a n + 7) / 8
  · obtain ⟨w1, w2, w3⟩ := ws w hc
    rw [if_pos ((q_lt (by omega) (by omega)).mpr hc), c.i.first v, PB.2.1, q_add, hp_bitsAt_e c.i.hb w1, PB.2.1, w3]
  · rw [if_neg (fun d => hc ((q_lt (by omega) (by omega)).mp d)), pk_0]
    · rfl
    · intro j hj
      exact tb_0 A h (by omega)
theorem wordOf_n {z : Hs} {h w : Int32} (hw : w < 0) : tx_wordOf z h w = some 0 := by
  unfold tx_wordOf tx_wordOf_j19
  rw [if_pos hw]
theorem m7i (a : Nat) : Int32.ofNat a &&& 7 = Int32.ofNat (a % 8) := q_mask a 3
theorem m255i (a : Nat) : Int32.ofNat a &&& 255 = Int32.ofNat (a % 256) := q_mask a 8
theorem shiftOf_e {z : Hs} {i : Nat} : tx_shiftOf z (Int32.ofNat i) = some (Int32.ofNat (56 - 8 * (i % 8))) := by
  unfold tx_shiftOf
  have e1 : 8 * Int32.ofNat (i % 8) = Int32.ofNat (8 * (i % 8)) := q_mul 8 _
  have e2 : 56 - Int32.ofNat (8 * (i % 8)) = Int32.ofNat (56 - 8 * (i % 8)) := q_sub (a := 56) (by omega)
  rw [m7i, e1, e2]
theorem byteOf_e {z : Hs} {g : Gh} {o : Go} {a : Ab} {n i : Nat} (c : RC z g o a) (A : AI a) (h : txn a n) (hi : i < tl a n) : tx_byteOf z (Int32.ofNat (o.ho n)) (Int32.ofNat i) = some (Int32.ofNat (tb a n i)) := by
  obtain ⟨v, l, ws⟩ := c.txh h
  have tle := tl_le A h
  obtain ⟨w1, w2, w3⟩ := ws (i / 8) (by omega)
  have fl : ∀ j, tb a n j < 256 := fun j => tb_lt A h
  unfold tx_byteOf
  rw [c.i.first v, PB.2.1, q_sar3 (by omega), q_add, hp_bitsAt_e c.i.hb w1, PB.2.1, shiftOf_e, PB.2.1, w3, l_shr (pk_lt64 fl _) (by omega), q_32, m255i, pk_byte fl _ _ (by omega), show 8 * (i / 8) + i % 8 = i from by omega]
theorem textIn_e {z : Hs} {g : Gh} {o : Go} {a : Ab} {i : Nat} (c : RC z g o a) (A : AI a) (hi : i < 16) : wh_textIn z (Int32.ofNat i) = if kW a (a.rg i) = 3 ∨ kW a (a.rg i) = 1 then some (.inr (Int32.ofNat (hW o (a.rg i)))) else some (.inl "java/lang/UnsupportedOperationException") := by
  have ok := A.rg i hi
  have kl := kW_lt A ok
  unfold wh_textIn
  rw [c.kindAt (AI.in16 c hi) (c.rg i hi) ok, PB.2.1, c.handleAt (AI.in16 c hi) (c.rg i hi) ok, PB.2.1]
  by_cases h : kW a (a.rg i) = 3
  · rw [if_pos (show Int32.ofNat (kW a (a.rg i)) = 3 from by rw [h]; rfl), if_pos (Or.inl h)]
  · rw [if_neg (show ¬ (Int32.ofNat (kW a (a.rg i)) = 3) from q_nek 3 (by omega) (by omega) h)]
    by_cases h1 : kW a (a.rg i) = 1
    · rw [if_pos (show Int32.ofNat (kW a (a.rg i)) = 1 from by rw [h1]; rfl), if_pos (Or.inr h1)]
    · rw [if_neg (show ¬ (Int32.ofNat (kW a (a.rg i)) = 1) from q_nek 1 (by omega) (by omega) h1), if_neg (fun d => d.elim h h1)]
theorem kW_tx {a : Ab} {w : Wrd} (A : AI a) (ok : okW a w) (h : kW a w = 3 ∨ kW a w = 1) : ∃ n, w = .inr (n, 0) ∧ txn a n := by
  rcases h with h | h
  · obtain ⟨n, p, e, on, k, _, _, hp⟩ := kW_obj A ok (by omega) h
    have := hp (by omega)
    subst this
    exact ⟨n, e, Or.inr ⟨on, k⟩⟩
  · cases w with
    | inl v => exact absurd (show 0 = 1 from h) (by omega)
    | inr p =>
      rcases ok with ⟨k1, k2⟩ | ⟨k1, k2, k3⟩
      · exact ⟨0, congrArg Sum.inr (Prod.ext k1 k2), Or.inl rfl⟩
      · have e2 : kW a (.inr p) = a.kd p.1 := if_neg (by have := k1.1; omega)
        rw [e2] at h
        rcases A.kd k1 with d | d | d <;> omega
theorem tgW_t {n : Nat} : tgW (.inr (n, 0)) = if n = 0 then -1 else Int32.ofNat n := rfl
theorem md_isText_e {m : Ms} {q : Gm} {a : Ab} {i : Nat} (R : RM m q a) (A : AI a) (hi : i < 16) : md_isText m (Int32.ofNat i) = some (if kW a (a.rg i) = 3 ∨ kW a (a.rg i) = 1 then 1 else 0) := by
  have v := R.rg i hi
  have ok := A.rg i hi
  unfold md_isText md_isText_j19
  rw [R.z.tg, q_inb hi (by omega), q_nat (by omega), gdT, v.1]
  rw [show md_is m (Int32.ofNat i) 3 = some (if kW a (a.rg i) = 3 then 1 else 0) from md_is_e (k := 3) R A hi (by omega), PB.2.1]
  by_cases h : tgW (a.rg i) = -1
  · have e := (tgW_m1 A ok).mp h
    rw [if_pos h, if_pos (Or.inr (by rw [e]; rfl))]
  · rw [if_neg h]
    have n1 : ¬ (kW a (a.rg i) = 1) := by
      intro k
      obtain ⟨n, e, tx⟩ := kW_tx A ok (Or.inr k)
      rw [e] at k h
      have n0 : n = 0 := by
        rcases tx with t | ⟨t, t3⟩
        · exact t
        · have : kW a (.inr (n, 0)) = a.kd n := if_neg (by show ¬ (n = 0); have := t.1; omega)
          omega
      subst n0
      exact h rfl
    by_cases h3 : kW a (a.rg i) = 3
    · rw [if_pos h3, if_neg ne10, if_pos (Or.inl h3)]
    · rw [if_neg h3, if_pos rfl, if_neg (fun d => d.elim h3 n1)]
theorem md_bytesOf_e {m : Ms} {q : Gm} {a : Ab} {n : Nat} (R : RM m q a) (A : AI a) (h : txn a n) : md_bytesOf m (tgW (.inr (n, 0))) = some (Int32.ofNat (tl a n)) := by
  have zk := R.z.K
  have hK := R.k
  unfold md_bytesOf tl
  rw [tgW_t]
  rcases h with rfl | ⟨on, k3⟩
  · rw [if_pos rfl, if_pos rfl, if_pos (by decide)]
    rfl
  · have n0 : n ≠ 0 := by have := on.1; omega
    have hn := on.2.1
    rw [if_neg n0, if_neg n0, if_neg (q_nle0 (by omega) n0), R.z.si, q_inb (show n < q.K by omega) (by omega), gdT, q_nat (by omega), (R.ob n on).si]
set_option maxRecDepth 100000 in
theorem nb_and : ∀ b, b < 256 → vp_nar .byte (Int32.ofNat b) &&& 255 = Int32.ofNat b := by decide
theorem md_byteOf_e {m : Ms} {q : Gm} {a : Ab} {n i : Nat} (R : RM m q a) (A : AI a) (h : txn a n) (hi : i < tl a n) : md_byteOf m (tgW (.inr (n, 0))) (Int32.ofNat i) = some (Int32.ofNat (tb a n i)) := by
  have zk := R.z.K
  have hK := R.k
  rcases h with rfl | ⟨on, k3⟩
  · exact absurd hi (by unfold tl; rw [if_pos rfl]; omega)
  · have n0 : n ≠ 0 := by have := on.1; omega
    have hn := on.2.1
    have om := (R.ob n on).tx k3
    have zb := R.z.by
    unfold tl at hi
    rw [if_neg n0] at hi
    have om2 := om.2.1
    unfold md_byteOf tb
    rw [tgW_t, if_neg n0, if_neg n0, R.z.sr, q_inb (show n < q.K by omega) (by omega), gdT, q_nat (by omega), om.1, q_add, q_inb (show q.sr n + i < m.nby by omega) (by omega), gdT, q_nat (by omega), om.2.2 i hi, nb_and _ ((A.tx on k3).2.1 i)]
