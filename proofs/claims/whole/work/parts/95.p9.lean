/-! Keys alike. -/
def nW (w : Wrd) : Nat := match w with
  | .inl _ => 0
  | .inr p => p.1
def txe (a : Ab) (w v : Wrd) : Prop := tl a (nW w) = tl a (nW v) ∧ ∀ j, tb a (nW w) j = tb a (nW v) j
def alk (a : Ab) (n i : Nat) (w v : Wrd) : Prop := if (a.nt n).testBit i = true then txe a w v else w = v
def mtc (a : Ab) (n : Nat) (ws kw : Nat → Wrd) : Prop := ∀ i, i < a.nk n → alk a n i (ws i) (kw i)
theorem alk_t {a : Ab} {n i : Nat} {w v : Wrd} (h : (a.nt n).testBit i = true) : alk a n i w v ↔ txe a w v := by
  unfold alk
  rw [if_pos h]
theorem alk_f {a : Ab} {n i : Nat} {w v : Wrd} (h : ¬ (a.nt n).testBit i = true) : alk a n i w v ↔ w = v := by
  unfold alk
  rw [if_neg h]
theorem isTx_t {a : Ab} {w : Wrd} (A : AI a) (ok : okW a w) (h : isTx a w) : w = .inr (nW w, 0) ∧ txn a (nW w) := by
  cases w with
  | inl v => exact absurd h id
  | inr p =>
    rcases ok with ⟨k1, k2⟩ | ⟨k1, k2, k3⟩
    · exact ⟨congrArg Sum.inr (Prod.ext rfl k2), Or.inl k1⟩
    · have hk : a.kd p.1 = 3 := by
        rcases h with h | h
        · have := k1.1
          omega
        · exact h
      rw [if_neg (by omega)] at k3
      exact ⟨congrArg Sum.inr (Prod.ext rfl k3), Or.inr ⟨k1, hk⟩⟩
theorem isTx_k {a : Ab} {w : Wrd} (A : AI a) (ok : okW a w) : isTx a w ↔ (kW a w = 3 ∨ kW a w = 1) := by
  constructor
  · intro h
    obtain ⟨e, t⟩ := isTx_t A ok h
    rw [e]
    rcases t with t | ⟨t, k⟩
    · exact Or.inr (if_pos t)
    · exact Or.inl ((if_neg (by show ¬ (nW w = 0); have := t.1; omega)).trans k)
  · intro h
    obtain ⟨n, e, t⟩ := kW_tx A ok h
    rw [e]
    rcases t with t | ⟨t, k⟩
    · exact Or.inl t
    · exact Or.inr k
theorem tx_alike_e {z : Hs} {g : Gh} {o : Go} {a : Ab} {n1 n2 : Nat} (c : RC z g o a) (A : AI a) (t1 : txn a n1) (t2 : txn a n2) : ∃ x, tx_alike z (Int32.ofNat (o.ho n1)) (Int32.ofNat (o.ho n2)) = some x ∧ ((x = 1 ∧ tl a n1 = tl a n2 ∧ ∀ j, tb a n1 j = tb a n2 j) ∨ (x = 0 ∧ ¬ (tl a n1 = tl a n2 ∧ ∀ j, tb a n1 j = tb a n2 j))) := by
  have l1 := tl_le A t1
  have l2 := tl_le A t2
  obtain ⟨v1, e1, w1⟩ := c.txh t1
  obtain ⟨v2, e2, w2⟩ := c.txh t2
  have b1 : ∀ i, tb a n1 i < 256 := fun i => tb_lt A t1
  have b2 : ∀ i, tb a n2 i < 256 := fun i => tb_lt A t2
  unfold tx_alike
  rw [c.i.length v1, PB.2.1, c.i.length v2, PB.2.1, e1, e2]
  by_cases hl : tl a n1 = tl a n2
  · rw [if_pos (by rw [hl]), wordsFor_e (by omega), PB.2.1]
    have loop : ∀ k w fu, w + k = (tl a n1 + 7) / 8 → k < fu → (∀ j, j < 8 * w → tb a n1 j = tb a n2 j) → ∃ x, tx_alike_l32 fu (Int32.ofNat (o.ho n1)) (Int32.ofNat (o.ho n2)) (Int32.ofNat ((tl a n1 + 7) / 8)) (Int32.ofNat w) z = some x ∧ ((x = 1 ∧ tl a n1 = tl a n2 ∧ ∀ j, tb a n1 j = tb a n2 j) ∨ (x = 0 ∧ ¬ (tl a n1 = tl a n2 ∧ ∀ j, tb a n1 j = tb a n2 j))) := by
      intro k
      induction k with
      | zero =>
        intro w fu hw hfu hj
        obtain ⟨f, rfl⟩ : ∃ f, fu = f + 1 := ⟨fu - 1, by omega⟩
        refine ⟨1, ?_, Or.inl ⟨rfl, hl, ?_⟩⟩
        · rw [tx_alike_l32, if_pos ((q_le (by omega) (by omega)).mpr (by omega))]
        · intro j
          by_cases hjw : j < 8 * w
          · exact hj j hjw
          · rw [tb_0 A t1 (by omega), tb_0 A t2 (by omega)]
      | succ k ih =>
        intro w fu hw hfu hj
        obtain ⟨f, rfl⟩ : ∃ f, fu = f + 1 := ⟨fu - 1, by omega⟩
        obtain ⟨q1, _, q2⟩ := w1 w (by omega)
        obtain ⟨r1, _, r2⟩ := w2 w (by omega)
        have e4 : Int32.ofNat w + 1 = Int32.ofNat (w + 1) := q_add w 1
        rw [tx_alike_l32, if_neg (fun d => absurd ((q_le (by omega) (by omega)).mp d) (by omega)), c.i.first v1, PB.2.1, c.i.first v2, q_add, hp_bitsAt_e c.i.hb q1, PB.2.1, PB.2.1, q_add, hp_bitsAt_e c.i.hb r1, PB.2.1, q2, r2, e4]
        rcases pk_cmp b1 b2 w with ⟨p1, p2⟩ | ⟨j, hj8, p1, p2, p3, p4⟩
        · rw [if_pos (show lg_cmp (Int64.ofNat (pk (tb a n1) w)) (Int64.ofNat (pk (tb a n2) w)) = 0 from by rw [lg_cmp0, p1])]
          refine ih (w + 1) f (by omega) (by omega) ?_
          intro i hi
          by_cases hiw : i < 8 * w
          · exact hj i hiw
          · have := p2 (i - 8 * w) (by omega)
            rw [show 8 * w + (i - 8 * w) = i from by omega] at this
            exact this
        · rw [if_neg (show ¬ (lg_cmp (Int64.ofNat (pk (tb a n1) w)) (Int64.ofNat (pk (tb a n2) w)) = 0) from by rw [lg_cmp0]; exact fun d => p4 ((l_eq (pk_lt64 b1 w) (pk_lt64 b2 w)).mp d))]
          exact ⟨0, rfl, Or.inr ⟨rfl, fun d => p2 (d.2 _)⟩⟩
    exact loop ((tl a n1 + 7) / 8) 0 FU (by omega) (by unfold FU; omega) (fun j hj => by omega)
  · rw [if_neg (q_nek _ (by omega) (by omega) hl)]
    exact ⟨0, rfl, Or.inr ⟨rfl, fun d => hl d.1⟩⟩
theorem OrdR_0 {a : Ab} {n1 n2 : Nat} {x : Int32} (A : AI a) (t1 : txn a n1) (t2 : txn a n2) (h : OrdR (tb a n1) (tb a n2) (tl a n1) (tl a n2) x) : x = 0 ↔ (tl a n1 = tl a n2 ∧ ∀ j, tb a n1 j = tb a n2 j) := by
  rcases h with ⟨d, d1, d2, d3, d4, d5⟩ | ⟨d1, d2⟩
  · constructor
    · intro hx
      rw [d5] at hx
      split at hx
      · exact absurd hx (by decide)
      · exact absurd hx (by decide)
    · intro hh
      exact absurd (hh.2 d) d4
  · constructor
    · intro hx
      rw [d2] at hx
      by_cases q1 : tl a n1 < tl a n2
      · rw [if_pos q1] at hx
        exact absurd hx (by decide)
      · rw [if_neg q1] at hx
        by_cases q2 : tl a n1 = tl a n2
        · refine ⟨q2, ?_⟩
          intro j
          by_cases hj : j < tl a n1
          · exact d1 j hj (by omega)
          · rw [tb_0 A t1 (by omega), tb_0 A t2 (by omega)]
        · rw [if_neg q2] at hx
          exact absurd hx (by decide)
    · intro hh
      rw [d2, if_neg (by omega), if_pos hh.1]
theorem bit_e : ∀ b, b < 16 → ∀ i, i < 4 → ((Int32.ofNat b >>> (Int32.ofNat i &&& 31)) &&& 1) = if b.testBit i = true then 1 else 0 := by decide
/-- one key word, both sides -/
theorem md_alikeWord_e {m : Ms} {q : Gm} {a : Ab} {n i : Nat} {w v : Wrd} (R : RM m q a) (A : AI a) (on : obj a n) (k4 : a.kd n = 4) (hi : i < a.nk n) (ow : okW a w) (ov : okW a v) (tw : (a.nt n).testBit i = true → isTx a w ∧ isTx a v) : ∃ x, md_alikeWord m (Int32.ofNat n) (Int32.ofNat i) (tgW w) (vlW w) (tgW v) (vlW v) = some x ∧ ((x = 1 ∧ alk a n i w v) ∨ (x = 0 ∧ ¬ alk a n i w v)) := by
  have okm := A.mp on k4
  have nk := okm.nk
  have hb := bit_e (a.nt n) (nt_lt okm) i (by omega)
  have zk := R.z.K
  have hK := R.k
  have hn := on.2.1
  unfold md_alikeWord md_alikeWord_j49 md_alikeWord_j53
  rw [R.z.te, q_inb (show n < q.K by omega) (by omega), gdT, q_nat (by omega), ((R.ob n on).mp k4).2.2.1, hb]
  by_cases ht : (a.nt n).testBit i = true
  · rw [if_pos ht, if_pos rfl]
    obtain ⟨t1, t2⟩ := tw ht
    obtain ⟨e1, x1⟩ := isTx_t A ow t1
    obtain ⟨e2, x2⟩ := isTx_t A ov t2
    obtain ⟨y, f1, o1⟩ := md_order_r R A x1 x2
    have hz := OrdR_0 A x1 x2 o1
    have g1 : tgW w = tgW (.inr (nW w, 0)) := congrArg tgW e1
    have g2 : tgW v = tgW (.inr (nW v, 0)) := congrArg tgW e2
    rw [g1, g2, f1, PB.2.1]
    by_cases hy : y = 0
    · rw [if_pos hy]
      exact ⟨1, rfl, Or.inl ⟨rfl, (alk_t ht).mpr (hz.mp hy)⟩⟩
    · rw [if_neg hy]
      exact ⟨0, rfl, Or.inr ⟨rfl, fun d => hy (hz.mpr ((alk_t ht).mp d))⟩⟩
  · rw [if_neg ht, if_neg (show ¬ ((0 : Int32) = 1) from by decide)]
    have tv := tv_same A ow ov
    by_cases e1 : tgW w = tgW v
    · rw [if_pos e1]
      by_cases e2 : tgW w = -1
      · rw [if_pos e2]
        exact ⟨1, rfl, Or.inl ⟨rfl, (alk_f ht).mpr (tv.mp ⟨e1, Or.inl e2⟩)⟩⟩
      · rw [if_neg e2]
        by_cases e3 : vlW w = vlW v
        · rw [if_pos (show lg_cmp (vlW w) (vlW v) = 0 from by rw [lg_cmp0]; exact e3)]
          exact ⟨1, rfl, Or.inl ⟨rfl, (alk_f ht).mpr (tv.mp ⟨e1, Or.inr e3⟩)⟩⟩
        · rw [if_neg (show ¬ lg_cmp (vlW w) (vlW v) = 0 from by rw [lg_cmp0]; exact e3)]
          exact ⟨0, rfl, Or.inr ⟨rfl, fun d => e3 ((tv.mpr ((alk_f ht).mp d)).2.resolve_left e2)⟩⟩
    · rw [if_neg e1]
      exact ⟨0, rfl, Or.inr ⟨rfl, fun d => e1 (tv.mpr ((alk_f ht).mp d)).1⟩⟩
/-- the class's keys -/
theorem alikeKeys_e {z : Hs} {g : Gh} {o : Go} {a : Ab} {n x y : Nat} {ws kw : Nat → Wrd} (c : RC z g o a) (A : AI a) (on : obj a n) (k4 : a.kd n = 4) (hx : ∀ i, i < a.nk n → x + i < z.nbt ∧ wat z o (x + i) (ws i) ∧ okW a (ws i)) (hy : ∀ i, i < a.nk n → y + i < z.nbt ∧ wat z o (y + i) (kw i) ∧ okW a (kw i)) (tw : ∀ i, i < a.nk n → (a.nt n).testBit i = true → isTx a (ws i) ∧ isTx a (kw i)) : ∃ r, mp_alikeKeys z (Int32.ofNat (o.ho n)) (Int32.ofNat x) (Int32.ofNat y) = some r ∧ ((r = 1 ∧ mtc a n ws kw) ∨ (r = 0 ∧ ¬ mtc a n ws kw)) := by
  have okm := A.mp on k4
  have F := c.mf on k4
  have nk := okm.nk
  have loop : ∀ k i fu, i + k = a.nk n → k < fu → (∀ l, l < i → alk a n l (ws l) (kw l)) → ∃ r, mp_alikeKeys_l3 fu (Int32.ofNat (o.ho n)) (Int32.ofNat x) (Int32.ofNat y) (Int32.ofNat i) z = some r ∧ ((r = 1 ∧ mtc a n ws kw) ∨ (r = 0 ∧ ¬ mtc a n ws kw)) := by
    intro k
    induction k with
    | zero =>
      intro i fu hi hfu hl
      obtain ⟨f, rfl⟩ : ∃ f, fu = f + 1 := ⟨fu - 1, by omega⟩
      rw [mp_alikeKeys_l3, keyWords_e F okm, PB.2.1, if_pos ((q_le (by omega) (by omega)).mpr (by omega))]
      exact ⟨1, rfl, Or.inl ⟨rfl, fun l hl2 => hl l (by omega)⟩⟩
    | succ k ih =>
      intro i fu hi hfu hl
      obtain ⟨f, rfl⟩ : ∃ f, fu = f + 1 := ⟨fu - 1, by omega⟩
      obtain ⟨x1, x2, x3⟩ := hx i (by omega)
      obtain ⟨y1, y2, y3⟩ := hy i (by omega)
      have e1 : Int32.ofNat i + 1 = Int32.ofNat (i + 1) := q_add i 1
      have next : alk a n i (ws i) (kw i) → ∃ r, mp_alikeKeys_l3 f (Int32.ofNat (o.ho n)) (Int32.ofNat x) (Int32.ofNat y) (Int32.ofNat (i + 1)) z = some r ∧ ((r = 1 ∧ mtc a n ws kw) ∨ (r = 0 ∧ ¬ mtc a n ws kw)) := by
        intro h
        refine ih (i + 1) f (by omega) (by omega) ?_
        intro l hl2
        by_cases hli : l = i
        · rw [hli]; exact h
        · exact hl l (by omega)
      rw [mp_alikeKeys_l3, keyWords_e F okm, PB.2.1, if_neg (fun d => absurd ((q_le (by omega) (by omega)).mp d) (by omega)), isTextual_e F okm (by omega), PB.2.1, q_add, q_add, hp_sameWords_e c.i.hb x1 y1, PB.2.1, c.handleAt x1 x2 x3, PB.2.1, c.handleAt y1 y2 y3, PB.2.1]
      unfold mp_alikeKeys_j70
      rw [e1]
      by_cases ht : (a.nt n).testBit i = true
      · rw [if_pos ht, if_neg ne10]
        obtain ⟨t1, t2⟩ := tw i (by omega) ht
        obtain ⟨q1, q2⟩ := isTx_t A x3 t1
        obtain ⟨r1, r2⟩ := isTx_t A y3 t2
        have hw1 : hW o (ws i) = o.ho (nW (ws i)) := by
          rw [q1]; rfl
        have hw2 : hW o (kw i) = o.ho (nW (kw i)) := by
          rw [r1]; rfl
        obtain ⟨u, u1, u2⟩ := tx_alike_e c A q2 r2
        rw [hw1, hw2, u1, PB.2.1]
        rcases u2 with ⟨rfl, u3⟩ | ⟨rfl, u3⟩
        · rw [if_neg ne10]
          refine next ?_
          unfold alk
          rw [if_pos ht]
          exact u3
        · rw [if_pos rfl]
          refine ⟨0, rfl, Or.inr ⟨rfl, fun d => ?_⟩⟩
          have := d i (by omega)
          unfold alk at this
          rw [if_pos ht] at this
          exact u3 this
      · rw [if_neg ht, if_pos rfl]
        have sm := c.same x3 y3
        rw [← x2.1, ← x2.2, ← y2.1, ← y2.2] at sm
        by_cases hs : z.arf (x + i) = z.arf (y + i) ∧ z.abt (x + i) = z.abt (y + i)
        · rw [if_pos hs, if_neg ne10]
          refine next ?_
          unfold alk
          rw [if_neg ht]
          exact sm.mp hs
        · rw [if_neg hs, if_pos rfl]
          refine ⟨0, rfl, Or.inr ⟨rfl, fun d => ?_⟩⟩
          have := d i (by omega)
          unfold alk at this
          rw [if_neg ht] at this
          exact hs (sm.mpr this)
  unfold mp_alikeKeys
  rw [show (0 : Int32) = Int32.ofNat 0 from rfl]
  exact loop (a.nk n) 0 FU (by omega) (by unfold FU; omega) (fun l hl => by omega)
