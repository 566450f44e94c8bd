/-! Textual keys; the entry of a key, on both sides. -/
def tkk (a : Ab) (n : Nat) (kw : Nat → Wrd) : Prop := ∀ i, i < a.nk n → (a.nt n).testBit i = true → isTx a (kw i)
theorem hasTextualKey_e {z : Hs} {g : Gh} {o : Go} {a : Ab} {n y : Nat} {kw : Nat → Wrd} (c : RC z g o a) (A : AI a) (on : obj a n) (k4 : a.kd n = 4) (hy : ∀ i, i < a.nk n → y + i < z.nbt ∧ wat z o (y + i) (kw i) ∧ okW a (kw i)) : ∃ r, mp_hasTextualKey z (Int32.ofNat (o.ho n)) (Int32.ofNat y) = some r ∧ ((r = 1 ∧ tkk a n kw) ∨ (r = 0 ∧ ¬ tkk a n kw)) := by
  have okm := A.mp on k4
  have F := c.mf on k4
  have nk := okm.nk
  have loop : ∀ k i fu, i + k = a.nk n → k < fu → (∀ l, l < i → (a.nt n).testBit l = true → isTx a (kw l)) → ∃ r, mp_hasTextualKey_l2 fu (Int32.ofNat (o.ho n)) (Int32.ofNat y) (Int32.ofNat i) z = some r ∧ ((r = 1 ∧ tkk a n kw) ∨ (r = 0 ∧ ¬ tkk a n kw)) := by
    intro k
    induction k with
    | zero =>
      intro i fu hi hfu hl
      obtain ⟨f, rfl⟩ : ∃ f, fu = f + 1 := ⟨fu - 1, by omega⟩
      rw [mp_hasTextualKey_l2, keyWords_e F okm, PB.2.1, if_pos ((q_le (by omega) (by omega)).mpr (by omega))]
      exact ⟨1, rfl, Or.inl ⟨rfl, fun l hl2 => hl l (by omega)⟩⟩
    | succ k ih =>
      intro i fu hi hfu hl
      obtain ⟨f, rfl⟩ : ∃ f, fu = f + 1 := ⟨fu - 1, by omega⟩
      obtain ⟨y1, y2, y3⟩ := hy i (by omega)
      have e1 : Int32.ofNat i + 1 = Int32.ofNat (i + 1) := q_add i 1
      have klt := kW_lt A y3
      have next : ((a.nt n).testBit i = true → isTx a (kw i)) → ∃ r, mp_hasTextualKey_l2 f (Int32.ofNat (o.ho n)) (Int32.ofNat y) (Int32.ofNat (i + 1)) z = some r ∧ ((r = 1 ∧ tkk a n kw) ∨ (r = 0 ∧ ¬ tkk a n kw)) := by
        intro h
        refine ih (i + 1) f (by omega) (by omega) ?_
        intro l hl2
        by_cases hli : l = i
        · rw [hli]; exact h
        · exact hl l (by omega)
      rw [mp_hasTextualKey_l2, keyWords_e F okm, PB.2.1, if_neg (fun d => absurd ((q_le (by omega) (by omega)).mp d) (by omega)), q_add, c.kindAt y1 y2 y3, PB.2.1, isTextual_e F okm (by omega), PB.2.1, e1]
      have ik := isTx_k A y3
      by_cases ht : (a.nt n).testBit i = true
      · rw [if_pos ht, if_neg ne10]
        by_cases k3 : kW a (kw i) = 3
        · rw [if_pos (by rw [k3]; rfl)]
          exact next (fun _ => ik.mpr (Or.inl k3))
        · rw [if_neg (show ¬ (Int32.ofNat (kW a (kw i)) = 3) from q_nek 3 (by omega) (by omega) k3)]
          by_cases k1 : kW a (kw i) = 1
          · rw [if_pos (by rw [k1]; rfl)]
            exact next (fun _ => ik.mpr (Or.inr k1))
          · rw [if_neg (show ¬ (Int32.ofNat (kW a (kw i)) = 1) from q_nek 1 (by omega) (by omega) k1)]
            refine ⟨0, rfl, Or.inr ⟨rfl, fun d => ?_⟩⟩
            exact (ik.mp (d i (by omega) ht)).elim k3 k1
      · rw [if_neg ht, if_pos rfl]
        exact next (fun d => absurd d ht)
  unfold mp_hasTextualKey
  rw [show (0 : Int32) = Int32.ofNat 0 from rfl]
  exact loop (a.nk n) 0 FU (by omega) (by unfold FU; omega) (fun l hl => by omega)
theorem md_isTextual_e {m : Ms} {q : Gm} {a : Ab} {n s p ir jr : Nat} (R : RM m q a) (A : AI a) (hi : ir < 16) (hj : jr < 16) (gi : a.rg ir = .inr (n, 0)) (on : obj a n) (k4 : a.kd n = 4) (gj : a.rg jr = .inr (s, p)) (os : obj a s) (k2 : a.kd s = 2) (hl : p + (a.nk n + a.nv n) ≤ a.ln s) : ∃ r, md_isTextual m (Int32.ofNat ir) (Int32.ofNat jr) = some r ∧ ((r = 1 ∧ tkk a n (fun i => a.wo s (p + i))) ∨ (r = 0 ∧ ¬ tkk a n (fun i => a.wo s (p + i)))) := by
  have okm := A.mp on k4
  have okr := A.rw os k2
  have nk := okm.nk
  have zk := R.z.K
  have hK := R.k
  have hn := on.2.1
  have n0 : n ≠ 0 := by have := on.1; omega
  have tgn : m.atg ir = Int32.ofNat n := by rw [(R.rg ir hi).1, gi]; exact tgW_o n0
  have om := (R.ob n on).mp k4
  have or2 := (R.ob s os).rw k2
  have zw := R.z.wl
  have or1 := or2.2.1
  have step : ∀ i f x3, i < a.nk n → md_isTextual_l5 (f + 1) (Int32.ofNat ir) (Int32.ofNat jr) x3 (Int32.ofNat i) m = if x3 = 0 then md_isTextual_l5 f (Int32.ofNat ir) (Int32.ofNat jr) 0 (Int32.ofNat (i + 1)) m else if ¬ ((a.nt n).testBit i = true) then md_isTextual_l5 f (Int32.ofNat ir) (Int32.ofNat jr) 1 (Int32.ofNat (i + 1)) m else if kW a (a.wo s (p + i)) = 3 ∨ kW a (a.wo s (p + i)) = 1 then md_isTextual_l5 f (Int32.ofNat ir) (Int32.ofNat jr) 1 (Int32.ofNat (i + 1)) m else md_isTextual_l5 f (Int32.ofNat ir) (Int32.ofNat jr) 0 (Int32.ofNat (i + 1)) m := by
    intro i f x3 hi2
    have e1 : Int32.ofNat i + 1 = Int32.ofNat (i + 1) := q_add i 1
    have hb := bit_e (a.nt n) (nt_lt okm) i (by omega)
    have ok := okr.2 (p + i) (by omega)
    rw [md_isTextual_l5, R.z.tg, q_inb hi (by omega), q_nat (show ir < 2147483648 by omega), tgn, R.z.ke, q_inb (show n < q.K by omega) (by omega), q_nat (show n < 2147483648 by omega), om.1, if_neg (fun d => absurd ((q_le (by omega) (by omega)).mp d) (by omega)), md_at_e (x := p + i) R A hj gj os k2 (q_add p i), PB.2.1, q_inb (show q.sr s + (p + i) < m.nwt by omega) (by omega), q_nat (show q.sr s + (p + i) < 2147483648 by omega), R.z.te, q_inb (show n < q.K by omega) (by omega), om.2.2.1, hb, (or2.2.2 (p + i) (by omega)).1]
    unfold md_isTextual_j84 md_isTextual_j80
    rw [e1]
    simp only [gdT]
    by_cases hx : x3 = 0
    · rw [if_pos hx, if_pos hx]
    · rw [if_neg hx, if_neg hx]
      by_cases ht : (a.nt n).testBit i = true
      · rw [if_pos ht, if_neg ne10, if_neg (show ¬ ¬ ((a.nt n).testBit i = true) from fun d => d ht)]
        obtain ⟨w, hw⟩ : ∃ w, w = a.wo s (p + i) := ⟨_, rfl⟩
        rw [← hw] at ok ⊢
        cases w with
        | inl v =>
          rw [if_neg (show ¬ (tgW (.inl v) = -1) from show ¬ ((0 : Int32) = -1) from by decide), if_pos (show tgW (.inl v) ≤ 0 from show (0 : Int32) ≤ 0 from by decide), if_neg (show ¬ (kW a (.inl v) = 3 ∨ kW a (.inl v) = 1) from by intro d; have : kW a (.inl v) = 0 := rfl; omega)]
        | inr t =>
          rcases ok with ⟨k1, k2'⟩ | ⟨k1, k2', k3⟩
          · rw [if_pos (show tgW (.inr t) = -1 from if_pos k1), if_pos (show kW a (.inr t) = 3 ∨ kW a (.inr t) = 1 from Or.inr (if_pos k1))]
          · have t0 : t.1 ≠ 0 := by have := k1.1; omega
            have tle := k1.2.1
            have tt : tgW (.inr t) = Int32.ofNat t.1 := if_neg t0
            have kt : kW a (.inr t) = a.kd t.1 := if_neg t0
            have kk := kW_lt (w := .inr t) A (Or.inr ⟨k1, k2', k3⟩)
            have kk1 := A.kd k1
            rw [tt, kt, if_neg (Int32.neg1_ne (by omega)), if_neg (q_nle0 (by omega) (by omega)), R.z.so, q_inb (show t.1 < q.K by omega) (by omega), gdT, q_nat (by omega), (R.ob t.1 k1).so]
            by_cases h3 : a.kd t.1 = 3
            · rw [if_pos (by rw [h3]; rfl), if_pos (Or.inl h3)]
            · rw [if_neg (show ¬ (Int32.ofNat (a.kd t.1) = 3) from q_nek 3 (by omega) (by omega) h3), if_neg (by omega)]
      · rw [if_neg ht, if_pos rfl, if_pos ht]
  have fin : ∀ f x3, zbo x3 = true → md_isTextual_l5 (f + 1) (Int32.ofNat ir) (Int32.ofNat jr) x3 (Int32.ofNat (a.nk n)) m = some x3 := by
    intro f x3 hz
    rw [md_isTextual_l5, R.z.tg, q_inb hi (by omega), q_nat (show ir < 2147483648 by omega), tgn, R.z.ke, q_inb (show n < q.K by omega) (by omega), q_nat (show n < 2147483648 by omega), om.1, if_pos ((q_le (by omega) (by omega)).mpr (Nat.le_refl _)), hz, gdT, gdT, gdT]
  have loop0 : ∀ k i fu, i + k = a.nk n → k < fu → md_isTextual_l5 fu (Int32.ofNat ir) (Int32.ofNat jr) 0 (Int32.ofNat i) m = some 0 := by
    intro k
    induction k with
    | zero =>
      intro i fu hi2 hfu
      obtain ⟨f, rfl⟩ : ∃ f, fu = f + 1 := ⟨fu - 1, by omega⟩
      rw [show i = a.nk n from by omega]
      exact fin f 0 (by decide)
    | succ k ih =>
      intro i fu hi2 hfu
      obtain ⟨f, rfl⟩ : ∃ f, fu = f + 1 := ⟨fu - 1, by omega⟩
      rw [step i f 0 (by omega), if_pos rfl]
      exact ih (i + 1) f (by omega) (by omega)
  have loop1 : ∀ k i fu, i + k = a.nk n → k < fu → (∀ l, l < i → (a.nt n).testBit l = true → isTx a (a.wo s (p + l))) → ∃ r, md_isTextual_l5 fu (Int32.ofNat ir) (Int32.ofNat jr) 1 (Int32.ofNat i) m = some r ∧ ((r = 1 ∧ tkk a n (fun i => a.wo s (p + i))) ∨ (r = 0 ∧ ¬ tkk a n (fun i => a.wo s (p + i)))) := by
    intro k
    induction k with
    | zero =>
      intro i fu hi2 hfu hall
      obtain ⟨f, rfl⟩ : ∃ f, fu = f + 1 := ⟨fu - 1, by omega⟩
      rw [show i = a.nk n from by omega, fin f 1 (by decide)]
      exact ⟨1, rfl, Or.inl ⟨rfl, fun l hl2 => hall l (by omega)⟩⟩
    | succ k ih =>
      intro i fu hi2 hfu hall
      obtain ⟨f, rfl⟩ : ∃ f, fu = f + 1 := ⟨fu - 1, by omega⟩
      have ok := okr.2 (p + i) (by omega)
      have next : ((a.nt n).testBit i = true → isTx a (a.wo s (p + i))) → ∃ r, md_isTextual_l5 f (Int32.ofNat ir) (Int32.ofNat jr) 1 (Int32.ofNat (i + 1)) m = some r ∧ ((r = 1 ∧ tkk a n (fun i => a.wo s (p + i))) ∨ (r = 0 ∧ ¬ tkk a n (fun i => a.wo s (p + i)))) := by
        intro h
        refine ih (i + 1) f (by omega) (by omega) ?_
        intro l hl2
        by_cases hli : l = i
        · rw [hli]; exact h
        · exact hall l (by omega)
      rw [step i f 1 (by omega), if_neg ne10]
      by_cases ht : (a.nt n).testBit i = true
      · rw [if_neg (fun d => d ht)]
        by_cases hk : kW a (a.wo s (p + i)) = 3 ∨ kW a (a.wo s (p + i)) = 1
        · rw [if_pos hk]
          exact next (fun _ => (isTx_k A ok).mpr hk)
        · rw [if_neg hk, loop0 k (i + 1) f (by omega) (by omega)]
          refine ⟨0, rfl, Or.inr ⟨rfl, fun d => hk ?_⟩⟩
          exact (isTx_k A ok).mp (d i (by omega) ht)
      · rw [if_pos ht]
        exact next (fun d => absurd d ht)
  unfold md_isTextual
  rw [show (0 : Int32) = Int32.ofNat 0 from rfl]
  exact loop1 (a.nk n) 0 FU (by omega) (by unfold FU; omega) (fun l hl => by omega)
