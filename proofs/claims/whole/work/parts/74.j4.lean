/-! Rows: what both sides read and write. -/
theorem lg_lt {x y : Int64} : (lg_cmp x y < 0) ↔ x < y := by
  unfold lg_cmp
  by_cases h : x > y
  · rw [if_pos h]
    exact ⟨fun c => absurd c (by decide), fun c => absurd (Int64.lt_trans h c) Int64.lt_irrefl⟩
  · rw [if_neg h]
    by_cases h2 : x = y
    · rw [if_pos h2]
      exact ⟨fun c => absurd c (by decide), fun c => absurd (h2 ▸ c) Int64.lt_irrefl⟩
    · rw [if_neg h2]
      exact ⟨fun _ => Int64.lt_of_le_of_ne (Int64.not_lt.mp h) h2, fun _ => by decide⟩
theorem lg_ge {x y : Int64} : ((0 : Int32) ≤ lg_cmp x y) ↔ y ≤ x := by
  have h := lg_lt (x := x) (y := y)
  rw [← Int32.not_lt, h, Int64.not_lt]
theorem lg_gt {x y : Int64} : ((0 : Int32) < lg_cmp x y) ↔ y < x := by
  have h := lg_le (x := x) (y := y)
  rw [← Int32.not_le, h, Int64.not_le]
theorem ix_c {X : Int64} {n : Nat} (hn : n < 2147483648) (h0 : ¬ X < 0) (h1 : X < Int64.ofNat n) : ∃ q, q < n ∧ X = Int64.ofNat q := by
  have h0 : 0 ≤ X := Int64.not_lt.mp h0
  refine ⟨X.toNatClampNeg, ?_, (Int64.ofNat_toNatClampNeg X h0).symm⟩
  have h2 := X.toNatClampNeg_lt
  rw [← Int64.ofNat_toNatClampNeg X h0] at h1
  exact (l_lt (by omega) (by omega)).mp h1
theorem kW_c {a : Ab} {w : Wrd} (A : AI a) (ok : okW a w) : kW a w = 0 ∨ kW a w = 1 ∨ ∃ n p, w = .inr (n, p) ∧ obj a n ∧ kW a w = a.kd n ∧ p ≤ 4096 ∧ (a.kd n = 2 → p ≤ a.ln n) ∧ (a.kd n ≠ 2 → p = 0) := by
  cases w with
  | inl v => exact Or.inl rfl
  | inr p =>
    rcases ok with ⟨k1, k2⟩ | ⟨k1, k2, k3⟩
    · exact Or.inr (Or.inl (if_pos k1))
    · have p0 : p.1 ≠ 0 := by have := k1.1; omega
      refine Or.inr (Or.inr ⟨p.1, p.2, rfl, k1, if_neg p0, k2, fun h => ?_, fun h => ?_⟩)
      · rw [if_pos h] at k3; exact k3
      · rw [if_neg h] at k3; exact k3
theorem kW_lt {a : Ab} {w : Wrd} (A : AI a) (ok : okW a w) : kW a w ≤ 4 := by
  rcases kW_c A ok with h | h | ⟨n, p, _, on, h, _⟩
  · omega
  · omega
  · rcases A.kd on with c | c | c <;> omega
theorem kW_obj {a : Ab} {w : Wrd} (A : AI a) (ok : okW a w) {k : Nat} (hk : 2 ≤ k) (h : kW a w = k) : ∃ n p, w = .inr (n, p) ∧ obj a n ∧ a.kd n = k ∧ p ≤ 4096 ∧ (k = 2 → p ≤ a.ln n) ∧ (k ≠ 2 → p = 0) := by
  rcases kW_c A ok with c | c | ⟨n, p, e, on, c, l1, l2, l3⟩
  · omega
  · omega
  · have : a.kd n = k := c.symm.trans h
    exact ⟨n, p, e, on, this, l1, fun h2 => l2 (by omega), fun h2 => l3 (by omega)⟩
theorem md_is_e {m : Ms} {q : Gm} {a : Ab} {i k : Nat} (R : RM m q a) (A : AI a) (hi : i < 16) (hk : 2 ≤ k ∧ k ≤ 4) : md_is m (Int32.ofNat i) (Int32.ofNat k) = some (if kW a (a.rg i) = k then 1 else 0) := by
  have v := R.rg i hi
  have ok := A.rg i hi
  have Z := R.z
  have zk := Z.K
  have hK := R.k
  have md := A.md
  have tn := A.tn
  unfold md_is md_is_j28
  rw [Z.tg, Z.so, q_inb hi (by omega), q_nat (show i < 2147483648 by omega), v.1, gdT, gdT]
  generalize a.rg i = w at ok
  cases w with
  | inl x =>
    rw [if_pos (show tgW (.inl x) ≤ 0 from by show (0 : Int32) ≤ 0; decide), if_neg (show ¬ (kW a (.inl x) = k) from by show ¬ (0 = k); omega)]
  | inr p =>
    rcases ok with ⟨k1, k2⟩ | ⟨k1, k2, k3⟩
    · have e1 : tgW (.inr p) = -1 := by
        show (if p.1 = 0 then (-1 : Int32) else Int32.ofNat p.1) = _
        rw [if_pos k1]
      have e2 : kW a (.inr p) = 1 := if_pos k1
      rw [e1, if_pos (by decide), e2, if_neg (by omega)]
    · have p0 : p.1 ≠ 0 := by have := k1.1; omega
      have e1 : tgW (.inr p) = Int32.ofNat p.1 := by
        show (if p.1 = 0 then (-1 : Int32) else Int32.ofNat p.1) = _
        rw [if_neg p0]
      have e2 : kW a (.inr p) = a.kd p.1 := if_neg p0
      have hle := k1.2.1
      have kd4 : a.kd p.1 ≤ 4 := by rcases A.kd k1 with c | c | c <;> omega
      rw [e1, if_neg (q_nle0 (by omega) p0), q_inb (show p.1 < q.K by omega) (by omega), gdT, q_nat (by omega), (R.ob p.1 k1).so, e2]
      by_cases h : a.kd p.1 = k
      · rw [if_pos h, if_pos (by rw [h])]
      · rw [if_neg h, if_neg (q_nek k (by omega) (by omega) h)]
theorem kdI {k j : Nat} (hk : k ≤ 4) (hj : j ≤ 4) : (Int32.ofNat k = Int32.ofNat j) ↔ k = j := q_eq (by omega) (by omega)
theorem rowIn_e {z : Hs} {g : Gh} {o : Go} {a : Ab} {i : Nat} (c : RC z g o a) (A : AI a) (hi : i < 16) : wh_rowIn z (Int32.ofNat i) = if kW a (a.rg i) = 2 then some (.inr (Int32.ofNat (hW o (a.rg i)))) else some (.inl "java/lang/UnsupportedOperationException") := by
  have ok := A.rg i hi
  have kl := kW_lt A ok
  unfold wh_rowIn
  rw [c.kindAt (AI.in16 c hi) (c.rg i hi) ok, PB.2.1, c.handleAt (AI.in16 c hi) (c.rg i hi) ok, PB.2.1]
  by_cases h : kW a (a.rg i) = 2
  · rw [if_pos (show Int32.ofNat (kW a (a.rg i)) = 2 from by rw [h]; rfl), if_pos h]
  · rw [if_neg (show ¬ (Int32.ofNat (kW a (a.rg i)) = 2) from q_nek 2 (by omega) (by omega) h), if_neg h]
theorem mapIn_e {z : Hs} {g : Gh} {o : Go} {a : Ab} {i : Nat} (c : RC z g o a) (A : AI a) (hi : i < 16) : wh_mapIn z (Int32.ofNat i) = if kW a (a.rg i) = 4 then some (.inr (Int32.ofNat (hW o (a.rg i)))) else some (.inl "java/lang/UnsupportedOperationException") := by
  have ok := A.rg i hi
  have kl := kW_lt A ok
  unfold wh_mapIn
  rw [c.kindAt (AI.in16 c hi) (c.rg i hi) ok, PB.2.1, c.handleAt (AI.in16 c hi) (c.rg i hi) ok, PB.2.1]
  by_cases h : kW a (a.rg i) = 4
  · rw [if_pos (show Int32.ofNat (kW a (a.rg i)) = 4 from by rw [h]; rfl), if_pos h]
  · rw [if_neg (show ¬ (Int32.ofNat (kW a (a.rg i)) = 4) from q_nek 4 (by omega) (by omega) h), if_neg h]
/-- the place behind the reference in register i -/
theorem wordBehind_e {z : Hs} {g : Gh} {o : Go} {a : Ab} {i n p : Nat} {k : Int32} (c : RC z g o a) (A : AI a) (hi : i < 16) (e : a.rg i = .inr (n, p)) (on : obj a n) (k2 : a.kd n = 2) (hp : p ≤ 4096) :
    wh_wordBehind z (Int32.ofNat i) k = if ¬ (Int64.ofNat p + k.toInt64 < 0) ∧ Int64.ofNat p + k.toInt64 < Int64.ofNat (a.ln n) then some (.inr (Int32.ofNat (g.st (o.ho n) + 1) + (Int64.ofNat p + k.toInt64).toInt32)) else some (.inl "java/lang/IndexOutOfBoundsException") := by
  have ok := A.rg i hi
  have ob := c.ob n on
  have v : hv g (o.ho n) := Or.inr ob.m
  have kk : kW a (a.rg i) = 2 := by
    rw [e]
    exact (if_neg (by show ¬ (n = 0); have := on.1; omega)).trans k2
  have hh : hW o (a.rg i) = o.ho n := by rw [e]; rfl
  have pp : pW (a.rg i) = p := by rw [e]; rfl
  have ll := (A.rw on k2).1
  have RR := ob.rw k2
  unfold wh_wordBehind
  rw [rowIn_e c A hi, if_pos kk, PB.2.2.2.1, c.placeAt (AI.in16 c hi) (c.rg i hi) ok, PB.2.1, hh, pp, q_64 (by omega), c.i.length v, PB.2.1, c.i.first v, PB.2.1, RR.1, q_64 (by omega)]
  by_cases h0 : Int64.ofNat p + k.toInt64 < 0
  · rw [if_pos (lg_lt.mpr h0), if_neg (fun d => d.1 h0)]
  · rw [if_neg (fun d => h0 (lg_lt.mp d))]
    by_cases h1 : Int64.ofNat p + k.toInt64 < Int64.ofNat (a.ln n)
    · rw [if_pos (lg_lt.mpr h1), if_pos ⟨h0, h1⟩]
    · rw [if_neg (fun d => h1 (lg_lt.mp d)), if_neg (fun d => h1 d.2)]
theorem md_hasWord_e {m : Ms} {q : Gm} {a : Ab} {i n p : Nat} {k : Int64} (R : RM m q a) (A : AI a) (hi : i < 16) (e : a.rg i = .inr (n, p)) (on : obj a n) (k2 : a.kd n = 2) : md_hasWord m (Int32.ofNat i) k = some (if ¬ (Int64.ofNat p + k < 0) ∧ Int64.ofNat p + k < Int64.ofNat (a.ln n) then 1 else 0) := by
  have v := R.rg i hi
  rw [e] at v
  have Z := R.z
  have zk := Z.K
  have hK := R.k
  have hn := on.2.1
  have n0 : n ≠ 0 := by have := on.1; omega
  have ll := (A.rw on k2).1
  have om := R.ob n on
  have v2 : m.avl i = Int64.ofNat p := v.2
  have v1 : m.atg i = Int32.ofNat n := v.1.trans (tgW_o n0)
  unfold md_hasWord md_hasWord_j41
  rw [Z.vl, Z.tg, Z.si, q_inb hi (by omega), q_nat (show i < 2147483648 by omega), v2, v1, q_inb (show n < q.K by omega) (by omega), q_nat (show n < 2147483648 by omega), om.si, q_64 (by omega), gdT, gdT, gdT, gdT]
  by_cases h0 : Int64.ofNat p + k < 0
  · rw [if_pos (lg_lt.mpr h0), if_neg (fun d => d.1 h0)]
  · rw [if_neg (fun d => h0 (lg_lt.mp d))]
    by_cases h1 : Int64.ofNat p + k < Int64.ofNat (a.ln n)
    · rw [if_neg (fun d => absurd (Int64.lt_of_lt_of_le h1 (lg_ge.mp d)) Int64.lt_irrefl), if_pos ⟨h0, h1⟩]
    · rw [if_pos (lg_ge.mpr (Int64.not_lt.mp h1)), if_neg (fun d => h1 d.2)]
theorem add32 {p q : Nat} {k : Int32} (h : Int64.ofNat p + k.toInt64 = Int64.ofNat q) : Int32.ofNat p + k = Int32.ofNat q := by
  have := congrArg Int64.toInt32 h
  rw [Int64.toInt32_add, q_32, q_32, f32_64] at this
  exact this
theorem md_at_e {m : Ms} {q : Gm} {a : Ab} {i n p x : Nat} {k : Int32} (R : RM m q a) (A : AI a) (hi : i < 16) (e : a.rg i = .inr (n, p)) (on : obj a n) (k2 : a.kd n = 2) (hx : Int32.ofNat p + k = Int32.ofNat x) : md_at m (Int32.ofNat i) k = some (Int32.ofNat (q.sr n + x)) := by
  have v := R.rg i hi
  rw [e] at v
  have Z := R.z
  have zk := Z.K
  have hK := R.k
  have hn := on.2.1
  have n0 : n ≠ 0 := by have := on.1; omega
  have om := (R.ob n on).rw k2
  have v2 : m.avl i = Int64.ofNat p := v.2
  have v1 : m.atg i = Int32.ofNat n := v.1.trans (tgW_o n0)
  unfold md_at
  rw [Z.tg, Z.vl, Z.sr, q_inb hi (by omega), q_nat (show i < 2147483648 by omega), v2, v1, q_inb (show n < q.K by omega) (by omega), q_nat (show n < 2147483648 by omega), om.1, q_32, gdT, gdT, gdT, Int32.add_assoc, hx, q_add]
/-- a row's words change -/
theorem RC_row {z : Hs} {g : Gh} {o : Go} {a : Ab} {n : Nat} {b : Nat → Int64} {f : Nat → Int32} {w : Nat → Wrd} (c : RC z g o a) (A : AI a) (on : obj a n) (k2 : a.kd n = 2) (ff : ∀ x, f x = 0 ∨ f x = 1) (un : ∀ x, (∀ i, i < a.ln n → x ≠ g.st (o.ho n) + 1 + i) → b x = z.abt x ∧ f x = z.arf x) (nw : ∀ i, i < a.ln n → f (g.st (o.ho n) + 1 + i) = fW (w i) ∧ b (g.st (o.ho n) + 1 + i) = bW o.ho (w i)) : RC (Hs.wm z b f) g o (a.s_wo (updN a.wo n w)) := by
  have ob := c.ob n on
  have RR := ob.rw k2
  have sz : g.sz (o.ho n) = 1 + a.ln n := by unfold Gh.sz; rw [ob.kd, k2, RR.1]; rfl
  refine RC_blk (n0 := n) c A ⟨rfl, rfl, rfl, rfl, rfl, rfl, rfl, rfl, rfl, rfl, rfl, rfl, rfl, rfl⟩ rfl on ?_ ff ?_ ?_
  · intro l hl
    exact ⟨rfl, rfl, rfl, updN_o _ _ hl, rfl, rfl, rfl, rfl, rfl, rfl, rfl⟩
  · intro x h1 _
    refine un x ?_
    intro i hi e
    exact h1 (1 + i) (by omega) (by omega) (by omega)
  · refine ⟨ob.m, ob.nu, ob.kd, ob.fr, ob.ow, fun _ => ⟨RR.1, ?_⟩, fun k => ?_, fun k => ?_⟩
    · intro i hi
      have hi : i < a.ln n := hi
      show f (g.st (o.ho n) + 1 + i) = fW (updN a.wo n w n i) ∧ b (g.st (o.ho n) + 1 + i) = bW o.ho (updN a.wo n w n i)
      rw [updN_s]
      exact nw i hi
    · have k : a.kd n = 3 := k
      omega
    · have k : a.kd n = 4 := k
      omega
theorem AI_row {a : Ab} {n : Nat} {w : Nat → Wrd} (A : AI a) (on : obj a n) (k2 : a.kd n = 2) (h : ∀ i, i < a.ln n → okW a (w i)) : AI (a.s_wo (updN a.wo n w)) := by
  refine ⟨A.lm, A.eg, A.us, A.md, A.tn, A.rg, ?_, A.sum, A.el, A.en, A.cn⟩
  intro l ol
  have ol : obj a l := ol
  by_cases hl : l = n
  · subst hl
    refine ⟨(A.ob l ol).1, Or.inl ⟨k2, (A.rw ol k2).1, ?_⟩⟩
    intro i hi
    show okW a (updN a.wo l w l i)
    rw [updN_s]
    exact h i hi
  · have ok := A.ob l ol
    refine ⟨ok.1, ?_⟩
    rcases ok.2 with ⟨k, ok⟩ | ⟨k, ok⟩ | ⟨k, ok⟩
    · refine Or.inl ⟨k, ok.1, ?_⟩
      intro i hi
      show okW a (updN a.wo n w l i)
      rw [updN_o _ _ hl]
      exact ok.2 i hi
    · exact Or.inr (Or.inl ⟨k, ok⟩)
    · exact Or.inr (Or.inr ⟨k, ok⟩)
theorem RM_rw {m : Ms} {q : Gm} {a : Ab} {n : Nat} {t : Nat → Int32} {v : Nat → Int64} {w : Nat → Wrd} (R : RM m q a) (on : obj a n) (k2 : a.kd n = 2) (un : ∀ x, (∀ i, i < a.ln n → x ≠ q.sr n + i) → t x = m.awt x ∧ v x = m.awv x) (nw : ∀ i, i < a.ln n → t (q.sr n + i) = tgW (w i) ∧ v (q.sr n + i) = vlW (w i)) : RM (Ms.wwv (Ms.wwt m t) v) q (a.s_wo (updN a.wo n w)) := by
  refine ⟨R.s, R.z, R.k, R.rg, R.th, R.k0, R.fl, ?_, R.sr, R.ws, R.bs, R.e⟩
  intro l ol
  have ol : obj a l := ol
  have om := R.ob l ol
  refine ⟨om.so, om.si, om.kp, ?_, om.tx, om.mp⟩
  intro k
  have k : a.kd l = 2 := k
  obtain ⟨m1, m2, m3⟩ := om.rw k
  refine ⟨m1, m2, ?_⟩
  intro i hi
  have hi : i < a.ln l := hi
  show t (q.sr l + i) = tgW (updN a.wo n w l i) ∧ v (q.sr l + i) = vlW (updN a.wo n w l i)
  by_cases hl : l = n
  · subst hl
    rw [updN_s]
    exact nw i hi
  · rw [updN_o _ _ hl]
    have hout : ∀ j, j < a.ln n → q.sr l + i ≠ q.sr n + j := by
      intro j hj
      by_cases hlt : l < n
      · have := R.sr l n ol on hlt (k.trans k2.symm) (by omega)
        omega
      · have := R.sr n l on ol (by omega) (k2.trans k.symm) (by omega)
        omega
    have := un _ hout
    rw [this.1, this.2]
    exact m3 i hi
