/-! What the reference reaches. -/
theorem c22 : Int32.ofNat 2 = 2 := rfl
theorem c33 : Int32.ofNat 3 = 3 := rfl
theorem c44 : Int32.ofNat 4 = 4 := rfl
def PM (m : Ms) : Nat := 24 * m.nso + 4 * m.nwt + 2 * m.nby + 36 * m.nem
def rset (r : Nat → Int32) (P : Nat → Prop) (md : Nat) : Prop := ∀ n, 1 ≤ n → n ≤ md → (r n = 1 ∧ P n) ∨ (r n = 0 ∧ ¬ P n)
theorem tg_le {w : Wrd} {n : Nat} (h : ∀ p, w = .inr p → p.1 ≤ n) (hn : n < 2147483648) : (tgW w ≤ 0 ∧ ∀ p, w = .inr p → p.1 = 0) ∨ ∃ p, w = .inr p ∧ p.1 ≠ 0 ∧ tgW w = Int32.ofNat p.1 := by
  cases w with
  | inl v => exact Or.inl ⟨show (0 : Int32) ≤ 0 from by decide, fun p h => by cases h⟩
  | inr p =>
    by_cases hp : p.1 = 0
    · refine Or.inl ⟨?_, fun q h => by cases h; exact hp⟩
      show (if p.1 = 0 then (-1 : Int32) else Int32.ofNat p.1) ≤ 0
      rw [if_pos hp]
      decide
    · exact Or.inr ⟨p, rfl, hp, if_neg hp⟩
/-- one call of reach: the set after it -/
def rch (r : Nat → Int32) (w : Wrd) : Nat → Int32 := match w with
  | .inl _ => r
  | .inr p => if p.1 = 0 then r else upd r p.1 1
/-- whether reach finds something new -/
def nf (r : Nat → Int32) (w : Wrd) : Int32 := match w with
  | .inl _ => 0
  | .inr p => if p.1 = 0 then 0 else if r p.1 = 0 then 1 else 0
theorem upd_same {r : Nat → Int32} {n : Nat} {x : Int32} (h : r n = x) : upd r n x = r := by
  funext y
  unfold upd
  by_cases hy : y = n
  · rw [if_pos hy, hy, h]
  · rw [if_neg hy]
theorem md_reach_e {m : Ms} {w : Wrd} {md : Nat} (hw : ∀ p, w = .inr p → p.1 ≤ md) (hmd : md < m.nre) (hk : m.nre ≤ 4096) (hr : ∀ n, 1 ≤ n → n ≤ md → m.are n = 0 ∨ m.are n = 1) :
    md_reach m (tgW w) = some (Ms.wre m (rch m.are w), nf m.are w) := by
  unfold md_reach
  rcases tg_le hw (by omega) with ⟨h1, h2⟩ | ⟨p, h1, h2, h3⟩
  · rw [if_pos h1]
    cases w with
    | inl v => rfl
    | inr p =>
      have e : rch m.are (.inr p) = m.are := if_pos (h2 p rfl)
      have e2 : nf m.are (.inr p) = 0 := if_pos (h2 p rfl)
      rw [e, e2]
      rfl
  · have hp := hw p h1
    have e : rch m.are w = upd m.are p.1 1 := by rw [h1]; exact if_neg h2
    have e2 : nf m.are w = if m.are p.1 = 0 then 1 else 0 := by rw [h1]; exact if_neg h2
    rw [h3, if_neg (q_nle0 (by omega) h2), q_inb (by omega) (by omega), q_nat (by omega), nar1, e, e2]
    rcases hr p.1 (by omega) hp with c | c
    · rw [c, if_pos rfl, if_pos rfl]
      rfl
    · rw [upd_same c, c, if_neg ne10, if_neg ne10]
      rfl
/-- a step of the search: more is reached, and only what may be -/
def Stq (a : Ab) (r r2 : Nat → Int32) (x x2 : Int32) : Prop :=
  (∀ n, 1 ≤ n → n ≤ a.md → r n = 0 ∨ r n = 1) ∧
  (∀ n, 1 ≤ n → n ≤ a.md → r2 n = 0 ∨ r2 n = 1) ∧
  (∀ n, r n = 1 → r2 n = 1) ∧
  ((∀ n, 1 ≤ n → n ≤ a.md → r n = 1 → reaA a n) → ∀ n, 1 ≤ n → n ≤ a.md → r2 n = 1 → reaA a n) ∧
  (x2 = 0 → x = 0 ∧ r2 = r) ∧
  (x2 = 0 ∨ x2 = 1) ∧
  (x2 = 1 → x = 1 ∨ ∃ n, 1 ≤ n ∧ n ≤ a.md ∧ r n = 0 ∧ r2 n = 1)
theorem Stq.a {a : Ab} {r r2 : Nat → Int32} {x x2 : Int32} (hyp : Stq a r r2 x x2) : ∀ n, 1 ≤ n → n ≤ a.md → r n = 0 ∨ r n = 1 := hyp.1
theorem Stq.b {a : Ab} {r r2 : Nat → Int32} {x x2 : Int32} (hyp : Stq a r r2 x x2) : ∀ n, 1 ≤ n → n ≤ a.md → r2 n = 0 ∨ r2 n = 1 := hyp.2.1
theorem Stq.m {a : Ab} {r r2 : Nat → Int32} {x x2 : Int32} (hyp : Stq a r r2 x x2) : ∀ n, r n = 1 → r2 n = 1 := hyp.2.2.1
theorem Stq.s {a : Ab} {r r2 : Nat → Int32} {x x2 : Int32} (hyp : Stq a r r2 x x2) : (∀ n, 1 ≤ n → n ≤ a.md → r n = 1 → reaA a n) → ∀ n, 1 ≤ n → n ≤ a.md → r2 n = 1 → reaA a n := hyp.2.2.2.1
theorem Stq.z {a : Ab} {r r2 : Nat → Int32} {x x2 : Int32} (hyp : Stq a r r2 x x2) : x2 = 0 → x = 0 ∧ r2 = r := hyp.2.2.2.2.1
theorem Stq.o {a : Ab} {r r2 : Nat → Int32} {x x2 : Int32} (hyp : Stq a r r2 x x2) : x2 = 0 ∨ x2 = 1 := hyp.2.2.2.2.2.1
theorem Stq.g {a : Ab} {r r2 : Nat → Int32} {x x2 : Int32} (hyp : Stq a r r2 x x2) : x2 = 1 → x = 1 ∨ ∃ n, 1 ≤ n ∧ n ≤ a.md ∧ r n = 0 ∧ r2 n = 1 := hyp.2.2.2.2.2.2

theorem Stq.id {a : Ab} {r : Nat → Int32} {x : Int32} (b : ∀ n, 1 ≤ n → n ≤ a.md → r n = 0 ∨ r n = 1) (hx : x = 0 ∨ x = 1) : Stq a r r x x :=
  ⟨b, b, fun _ h => h, fun h => h, fun h => ⟨h, rfl⟩, hx, fun h => Or.inl h⟩
theorem Stq.trans {a : Ab} {r r2 r3 : Nat → Int32} {x x2 x3 : Int32} (s : Stq a r r2 x x2) (t : Stq a r2 r3 x2 x3) : Stq a r r3 x x3 := by
  refine ⟨s.a, t.b, fun n h => t.m n (s.m n h), fun h => t.s (s.s h), ?_, t.o, ?_⟩
  · intro h
    have h1 := t.z h
    have h2 := s.z h1.1
    exact ⟨h2.1, h1.2.trans h2.2⟩
  · intro h
    rcases t.g h with c | ⟨n, h1, h2, h3, h4⟩
    · rcases s.g c with d | ⟨n, h1, h2, h3, h4⟩
      · exact Or.inl d
      · exact Or.inr ⟨n, h1, h2, h3, t.m n h4⟩
    · refine Or.inr ⟨n, h1, h2, ?_, h4⟩
      rcases s.a n h1 h2 with c | c
      · exact c
      · have := s.m n c
        rw [h3] at this
        exact absurd this (by decide)
theorem okW_le {a : Ab} {w : Wrd} (ok : okW a w) : ∀ p, w = .inr p → p.1 ≤ a.md := by
  intro p h
  subst h
  rcases ok with ⟨k1, k2⟩ | ⟨k1, k2, k3⟩
  · omega
  · exact k1.2.1
theorem rch_in {r : Nat → Int32} {p : Nat × Nat} (h : p.1 ≠ 0) : rch r (.inr p) p.1 = 1 := by
  show (if p.1 = 0 then r else upd r p.1 1) p.1 = 1
  rw [if_neg h]
  exact if_pos rfl
theorem Stq.one {a : Ab} {r : Nat → Int32} {x : Int32} {w : Wrd} (b : ∀ n, 1 ≤ n → n ≤ a.md → r n = 0 ∨ r n = 1) (hx : x = 0 ∨ x = 1) (ok : okW a w) (hre : ∀ p, w = .inr p → p.1 ≠ 0 → (∀ n, 1 ≤ n → n ≤ a.md → r n = 1 → reaA a n) → reaA a p.1) : Stq a r (rch r w) x (if nf r w = 0 then x else 1) := by
  have hle := okW_le ok
  cases w with
  | inl v =>
    rw [show rch r (.inl v) = r from rfl, show nf r (.inl v) = 0 from rfl, if_pos rfl]
    exact Stq.id b hx
  | inr p =>
    by_cases hp : p.1 = 0
    · rw [show rch r (.inr p) = r from if_pos hp, show nf r (.inr p) = 0 from if_pos hp, if_pos rfl]
      exact Stq.id b hx
    · have e : rch r (.inr p) = upd r p.1 1 := if_neg hp
      have e2 : nf r (.inr p) = if r p.1 = 0 then 1 else 0 := if_neg hp
      have hpm := hle p rfl
      rcases b p.1 (by omega) hpm with c | c
      · rw [e, e2, c, if_pos rfl, if_neg ne10]
        have hu : ∀ n, upd r p.1 1 n = 1 ∨ upd r p.1 1 n = r n := by
          intro n
          unfold upd
          by_cases hn : n = p.1
          · rw [if_pos hn]; exact Or.inl rfl
          · rw [if_neg hn]; exact Or.inr rfl
        have hone : upd r p.1 1 p.1 = 1 := if_pos rfl
        refine ⟨b, ?_, ?_, ?_, fun h => absurd h ne10, Or.inr rfl, fun _ => Or.inr ⟨p.1, by omega, hpm, c, hone⟩⟩
        · intro n h1 h2
          rcases hu n with d | d
          · exact Or.inr d
          · rw [d]; exact b n h1 h2
        · intro n h
          rcases hu n with d | d
          · exact d
          · rw [d]; exact h
        · intro h n h1 h2 h3
          by_cases hn : n = p.1
          · rw [hn]; exact hre p rfl hp h
          · have : upd r p.1 1 n = r n := if_neg hn
            rw [this] at h3
            exact h n h1 h2 h3
      · rw [e, e2, upd_same c, c, if_neg ne10, if_pos rfl]
        exact Stq.id b hx
/-- what the loops of the search know -/
def Fr (m : Ms) (q : Gm) (a : Ab) (r : Nat → Int32) : Prop :=
  (RM m q a) ∧
  (AI a) ∧
  (∀ n, 1 ≤ n → n ≤ a.md → r n = 0 ∨ r n = 1) ∧
  (∀ n, 1 ≤ n → n ≤ a.md → r n = 1 → reaA a n) ∧
  (∀ n, reaA a n → obj a n)
theorem Fr.R {m : Ms} {q : Gm} {a : Ab} {r : Nat → Int32} (hyp : Fr m q a r) : RM m q a := hyp.1
theorem Fr.A {m : Ms} {q : Gm} {a : Ab} {r : Nat → Int32} (hyp : Fr m q a r) : AI a := hyp.2.1
theorem Fr.f {m : Ms} {q : Gm} {a : Ab} {r : Nat → Int32} (hyp : Fr m q a r) : ∀ n, 1 ≤ n → n ≤ a.md → r n = 0 ∨ r n = 1 := hyp.2.2.1
theorem Fr.s {m : Ms} {q : Gm} {a : Ab} {r : Nat → Int32} (hyp : Fr m q a r) : ∀ n, 1 ≤ n → n ≤ a.md → r n = 1 → reaA a n := hyp.2.2.2.1
theorem Fr.ob {m : Ms} {q : Gm} {a : Ab} {r : Nat → Int32} (hyp : Fr m q a r) : ∀ n, reaA a n → obj a n := hyp.2.2.2.2

theorem Fr.st {m : Ms} {q : Gm} {a : Ab} {r r2 : Nat → Int32} {x x2 : Int32} (F : Fr m q a r) (s : Stq a r r2 x x2) : Fr m q a r2 := ⟨F.R, F.A, s.b, s.s F.s, F.ob⟩
theorem fr_l68 {m : Ms} {q : Gm} {a : Ab} (K50 : Int32 → Ms → Option (Ms × Unit)) (K58 : Int32 → Int32 → Ms → Option (Ms × Unit)) {n : Nat} (on : obj a n) (k2 : a.kd n = 2) : ∀ k i fu x r, i + k = a.ln n → k < fu → Fr m q a r → r n = 1 → (x = 0 ∨ x = 1) →
    ∃ x2 r2, md_findReached_l68 K50 K58 fu x (Int32.ofNat n) (Int32.ofNat i) (Ms.wre m r) = K58 x2 (Int32.ofNat n + 1) (Ms.wre m r2) ∧ Stq a r r2 x x2 ∧ ∀ j, i ≤ j → j < a.ln n → ∀ p, a.wo n j = .inr p → p.1 ≠ 0 → r2 p.1 = 1 := by
  intro k
  induction k with
  | zero =>
    intro i fu x r hi hfu F hr hx
    obtain ⟨f, rfl⟩ : ∃ f, fu = f + 1 := ⟨fu - 1, by omega⟩
    have R := F.R
    have om := R.ob n on
    have Z := R.z
    have okr := F.A.rw on k2
    have hK := R.k
    have hn := on.2.1
    have o1 := okr.1
    have zk := Z.K
    refine ⟨x, r, ?_, Stq.id F.f hx, fun j h1 h2 => by omega⟩
    rw [md_findReached_l68]
    show gd (inb (Int32.ofNat n) m.nsi) (if m.asi (Int32.ofNat n).toNatClampNeg ≤ Int32.ofNat i then _ else _) = _
    rw [Z.si, q_inb (by omega) (by omega), q_nat (by omega), om.si, if_pos ((q_le (by omega) (by omega)).mpr (by omega))]
    rfl
  | succ k ih =>
    intro i fu x r hi hfu F hr hx
    obtain ⟨f, rfl⟩ : ∃ f, fu = f + 1 := ⟨fu - 1, by omega⟩
    have R := F.R
    have om := R.ob n on
    have Z := R.z
    have okr := F.A.rw on k2
    have hK := R.k
    have hn := on.2.1
    have o1 := okr.1
    have zk := Z.K
    have zw := Z.wl
    obtain ⟨m1, m2, m3⟩ := om.rw k2
    have hw := okr.2 i (by omega)
    have hre := md_reach_e (m := Ms.wre m r) (w := a.wo n i) (md := a.md) (okW_le hw) (show a.md < m.nre by rw [Z.re]; exact hK) (show m.nre ≤ 4096 by rw [Z.re]; omega) F.f
    have S1 : Stq a r (rch r (a.wo n i)) x (if nf r (a.wo n i) = 0 then x else 1) := Stq.one F.f hx hw (by
      intro p hp p0 _ P h1 h2
      exact h2 n p.1 (F.s n on.1 hn hr P h1 h2) ⟨p0, Or.inl ⟨k2, i, by omega, p.2, hp⟩⟩)
    obtain ⟨x2, r2, e, S2, cl⟩ := ih (i + 1) f (if nf r (a.wo n i) = 0 then x else 1) (rch r (a.wo n i)) (by omega) (by omega) (F.st S1) (S1.m n hr) S1.o
    refine ⟨x2, r2, ?_, S1.trans S2, ?_⟩
    · rw [md_findReached_l68]
      show gd (inb (Int32.ofNat n) m.nsi) (if m.asi (Int32.ofNat n).toNatClampNeg ≤ Int32.ofNat i then _ else gd (inb (Int32.ofNat n) m.nre) (if r (Int32.ofNat n).toNatClampNeg = 0 then _ else gd (inb (Int32.ofNat n) m.nso) (if m.aso (Int32.ofNat n).toNatClampNeg = 2 then gd (inb (Int32.ofNat n) m.nsr) (gd (inb (m.asr (Int32.ofNat n).toNatClampNeg + Int32.ofNat i) m.nwt) (bw (md_reach (Ms.wre m r) (m.awt (m.asr (Int32.ofNat n).toNatClampNeg + Int32.ofNat i).toNatClampNeg)) _)) else _))) = _
      rw [Z.si, Z.re, Z.so, Z.sr, q_inb (by omega) (by omega), q_nat (by omega), om.si, if_neg (fun c => absurd ((q_le (by omega) (by omega)).mp c) (by omega)), hr, if_neg ne10, om.so, k2, if_pos c22, m1, q_add, q_inb (by omega) (by omega), q_nat (by omega), (m3 i (by omega)).1, hre]
      rw [← e]
      have e1 : Int32.ofNat i + 1 = Int32.ofNat (i + 1) := q_add i 1
      show (if nf r (a.wo n i) = 0 then (if x = 0 then md_findReached_l68 K50 K58 f 0 (Int32.ofNat n) (Int32.ofNat i + 1) (Ms.wre m (rch r (a.wo n i))) else md_findReached_j121 K50 K58 (md_findReached_l68 K50 K58 f) (Int32.ofNat n) (Int32.ofNat i) (Ms.wre m (rch r (a.wo n i)))) else md_findReached_j121 K50 K58 (md_findReached_l68 K50 K58 f) (Int32.ofNat n) (Int32.ofNat i) (Ms.wre m (rch r (a.wo n i)))) = _
      unfold md_findReached_j121
      rw [e1]
      by_cases hc : nf r (a.wo n i) = 0
      · rw [if_pos hc, if_pos hc]
        rcases hx with c | c
        · rw [c, if_pos rfl]
        · rw [c, if_neg ne10]
      · rw [if_neg hc, if_neg hc]
    · intro j h1 h2 p hp p0
      by_cases hj : j = i
      · subst hj
        refine S2.m _ ?_
        rw [hp]
        exact rch_in p0
      · exact cl j (by omega) h2 p hp p0
theorem fr_l68_no {m : Ms} {q : Gm} {a : Ab} (K50 : Int32 → Ms → Option (Ms × Unit)) (K58 : Int32 → Int32 → Ms → Option (Ms × Unit)) {n : Nat} (h1 : 1 ≤ n) (h2 : n ≤ a.md) {x : Int32} {r : Nat → Int32} {f : Nat} (F : Fr m q a r) (h : r n = 0 ∨ (r n = 1 ∧ a.kd n ≠ 2)) :
    md_findReached_l68 K50 K58 (f + 1) x (Int32.ofNat n) 0 (Ms.wre m r) = K58 x (Int32.ofNat n + 1) (Ms.wre m r) := by
  have R := F.R
  have Z := R.z
  have hK := R.k
  have zk := Z.K
  rw [md_findReached_l68]
  show gd (inb (Int32.ofNat n) m.nsi) (if m.asi (Int32.ofNat n).toNatClampNeg ≤ 0 then _ else gd (inb (Int32.ofNat n) m.nre) (if r (Int32.ofNat n).toNatClampNeg = 0 then _ else gd (inb (Int32.ofNat n) m.nso) (if m.aso (Int32.ofNat n).toNatClampNeg = 2 then _ else _))) = _
  rw [Z.si, Z.re, Z.so, q_inb (by omega) (by omega), q_nat (by omega)]
  show (if m.asi n ≤ 0 then _ else if r n = 0 then _ else if m.aso n = 2 then _ else _) = _
  rcases h with h | ⟨h, hk⟩
  · rw [h, if_pos rfl]
    split <;> rfl
  · have on := F.ob n (F.s n h1 h2 h)
    have om := R.ob n on
    have k8 : a.kd n < 8 := by
      rcases (F.A.ob n on).2 with c | c | c <;> omega
    rw [h, if_neg ne10, om.so, if_neg (show ¬ (Int32.ofNat (a.kd n) = 2) from q_nek 2 (by omega) (by omega) hk)]
    split <;> rfl
theorem fr_l58 {m : Ms} {q : Gm} {a : Ab} (K50 : Int32 → Ms → Option (Ms × Unit)) : ∀ k n fu x r, n + k = a.md + 1 → 1 ≤ n → k < fu → Fr m q a r → (x = 0 ∨ x = 1) →
    ∃ x2 r2, md_findReached_l58 K50 fu x (Int32.ofNat n) (Ms.wre m r) = md_findReached_l141 K50 FU x2 0 (Ms.wre m r2) ∧ Stq a r r2 x x2 ∧ ∀ l, n ≤ l → l ≤ a.md → r l = 1 → a.kd l = 2 → ∀ j, j < a.ln l → ∀ p, a.wo l j = .inr p → p.1 ≠ 0 → r2 p.1 = 1 := by
  intro k
  induction k with
  | zero =>
    intro n fu x r hi h1 hfu F hx
    obtain ⟨f, rfl⟩ : ∃ f, fu = f + 1 := ⟨fu - 1, by omega⟩
    have hK := F.R.k
    have zk := F.R.z.K
    refine ⟨x, r, ?_, Stq.id F.f hx, fun l h1 h2 => by omega⟩
    rw [md_findReached_l58]
    show (if m.mad < Int32.ofNat n then _ else _) = _
    rw [F.R.s.mad, if_pos ((q_lt (by omega) (by omega)).mpr (by omega))]
  | succ k ih =>
    intro n fu x r hi h1 hfu F hx
    obtain ⟨f, rfl⟩ : ∃ f, fu = f + 1 := ⟨fu - 1, by omega⟩
    have hK := F.R.k
    have zk := F.R.z.K
    have e1 : Int32.ofNat n + 1 = Int32.ofNat (n + 1) := q_add n 1
    have hd : md_findReached_l58 K50 (f + 1) x (Int32.ofNat n) (Ms.wre m r) = md_findReached_l68 K50 (md_findReached_l58 K50 f) FU x (Int32.ofNat n) 0 (Ms.wre m r) := by
      rw [md_findReached_l58]
      show (if m.mad < Int32.ofNat n then _ else _) = _
      rw [F.R.s.mad, if_neg (fun c => absurd ((q_lt (by omega) (by omega)).mp c) (by omega))]
    by_cases hc : r n = 1 ∧ a.kd n = 2
    · have on := F.ob n (F.s n h1 (by omega) hc.1)
      have o1 := (F.A.rw on hc.2).1
      obtain ⟨x2, r2, e, S1, cl⟩ := fr_l68 K50 (md_findReached_l58 K50 f) on hc.2 (a.ln n) 0 FU x r (by omega) (by unfold FU; omega) F hc.1 hx
      obtain ⟨x3, r3, e3, S2, cl3⟩ := ih (n + 1) f x2 r2 (by omega) (by omega) (by omega) (F.st S1) S1.o
      refine ⟨x3, r3, ?_, S1.trans S2, ?_⟩
      · rw [hd, show (0 : Int32) = Int32.ofNat 0 from rfl, e, e1, e3]
        rfl
      · intro l g1 g2 g3 g4 j hj p hp p0
        by_cases hl : l = n
        · subst hl
          exact S2.m _ (cl j (by omega) hj p hp p0)
        · exact cl3 l (by omega) g2 (S1.m l g3) g4 j hj p hp p0
    · have hno : r n = 0 ∨ (r n = 1 ∧ a.kd n ≠ 2) := by
        rcases F.f n h1 (by omega) with c | c
        · exact Or.inl c
        · exact Or.inr ⟨c, fun k => hc ⟨c, k⟩⟩
      obtain ⟨x3, r3, e3, S2, cl3⟩ := ih (n + 1) f x r (by omega) (by omega) (by omega) F hx
      refine ⟨x3, r3, ?_, S2, ?_⟩
      · have e4 := fr_l68_no K50 (md_findReached_l58 K50 f) (f := 999999999) (x := x) h1 (show n ≤ a.md by omega) F hno
        rw [hd]
        refine Eq.trans e4 ?_
        rw [e1]
        exact e3
      · intro l g1 g2 g3 g4 j hj p hp p0
        by_cases hl : l = n
        · subst hl
          exact absurd ⟨g3, g4⟩ hc
        · exact cl3 l (by omega) g2 g3 g4 j hj p hp p0
