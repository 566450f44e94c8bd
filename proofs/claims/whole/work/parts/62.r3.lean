/-! The search: entries, passes, the whole. -/
theorem AI.ent {a : Ab} (A : AI a) {t : Nat × (Nat × (Nat → Wrd))} (h : t ∈ a.el) : t.2 ∈ ens (a.sl t.1) := by
  have e := A.el t h
  rw [A.cn t.1 e.1 e.2, List.mem_map]
  exact ⟨t, List.mem_filter.mpr ⟨h, by simp⟩, rfl⟩
theorem fr_l159 {m : Ms} {q : Gm} {a : Ab} (K50 : Int32 → Ms → Option (Ms × Unit)) (K141 : Int32 → Int32 → Ms → Option (Ms × Unit)) {e : Nat} (he : e < a.el.length) : ∀ k i fu x r, i + k = a.nk (a.el[e]).1 + a.nv (a.el[e]).1 → k < fu → Fr m q a r → r (a.el[e]).1 = 1 → (x = 0 ∨ x = 1) →
    ∃ x2 r2, md_findReached_l159 K50 K141 fu x (Int32.ofNat e) (Int32.ofNat (a.el[e]).1) (Int32.ofNat i) (Ms.wre m r) = K141 x2 (Int32.ofNat e + 1) (Ms.wre m r2) ∧ Stq a r r2 x x2 ∧ ∀ j, i ≤ j → j < a.nk (a.el[e]).1 + a.nv (a.el[e]).1 → ∀ p, (a.el[e]).2.2 j = .inr p → p.1 ≠ 0 → r2 p.1 = 1 := by
  have hmem : a.el[e] ∈ a.el := List.getElem_mem he
  intro k
  induction k with
  | zero =>
    intro i fu x r hi hfu F hr hx
    obtain ⟨f, rfl⟩ : ∃ f, fu = f + 1 := ⟨fu - 1, by omega⟩
    have R := F.R
    obtain ⟨on, k4⟩ := F.A.el _ hmem
    have om := (R.ob _ on).mp k4
    have okm := F.A.mp on k4
    have Z := R.z
    have hK := R.k
    have hn := on.2.1
    have zk := Z.K
    have n1 := okm.nk
    have n2 := okm.nv
    refine ⟨x, r, ?_, Stq.id F.f hx, fun j h1 h2 => by omega⟩
    rw [md_findReached_l159]
    show gd (inb (Int32.ofNat (a.el[e]).1) m.nke) (gd (inb (Int32.ofNat (a.el[e]).1) m.nva) (if m.ake (Int32.ofNat (a.el[e]).1).toNatClampNeg + m.ava (Int32.ofNat (a.el[e]).1).toNatClampNeg ≤ Int32.ofNat i then _ else _)) = _
    rw [Z.ke, Z.va, q_inb (by omega) (by omega), q_nat (by omega), om.1, om.2.1, q_add, if_pos ((q_le (by omega) (by omega)).mpr (by omega))]
    rfl
  | succ k ih =>
    intro i fu x r hi hfu F hr hx
    obtain ⟨f, rfl⟩ : ∃ f, fu = f + 1 := ⟨fu - 1, by omega⟩
    have R := F.R
    obtain ⟨on, k4⟩ := F.A.el _ hmem
    have om := (R.ob _ on).mp k4
    have okm := F.A.mp on k4
    have Z := R.z
    have hK := R.k
    have hn := on.2.1
    have zk := Z.K
    have n1 := okm.nk
    have n2 := okm.nv
    have zel := Z.el
    have hle := R.e.le
    have hen := F.A.ent hmem
    have hw := okm.wd _ hen i (by omega)
    have hre := md_reach_e (m := Ms.wre m r) (w := (a.el[e]).2.2 i) (md := a.md) (okW_le hw) (show a.md < m.nre by rw [Z.re]; exact hK) (show m.nre ≤ 4096 by rw [Z.re]; omega) F.f
    have S1 : Stq a r (rch r ((a.el[e]).2.2 i)) x (if nf r ((a.el[e]).2.2 i) = 0 then x else 1) := Stq.one F.f hx hw (by
      intro p hp p0 _ P h1 h2
      exact h2 _ p.1 (F.s _ on.1 hn hr P h1 h2) ⟨p0, Or.inr ⟨k4, _, hen, i, by omega, p.2, hp⟩⟩)
    obtain ⟨x2, r2, e2, S2, cl⟩ := ih (i + 1) f (if nf r ((a.el[e]).2.2 i) = 0 then x else 1) (rch r ((a.el[e]).2.2 i)) (by omega) (by omega) (F.st S1) (S1.m _ hr) S1.o
    refine ⟨x2, r2, ?_, S1.trans S2, ?_⟩
    · rw [md_findReached_l159]
      show gd (inb (Int32.ofNat (a.el[e]).1) m.nke) (gd (inb (Int32.ofNat (a.el[e]).1) m.nva) (if m.ake (Int32.ofNat (a.el[e]).1).toNatClampNeg + m.ava (Int32.ofNat (a.el[e]).1).toNatClampNeg ≤ Int32.ofNat i then _ else gd (inb (Int32.ofNat (a.el[e]).1) m.nre) (if r (Int32.ofNat (a.el[e]).1).toNatClampNeg = 0 then _ else gd (inb (8 * Int32.ofNat e + Int32.ofNat i) m.net) (bw (md_reach (Ms.wre m r) (m.aet (8 * Int32.ofNat e + Int32.ofNat i).toNatClampNeg)) _)))) = _
      have e8 : 8 * Int32.ofNat e + Int32.ofNat i = Int32.ofNat (8 * e + i) := by
        have := q_mul 8 e
        rw [show (8 : Int32) = Int32.ofNat 8 from rfl, this, q_add]
      rw [e8, Z.ke, Z.va, Z.re, Z.et, q_inb (show (a.el[e]).1 < q.K by omega) (by omega), q_nat (show (a.el[e]).1 < 2147483648 by omega), om.1, om.2.1, q_add, if_neg (fun c => absurd ((q_le (by omega) (by omega)).mp c) (by omega)), hr, if_neg ne10, q_inb (show 8 * e + i < 8 * m.nem by omega) (by omega), q_nat (show 8 * e + i < 2147483648 by omega), (R.e.wd e he i (by omega)).1, hre]
      rw [← e2]
      have e1 : Int32.ofNat i + 1 = Int32.ofNat (i + 1) := q_add i 1
      show (if nf r ((a.el[e]).2.2 i) = 0 then (if x = 0 then md_findReached_l159 K50 K141 f 0 (Int32.ofNat e) (Int32.ofNat (a.el[e]).1) (Int32.ofNat i + 1) (Ms.wre m (rch r ((a.el[e]).2.2 i))) else md_findReached_j209 K50 K141 (md_findReached_l159 K50 K141 f) (Int32.ofNat e) (Int32.ofNat (a.el[e]).1) (Int32.ofNat i) (Ms.wre m (rch r ((a.el[e]).2.2 i)))) else md_findReached_j209 K50 K141 (md_findReached_l159 K50 K141 f) (Int32.ofNat e) (Int32.ofNat (a.el[e]).1) (Int32.ofNat i) (Ms.wre m (rch r ((a.el[e]).2.2 i)))) = _
      unfold md_findReached_j209
      rw [e1]
      by_cases hc : nf r ((a.el[e]).2.2 i) = 0
      · rw [if_pos hc, if_pos hc]
        rcases hx with c | c
        · rw [c, if_pos rfl]
        · rw [c, if_neg ne10]
      · rw [if_neg hc, if_neg hc]
    · intro j h1 h2 p hp p0
      by_cases hj : j = i
      · subst hj
        refine S2.m _ ?_
        rw [hp]
        exact rch_in p0
      · exact cl j (by omega) h2 p hp p0
theorem fr_l159_no {m : Ms} {q : Gm} {a : Ab} (K50 : Int32 → Ms → Option (Ms × Unit)) (K141 : Int32 → Int32 → Ms → Option (Ms × Unit)) {e : Nat} (he : e < a.el.length) {x : Int32} {r : Nat → Int32} {f : Nat} (F : Fr m q a r) (h : r (a.el[e]).1 = 0) :
    md_findReached_l159 K50 K141 (f + 1) x (Int32.ofNat e) (Int32.ofNat (a.el[e]).1) 0 (Ms.wre m r) = K141 x (Int32.ofNat e + 1) (Ms.wre m r) := by
  have hmem : a.el[e] ∈ a.el := List.getElem_mem he
  have R := F.R
  obtain ⟨on, k4⟩ := F.A.el _ hmem
  have om := (R.ob _ on).mp k4
  have okm := F.A.mp on k4
  have Z := R.z
  have hK := R.k
  have hn := on.2.1
  have zk := Z.K
  have n1 := okm.nk
  rw [md_findReached_l159]
  show gd (inb (Int32.ofNat (a.el[e]).1) m.nke) (gd (inb (Int32.ofNat (a.el[e]).1) m.nva) (if m.ake (Int32.ofNat (a.el[e]).1).toNatClampNeg + m.ava (Int32.ofNat (a.el[e]).1).toNatClampNeg ≤ 0 then _ else gd (inb (Int32.ofNat (a.el[e]).1) m.nre) (if r (Int32.ofNat (a.el[e]).1).toNatClampNeg = 0 then _ else _))) = _
  rw [Z.ke, Z.va, Z.re, q_inb (show (a.el[e]).1 < q.K by omega) (by omega), q_nat (show (a.el[e]).1 < 2147483648 by omega), h, if_pos rfl]
  simp only [gdT, ite_self]
theorem fr_l141 {m : Ms} {q : Gm} {a : Ab} (K50 : Int32 → Ms → Option (Ms × Unit)) : ∀ k e fu x r, e + k = a.el.length → k < fu → Fr m q a r → (x = 0 ∨ x = 1) →
    ∃ x2 r2, md_findReached_l141 K50 fu x (Int32.ofNat e) (Ms.wre m r) = K50 x2 (Ms.wre m r2) ∧ Stq a r r2 x x2 ∧ ∀ l, (hl : l < a.el.length) → e ≤ l → r (a.el[l]).1 = 1 → ∀ j, j < a.nk (a.el[l]).1 + a.nv (a.el[l]).1 → ∀ p, (a.el[l]).2.2 j = .inr p → p.1 ≠ 0 → r2 p.1 = 1 := by
  intro k
  induction k with
  | zero =>
    intro e fu x r hi hfu F hx
    obtain ⟨f, rfl⟩ : ∃ f, fu = f + 1 := ⟨fu - 1, by omega⟩
    have hle := F.R.e.le
    have zel := F.R.z.el
    refine ⟨x, r, ?_, Stq.id F.f hx, fun l h1 h2 => by omega⟩
    rw [md_findReached_l141]
    show (if m.ent ≤ Int32.ofNat e then _ else _) = _
    rw [F.R.e.ent, if_pos ((q_le (by omega) (by omega)).mpr (by omega))]
  | succ k ih =>
    intro e fu x r hi hfu F hx
    obtain ⟨f, rfl⟩ : ∃ f, fu = f + 1 := ⟨fu - 1, by omega⟩
    have hle := F.R.e.le
    have zel := F.R.z.el
    have he : e < a.el.length := by omega
    have hmem : a.el[e] ∈ a.el := List.getElem_mem he
    obtain ⟨on, k4⟩ := F.A.el _ hmem
    have okm := F.A.mp on k4
    have e1 : Int32.ofNat e + 1 = Int32.ofNat (e + 1) := q_add e 1
    have hd : md_findReached_l141 K50 (f + 1) x (Int32.ofNat e) (Ms.wre m r) = md_findReached_l159 K50 (md_findReached_l141 K50 f) FU x (Int32.ofNat e) (Int32.ofNat (a.el[e]).1) 0 (Ms.wre m r) := by
      rw [md_findReached_l141]
      show (if m.ent ≤ Int32.ofNat e then _ else gd (inb (Int32.ofNat e) m.nem) (md_findReached_l159 K50 (md_findReached_l141 K50 f) FU x (Int32.ofNat e) (m.aem (Int32.ofNat e).toNatClampNeg) 0 (Ms.wre m r))) = _
      rw [F.R.e.ent, if_neg (fun c => absurd ((q_le (by omega) (by omega)).mp c) (by omega)), q_inb (by omega) (by omega), q_nat (by omega), F.R.e.mp e he]
      rfl
    have hf := F.f _ on.1 on.2.1
    rcases hf with hf | hf
    · obtain ⟨x3, r3, e3, S2, cl3⟩ := ih (e + 1) f x r (by omega) (by omega) F hx
      refine ⟨x3, r3, ?_, S2, ?_⟩
      · have e4 := fr_l159_no K50 (md_findReached_l141 K50 f) he (f := 999999999) (x := x) F hf
        rw [hd]
        refine Eq.trans e4 ?_
        rw [e1]
        exact e3
      · intro l hl g1 g2 j hj p hp p0
        by_cases hle2 : l = e
        · subst hle2
          rw [hf] at g2
          exact absurd g2 (by decide)
        · exact cl3 l hl (by omega) g2 j hj p hp p0
    · have n1 := okm.nk
      have n2 := okm.nv
      obtain ⟨x2, r2, e2, S1, cl⟩ := fr_l159 K50 (md_findReached_l141 K50 f) he (a.nk (a.el[e]).1 + a.nv (a.el[e]).1) 0 FU x r (by omega) (by unfold FU; omega) F hf hx
      obtain ⟨x3, r3, e3, S2, cl3⟩ := ih (e + 1) f x2 r2 (by omega) (by omega) (F.st S1) S1.o
      refine ⟨x3, r3, ?_, S1.trans S2, ?_⟩
      · rw [hd, show (0 : Int32) = Int32.ofNat 0 from rfl, e2, e1, e3]
      · intro l hl g1 g2 j hj p hp p0
        by_cases hle2 : l = e
        · subst hle2
          exact S2.m _ (cl j (by omega) hj p hp p0)
        · exact cl3 l hl (by omega) (S1.m _ g2) j hj p hp p0
/-- how many are not reached -/
def cz (r : Nat → Int32) (md : Nat) : Nat := sumQ (fun _ => 1) (fun n => r n == 0) md
theorem cz_lt {r r2 : Nat → Int32} : ∀ {md : Nat}, (∀ n, 1 ≤ n → n ≤ md → r n = 0 ∨ r n = 1) → (∀ n, r n = 1 → r2 n = 1) → (∃ n, 1 ≤ n ∧ n ≤ md ∧ r n = 0 ∧ r2 n = 1) → cz r2 md < cz r md := by
  intro md
  induction md with
  | zero => intro _ _ ⟨n, h1, h2, _⟩; omega
  | succ md ih =>
    intro hf hm ⟨n, h1, h2, h3, h4⟩
    unfold cz sumQ
    have hle : sumQ (fun _ => 1) (fun n => r2 n == 0) md ≤ sumQ (fun _ => 1) (fun n => r n == 0) md := by
      refine sumQ_le ?_
      intro k k1 k2 k3
      have k3 : r2 k = 0 := by simpa using k3
      rcases hf k k1 (by omega) with c | c
      · simp [c]
      · have := hm k c
        rw [k3] at this
        exact absurd this (by decide)
    by_cases hn : n = md + 1
    · subst hn
      have g1 : ¬ ((r2 (md + 1) == 0) = true) := by rw [h4]; decide
      have g2 : (r (md + 1) == 0) = true := by rw [h3]; decide
      rw [if_neg g1, if_pos g2]
      omega
    · have := ih (fun k k1 k2 => hf k k1 (by omega)) hm ⟨n, h1, by omega, h3, h4⟩
      unfold cz at this
      have hlast : (if (r2 (md + 1) == 0) = true then 1 else 0) ≤ (if (r (md + 1) == 0) = true then 1 else 0) := by
        by_cases g : (r2 (md + 1) == 0) = true
        · have g3 : r2 (md + 1) = 0 := by simpa using g
          rcases hf (md + 1) (by omega) (by omega) with c | c
          · rw [if_pos g, if_pos (by rw [c]; decide)]
            exact Nat.le_refl _
          · have := hm _ c
            rw [g3] at this
            exact absurd this (by decide)
        · rw [if_neg g]; omega
      omega
theorem fr_l50 {m : Ms} {q : Gm} {a : Ab} : ∀ k fu x r, (x = 1 → cz r a.md < k) → k < fu → Fr m q a r → (x = 0 ∨ x = 1) → (∀ n, rootA a n → r n = 1) → (x = 0 → ∀ n l, r n = 1 → 1 ≤ n → n ≤ a.md → sucA a n l → r l = 1) →
    ∃ r2, md_findReached_l50 fu x (Ms.wre m r) = some (Ms.wre m r2, ()) ∧ ∀ n, 1 ≤ n → n ≤ a.md → (r2 n = 0 ∨ r2 n = 1) ∧ (r2 n = 1 ↔ reaA a n) := by
  have base : ∀ fu x r, 0 < fu → Fr m q a r → x = 0 → (∀ n, rootA a n → r n = 1) → (x = 0 → ∀ n l, r n = 1 → 1 ≤ n → n ≤ a.md → sucA a n l → r l = 1) →
    ∃ r2, md_findReached_l50 fu x (Ms.wre m r) = some (Ms.wre m r2, ()) ∧ ∀ n, 1 ≤ n → n ≤ a.md → (r2 n = 0 ∨ r2 n = 1) ∧ (r2 n = 1 ↔ reaA a n) := by
    intro fu x r hfu F hx hroot hcl
    obtain ⟨f, rfl⟩ : ∃ f, fu = f + 1 := ⟨fu - 1, by omega⟩
    refine ⟨r, ?_, ?_⟩
    · rw [md_findReached_l50, if_pos hx]
    · intro n h1 h2
      refine ⟨F.f n h1 h2, F.s n h1 h2, ?_⟩
      intro rn
      have : obj a n ∧ r n = 1 := by
        refine rn (fun n => obj a n ∧ r n = 1) ?_ ?_
        · intro l hl
          exact ⟨F.ob l (fun P g1 g2 => g1 l hl), hroot l hl⟩
        · intro l j ⟨g1, g2⟩ hs
          have hj := hcl hx l j g2 g1.1 g1.2.1 hs
          refine ⟨F.ob j (fun P p1 p2 => p2 l j (F.s l g1.1 g1.2.1 g2 P p1 p2) hs), hj⟩
      exact this.2
  intro k
  induction k with
  | zero =>
    intro fu x r h hfu F hx hroot hcl
    rcases hx with hx | hx
    · exact base fu x r hfu F hx hroot hcl
    · have := h hx
      omega
  | succ k ih =>
    intro fu x r hk hfu F hx hroot hcl
    rcases hx with hx | hx
    · exact base fu x r (by omega) F hx hroot hcl
    · obtain ⟨f, rfl⟩ : ∃ f, fu = f + 1 := ⟨fu - 1, by omega⟩
      have hk := hk hx
      obtain ⟨x2, r2, e2, S1, cl⟩ := fr_l58 (m := m) (q := q) (md_findReached_l50 f) a.md 1 FU 0 r (by omega) (by omega) (by have := F.R.k; have := F.R.z.K; unfold FU; omega) F (Or.inl rfl)
      obtain ⟨x3, r3, e3, S2, cl3⟩ := fr_l141 (m := m) (q := q) (md_findReached_l50 f) a.el.length 0 FU x2 r2 (by omega) (by have := F.R.e.le; have := F.R.z.el; unfold FU; omega) (F.st S1) S1.o
      have S := S1.trans S2
      have hd : md_findReached_l50 (f + 1) x (Ms.wre m r) = md_findReached_l50 f x3 (Ms.wre m r3) := by
        rw [md_findReached_l50, if_neg (by rw [hx]; exact ne10), show (1 : Int32) = Int32.ofNat 1 from rfl, e2, show (0 : Int32) = Int32.ofNat 0 from rfl, e3]
      have F3 := (F.st S1).st S2
      have hclosed : x3 = 0 → ∀ n l, r3 n = 1 → 1 ≤ n → n ≤ a.md → sucA a n l → r3 l = 1 := by
        intro h3 n l g1 g2 g3 ⟨l0, hs⟩
        have z2 := S2.z h3
        have z1 := S1.z z2.1
        have er : r3 = r := z2.2.trans z1.2
        rcases hs with ⟨kd, i, hi, p, hp⟩ | ⟨kd, en, hen, i, hi, p, hp⟩
        · have := cl n g2 g3 (by rw [← er]; exact g1) kd i hi (l, p) hp l0
          rw [z2.2]; exact this
        · have on := F3.ob n (F3.s n g2 g3 g1)
          have hc := F.A.cn n on kd
          rw [hc, List.mem_map] at hen
          obtain ⟨t, ht, te⟩ := hen
          obtain ⟨ht1, ht2⟩ := List.mem_filter.mp ht
          have ht2 : t.1 = n := by simpa using ht2
          obtain ⟨e, he, ee⟩ := List.getElem_of_mem ht1
          exact cl3 e he (by omega) (by rw [ee, ht2, ← z2.2]; exact g1) i (by rw [ee, ht2]; exact hi) (l, p) (by rw [ee, te]; exact hp) l0
      have hroot3 : ∀ n, rootA a n → r3 n = 1 := fun n hn => S.m n (hroot n hn)
      obtain ⟨r4, e4, h4⟩ := ih f x3 r3 (by
        intro o
        have hlt : cz r3 a.md < cz r a.md := by
          rcases S.g o with c | c
          · exact absurd c (by decide)
          · exact cz_lt S.a S.m c
        omega) (by omega) F3 S.o hroot3 hclosed
      exact ⟨r4, hd.trans e4, h4⟩
theorem cz_le (r : Nat → Int32) : ∀ md, cz r md ≤ md := by
  intro md
  induction md with
  | zero => exact Nat.le_refl _
  | succ md ih =>
    unfold cz sumQ
    unfold cz at ih
    split <;> omega
theorem reaA_obj {a : Ab} (A : AI a) {n : Nat} (r : reaA a n) : obj a n := by
  have key : ∀ w m p, okW a w → w = .inr (m, p) → m ≠ 0 → obj a m := by
    intro w m p ok e m0
    subst e
    rcases ok with ⟨k1, _⟩ | ⟨k1, _⟩
    · exact absurd k1 m0
    · exact k1
  refine r (fun n => obj a n) ?_ ?_
  · intro m ⟨m0, i, hi, p, e⟩
    exact key _ m p (A.rg i hi) e m0
  · intro n m on ⟨m0, hs⟩
    rcases hs with ⟨kd, i, hi, p, hp⟩ | ⟨kd, en, hen, i, hi, p, hp⟩
    · exact key _ m p ((A.rw on kd).2 i hi) hp m0
    · exact key _ m p ((A.mp on kd).wd en hen i hi) hp m0
theorem fr_l25 {m : Ms} {q : Gm} {a : Ab} : ∀ k i fu r, i + k = 16 → k < fu → Fr m q a r → (∀ n j p, j < i → a.rg j = .inr (n, p) → n ≠ 0 → r n = 1) →
    ∃ r2, md_findReached_l25 fu (Int32.ofNat i) (Ms.wre m r) = md_findReached_l50 FU 1 (Ms.wre m r2) ∧ Fr m q a r2 ∧ ∀ n, rootA a n → r2 n = 1 := by
  intro k
  induction k with
  | zero =>
    intro i fu r hi hfu F hr
    obtain ⟨f, rfl⟩ : ∃ f, fu = f + 1 := ⟨fu - 1, by omega⟩
    have : i = 16 := by omega
    subst this
    refine ⟨r, ?_, F, ?_⟩
    · rw [md_findReached_l25, if_pos (by decide)]
    · intro n ⟨n0, j, hj, p, e⟩
      exact hr n j p hj e n0
  | succ k ih =>
    intro i fu r hi hfu F hr
    obtain ⟨f, rfl⟩ : ∃ f, fu = f + 1 := ⟨fu - 1, by omega⟩
    have R := F.R
    have Z := R.z
    have hK := R.k
    have zk := Z.K
    have hw := F.A.rg i (by omega)
    have hre := md_reach_e (m := Ms.wre m r) (w := a.rg i) (md := a.md) (okW_le hw) (show a.md < m.nre by rw [Z.re]; exact hK) (show m.nre ≤ 4096 by rw [Z.re]; omega) F.f
    have S1 : Stq a r (rch r (a.rg i)) 0 (if nf r (a.rg i) = 0 then 0 else 1) := Stq.one F.f (Or.inl rfl) hw (by
      intro p hp p0 _ P h1 h2
      exact h1 p.1 ⟨p0, i, by omega, p.2, hp⟩)
    obtain ⟨r2, e2, F2, h2⟩ := ih (i + 1) f (rch r (a.rg i)) (by omega) (by omega) (F.st S1) (by
      intro n j p hj e n0
      by_cases hji : j = i
      · subst hji
        rw [e]
        exact rch_in (p := (n, p)) n0
      · exact S1.m n (hr n j p (by omega) e n0))
    refine ⟨r2, ?_, F2, h2⟩
    rw [← e2, md_findReached_l25]
    have e1 : Int32.ofNat i + 1 = Int32.ofNat (i + 1) := q_add i 1
    have c16 : ¬ ((16 : Int32) ≤ Int32.ofNat i) := fun c => absurd ((q_le (a := 16) (by omega) (by omega)).mp c) (by omega)
    rw [if_neg c16]
    show gd (inb (Int32.ofNat i) m.ntg) (bw (md_reach (Ms.wre m r) (m.atg (Int32.ofNat i).toNatClampNeg)) _) = _
    rw [Z.tg, q_inb (by omega) (by omega), q_nat (by omega), (R.rg i (by omega)).1, hre, e1]
    rfl
theorem fr_l2 {m : Ms} {md : Nat} (hmad : m.mad = Int32.ofNat md) (hmd : md < m.nre) (hk : m.nre ≤ 4096) : ∀ k n fu r, n + k = md + 1 → 1 ≤ n → k < fu → (∀ j, 1 ≤ j → j < n → r j = 0) →
    ∃ r2, md_findReached_l2 fu (Int32.ofNat n) (Ms.wre m r) = md_findReached_l25 FU 0 (Ms.wre m r2) ∧ ∀ j, 1 ≤ j → j ≤ md → r2 j = 0 := by
  intro k
  induction k with
  | zero =>
    intro n fu r hi h1 hfu hr
    obtain ⟨f, rfl⟩ : ∃ f, fu = f + 1 := ⟨fu - 1, by omega⟩
    refine ⟨r, ?_, fun j h1 h2 => hr j h1 (by omega)⟩
    rw [md_findReached_l2]
    show (if m.mad < Int32.ofNat n then _ else _) = _
    rw [hmad, if_pos ((q_lt (by omega) (by omega)).mpr (by omega))]
  | succ k ih =>
    intro n fu r hi h1 hfu hr
    obtain ⟨f, rfl⟩ : ∃ f, fu = f + 1 := ⟨fu - 1, by omega⟩
    have e1 : Int32.ofNat n + 1 = Int32.ofNat (n + 1) := q_add n 1
    obtain ⟨r2, e2, h2⟩ := ih (n + 1) f (upd r n 0) (by omega) (by omega) (by omega) (by
      intro j g1 g2
      unfold upd
      by_cases hj : j = n
      · rw [if_pos hj]
      · rw [if_neg hj]; exact hr j g1 (by omega))
    refine ⟨r2, ?_, h2⟩
    rw [← e2, md_findReached_l2]
    show (if m.mad < Int32.ofNat n then _ else gd (inb (Int32.ofNat n) m.nre) (md_findReached_l2 f (Int32.ofNat n + 1) (Ms.wre m (upd r (Int32.ofNat n).toNatClampNeg (vp_nar .boolean 0))))) = _
    rw [hmad, if_neg (fun c => absurd ((q_lt (by omega) (by omega)).mp c) (by omega)), q_inb (by omega) (by omega), q_nat (by omega), nar0, e1]
    rfl
theorem md_findReached_e {m : Ms} {q : Gm} {a : Ab} (R : RM m q a) (A : AI a) : ∃ r, md_findReached m = some (Ms.wre m r, ()) ∧ ∀ n, 1 ≤ n → n ≤ a.md → (r n = 0 ∨ r n = 1) ∧ (r n = 1 ↔ reaA a n) := by
  have Z := R.z
  have hK := R.k
  have zk := Z.K
  obtain ⟨r1, e1, h1⟩ := fr_l2 (m := m) R.s.mad (by rw [Z.re]; exact hK) (by rw [Z.re]; omega) a.md 1 FU m.are (by omega) (by omega) (by unfold FU; omega) (fun j g1 g2 => by omega)
  have F1 : Fr m q a r1 := ⟨R, A, fun n g1 g2 => Or.inl (h1 n g1 g2), fun n g1 g2 g3 => by rw [h1 n g1 g2] at g3; exact absurd g3 (by decide), fun n rn => reaA_obj A rn⟩
  obtain ⟨r2, e2, F2, h2⟩ := fr_l25 16 0 FU r1 (by omega) (by unfold FU; omega) F1 (fun n j p hj => by omega)
  obtain ⟨r3, e3, h3⟩ := fr_l50 (m := m) (q := q) (a := a) (a.md + 1) FU 1 r2 (fun _ => by have := cz_le r2 a.md; omega) (by unfold FU; omega) F2 (Or.inr rfl) h2 (fun c => absurd c ne10)
  refine ⟨r3, ?_, h3⟩
  unfold md_findReached
  have e0 : md_findReached_l2 FU 1 m = md_findReached_l2 FU (Int32.ofNat 1) (Ms.wre m m.are) := rfl
  rw [e0, e1, show (0 : Int32) = Int32.ofNat 0 from rfl, e2, e3]
