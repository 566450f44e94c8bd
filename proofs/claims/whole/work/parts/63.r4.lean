/-! The reference pushes together what is there. -/
theorem narb (x : Int32) : vp_nar .byte (vp_nar .byte x) = vp_nar .byte x := by
  show (x.toInt8.toInt32).toInt8.toInt32 = x.toInt8.toInt32
  simp
theorem pu_l68w {m : Ms} {q : Gm} {a : Ab} (K6 : Int32 → Int32 → Int32 → Ms → Option (Ms × Unit)) {n X s : Nat} {x2 : Int32} (t : Nat → Int32) (v : Nat → Int64) (hso : m.aso n = 2) (hsi : m.asi n = Int32.ofNat (a.ln n)) (hn : n < m.nsi) (hz : m.nsi ≤ 4096) (hz2 : m.nso = m.nsi) (hX : X ≤ s) (hs : s + a.ln n ≤ m.nwt) (hw : m.nwt ≤ 131072) (hwv : m.nwv = m.nwt) : ∀ k i fu, i + k = a.ln n → k < fu →
    md_push_l68 K6 fu (Int32.ofNat (X + i)) x2 (Int32.ofNat n) (Int32.ofNat s) (Int32.ofNat i) (Ms.wwv (Ms.wwt m (va_cpy t t s X i)) (va_cpy v v s X i)) = K6 (Int32.ofNat (X + a.ln n)) x2 (Int32.ofNat n + 1) (Ms.wwv (Ms.wwt m (va_cpy t t s X (a.ln n))) (va_cpy v v s X (a.ln n))) := by
  intro k
  induction k with
  | zero =>
    intro i fu hi hfu
    obtain ⟨f, rfl⟩ : ∃ f, fu = f + 1 := ⟨fu - 1, by omega⟩
    have hi2 : i = a.ln n := by omega
    rw [md_push_l68]
    show gd (inb (Int32.ofNat n) m.nsi) (if m.asi (Int32.ofNat n).toNatClampNeg ≤ Int32.ofNat i then _ else _) = _
    rw [q_inb hn (by omega), q_nat (by omega), hsi, hi2, if_pos ((q_le (by omega) (by omega)).mpr (Nat.le_refl _))]
    rfl
  | succ k ih =>
    intro i fu hi hfu
    obtain ⟨f, rfl⟩ : ∃ f, fu = f + 1 := ⟨fu - 1, by omega⟩
    have e1 : Int32.ofNat i + 1 = Int32.ofNat (i + 1) := q_add i 1
    have e2 : Int32.ofNat (X + i) + 1 = Int32.ofNat (X + (i + 1)) := q_add (X + i) 1
    rw [md_push_l68]
    show gd (inb (Int32.ofNat n) m.nsi) (if m.asi (Int32.ofNat n).toNatClampNeg ≤ Int32.ofNat i then _ else gd (inb (Int32.ofNat n) m.nso) (if m.aso (Int32.ofNat n).toNatClampNeg = 2 then gd (inb (Int32.ofNat s + Int32.ofNat i) m.nwt) (gd (inb (Int32.ofNat (X + i)) m.nwt) (gd (inb (Int32.ofNat s + Int32.ofNat i) m.nwv) (gd (inb (Int32.ofNat (X + i)) m.nwv) (md_push_l68 K6 f (Int32.ofNat (X + i) + 1) x2 (Int32.ofNat n) (Int32.ofNat s) (Int32.ofNat i + 1) (Ms.wwv (Ms.wwt m (upd (va_cpy t t s X i) ((Int32.ofNat (X + i)).toNatClampNeg) (va_cpy t t s X i (Int32.ofNat s + Int32.ofNat i).toNatClampNeg))) (vp_updL (va_cpy v v s X i) ((Int32.ofNat (X + i)).toNatClampNeg) (va_cpy v v s X i (Int32.ofNat s + Int32.ofNat i).toNatClampNeg))))))) else _)) = _
    rw [q_inb hn (by omega), q_nat (show n < 2147483648 by omega), hsi, if_neg (fun c => absurd ((q_le (by omega) (by omega)).mp c) (by omega)), hz2, q_inb hn (by omega), hso, if_pos rfl, q_add, hwv, q_inb (show s + i < m.nwt by omega) (by omega), q_inb (show X + i < m.nwt by omega) (by omega), q_nat (show X + i < 2147483648 by omega), q_nat (show s + i < 2147483648 by omega), e1, e2]
    have := ih (i + 1) f (by omega) (by omega)
    rw [← cpy_stepG hX, ← cpy_stepG hX] at this
    exact this
theorem pu_l68b {m : Ms} {q : Gm} {a : Ab} (K6 : Int32 → Int32 → Int32 → Ms → Option (Ms × Unit)) {n X s : Nat} {x1 : Int32} (t : Nat → Int32) (ht : ∀ i, i < a.ln n → vp_nar .byte (t (s + i)) = t (s + i)) (hso : m.aso n = 3) (hsi : m.asi n = Int32.ofNat (a.ln n)) (hn : n < m.nsi) (hz : m.nsi ≤ 4096) (hz2 : m.nso = m.nsi) (hX : X ≤ s) (hs : s + a.ln n ≤ m.nby) (hw : m.nby ≤ 1048576) : ∀ k i fu, i + k = a.ln n → k < fu →
    md_push_l68 K6 fu x1 (Int32.ofNat (X + i)) (Int32.ofNat n) (Int32.ofNat s) (Int32.ofNat i) (Ms.wby m (va_cpy t t s X i)) = K6 x1 (Int32.ofNat (X + a.ln n)) (Int32.ofNat n + 1) (Ms.wby m (va_cpy t t s X (a.ln n))) := by
  intro k
  induction k with
  | zero =>
    intro i fu hi hfu
    obtain ⟨f, rfl⟩ : ∃ f, fu = f + 1 := ⟨fu - 1, by omega⟩
    have hi2 : i = a.ln n := by omega
    rw [md_push_l68]
    show gd (inb (Int32.ofNat n) m.nsi) (if m.asi (Int32.ofNat n).toNatClampNeg ≤ Int32.ofNat i then _ else _) = _
    rw [q_inb hn (by omega), q_nat (by omega), hsi, hi2, if_pos ((q_le (by omega) (by omega)).mpr (Nat.le_refl _))]
    rfl
  | succ k ih =>
    intro i fu hi hfu
    obtain ⟨f, rfl⟩ : ∃ f, fu = f + 1 := ⟨fu - 1, by omega⟩
    have e1 : Int32.ofNat i + 1 = Int32.ofNat (i + 1) := q_add i 1
    have e2 : Int32.ofNat (X + i) + 1 = Int32.ofNat (X + (i + 1)) := q_add (X + i) 1
    have n32 : ¬ (3 : Int32) = 2 := by decide
    rw [md_push_l68]
    show gd (inb (Int32.ofNat n) m.nsi) (if m.asi (Int32.ofNat n).toNatClampNeg ≤ Int32.ofNat i then _ else gd (inb (Int32.ofNat n) m.nso) (if m.aso (Int32.ofNat n).toNatClampNeg = 2 then _ else gd (inb (Int32.ofNat s + Int32.ofNat i) m.nby) (gd (inb (Int32.ofNat (X + i)) m.nby) (md_push_l68 K6 f x1 (Int32.ofNat (X + i) + 1) (Int32.ofNat n) (Int32.ofNat s) (Int32.ofNat i + 1) (Ms.wby m (upd (va_cpy t t s X i) ((Int32.ofNat (X + i)).toNatClampNeg) (vp_nar .byte (va_cpy t t s X i (Int32.ofNat s + Int32.ofNat i).toNatClampNeg)))))))) = _
    rw [q_inb hn (by omega), q_nat (show n < 2147483648 by omega), hsi, if_neg (fun c => absurd ((q_le (by omega) (by omega)).mp c) (by omega)), hz2, q_inb hn (by omega), hso, if_neg n32, q_add, q_inb (show s + i < m.nby by omega) (by omega), q_inb (show X + i < m.nby by omega) (by omega), q_nat (show X + i < 2147483648 by omega), q_nat (show s + i < 2147483648 by omega), e1, e2]
    have hb : vp_nar .byte (va_cpy t t s X i (s + i)) = va_cpy t t s X i (s + i) := by
      have : va_cpy t t s X i (s + i) = t (s + i) := by
        unfold va_cpy
        rw [if_neg (by omega)]
      rw [this]
      exact ht i (by omega)
    rw [hb]
    have := ih (i + 1) f (by omega) (by omega)
    rw [← cpy_stepG hX] at this
    exact this
/-- words (k = 2) or bytes (k = 3) of what is there up to j -/
def pre (a : Ab) (k j : Nat) : Nat := sumQ a.ln (fun n => a.th n && a.kd n == k) j
theorem pre_in {a : Ab} {k n : Nat} (h1 : a.th (n + 1) = true) (h2 : a.kd (n + 1) = k) : pre a k (n + 1) = pre a k n + a.ln (n + 1) := by
  unfold pre
  show sumQ a.ln _ n + (if (a.th (n + 1) && a.kd (n + 1) == k) = true then a.ln (n + 1) else 0) = _
  rw [if_pos (by rw [h1, h2]; simp)]
theorem pre_out {a : Ab} {k n : Nat} (h : ¬ (a.th (n + 1) = true ∧ a.kd (n + 1) = k)) : pre a k (n + 1) = pre a k n := by
  unfold pre
  show sumQ a.ln _ n + (if (a.th (n + 1) && a.kd (n + 1) == k) = true then a.ln (n + 1) else 0) = _
  rw [if_neg, Nat.add_zero]
  intro c
  rw [Bool.and_eq_true, beq_iff_eq] at c
  exact h c
theorem pre_mono {a : Ab} {k : Nat} : ∀ {i j : Nat}, i ≤ j → pre a k i ≤ pre a k j := by
  intro i j h
  induction j with
  | zero => rw [show i = 0 from by omega]; exact Nat.le_refl _
  | succ j ih =>
    by_cases hij : i = j + 1
    · rw [hij]; exact Nat.le_refl _
    · have h1 := ih (by omega)
      by_cases hc : a.th (j + 1) = true ∧ a.kd (j + 1) = k
      · rw [pre_in hc.1 hc.2]; omega
      · rw [pre_out hc]; exact h1
theorem pre_le {a : Ab} {sr : Nat → Nat} {k : Nat} (hsr : ∀ n l, obj a n → obj a l → n < l → a.kd n = a.kd l → a.kd n = k → sr n + a.ln n ≤ sr l) : ∀ j, j ≤ a.md → ∀ l, j < l → obj a l → a.kd l = k → pre a k j ≤ sr l := by
  intro j
  induction j with
  | zero => intro _ l _ _ _; exact Nat.zero_le _
  | succ j ih =>
    intro hj l hl ol kl
    by_cases hc : a.th (j + 1) = true ∧ a.kd (j + 1) = k
    · have oj : obj a (j + 1) := ⟨by omega, hj, hc.1⟩
      rw [pre_in hc.1 hc.2]
      have h1 := ih (by omega) (j + 1) (by omega) oj hc.2
      have h2 := hsr (j + 1) l oj ol hl (hc.2.trans kl.symm) hc.2
      omega
    · rw [pre_out hc]
      exact ih (by omega) l (by omega) ol kl
/-- before the push: starts as they were, what is there as it will be -/
def Pre (m : Ms) (q : Gm) (a : Ab) : Prop :=
  (RMz m q) ∧
  (a.md < q.K) ∧
  (m.mad = Int32.ofNat a.md) ∧
  (∀ n, 1 ≤ n → n ≤ a.md → m.ath n = if a.th n = true then 1 else 0) ∧
  (∀ n, obj a n → a.kd n = 2 ∨ a.kd n = 3 ∨ a.kd n = 4) ∧
  (∀ n, obj a n → m.aso n = Int32.ofNat (a.kd n)) ∧
  (∀ n, obj a n → m.asi n = Int32.ofNat (a.ln n)) ∧
  (∀ n, obj a n → a.ln n ≤ 32768) ∧
  (∀ n l, obj a n → obj a l → n < l → a.kd n = a.kd l → a.kd n ≠ 4 → q.sr n + a.ln n ≤ q.sr l) ∧
  (∀ n, obj a n → a.kd n = 2 → q.sr n + a.ln n ≤ q.wd) ∧
  (∀ n, obj a n → a.kd n = 3 → q.sr n + a.ln n ≤ q.bc)
theorem Pre.z {m : Ms} {q : Gm} {a : Ab} (hyp : Pre m q a) : RMz m q := hyp.1
theorem Pre.k {m : Ms} {q : Gm} {a : Ab} (hyp : Pre m q a) : a.md < q.K := hyp.2.1
theorem Pre.mad {m : Ms} {q : Gm} {a : Ab} (hyp : Pre m q a) : m.mad = Int32.ofNat a.md := hyp.2.2.1
theorem Pre.th {m : Ms} {q : Gm} {a : Ab} (hyp : Pre m q a) : ∀ n, 1 ≤ n → n ≤ a.md → m.ath n = if a.th n = true then 1 else 0 := hyp.2.2.2.1
theorem Pre.kd {m : Ms} {q : Gm} {a : Ab} (hyp : Pre m q a) : ∀ n, obj a n → a.kd n = 2 ∨ a.kd n = 3 ∨ a.kd n = 4 := hyp.2.2.2.2.1
theorem Pre.so {m : Ms} {q : Gm} {a : Ab} (hyp : Pre m q a) : ∀ n, obj a n → m.aso n = Int32.ofNat (a.kd n) := hyp.2.2.2.2.2.1
theorem Pre.si {m : Ms} {q : Gm} {a : Ab} (hyp : Pre m q a) : ∀ n, obj a n → m.asi n = Int32.ofNat (a.ln n) := hyp.2.2.2.2.2.2.1
theorem Pre.ln {m : Ms} {q : Gm} {a : Ab} (hyp : Pre m q a) : ∀ n, obj a n → a.ln n ≤ 32768 := hyp.2.2.2.2.2.2.2.1
theorem Pre.sr {m : Ms} {q : Gm} {a : Ab} (hyp : Pre m q a) : ∀ n l, obj a n → obj a l → n < l → a.kd n = a.kd l → a.kd n ≠ 4 → q.sr n + a.ln n ≤ q.sr l := hyp.2.2.2.2.2.2.2.2.1
theorem Pre.rb {m : Ms} {q : Gm} {a : Ab} (hyp : Pre m q a) : ∀ n, obj a n → a.kd n = 2 → q.sr n + a.ln n ≤ q.wd := hyp.2.2.2.2.2.2.2.2.2.1
theorem Pre.tb {m : Ms} {q : Gm} {a : Ab} (hyp : Pre m q a) : ∀ n, obj a n → a.kd n = 3 → q.sr n + a.ln n ≤ q.bc := hyp.2.2.2.2.2.2.2.2.2.2

/-- in the push: s where things start, from n on as before -/
def Pus (m : Ms) (q : Gm) (a : Ab) (n : Nat) (s : Nat → Int32) (t : Nat → Int32) (v : Nat → Int64) (b : Nat → Int32) : Prop :=
  (∀ l, obj a l → a.kd l = 2 → ∃ x, (x = if l < n then pre a 2 (l - 1) else q.sr l) ∧ s l = Int32.ofNat x ∧ ∀ i, i < a.ln l → t (x + i) = tgW (a.wo l i) ∧ v (x + i) = vlW (a.wo l i)) ∧
  (∀ l, obj a l → a.kd l = 3 → ∃ x, (x = if l < n then pre a 3 (l - 1) else q.sr l) ∧ s l = Int32.ofNat x ∧ ∀ i, i < a.ln l → b (x + i) = vp_nar .byte (Int32.ofNat (a.bs l i)))
theorem Pus.rw {m : Ms} {q : Gm} {a : Ab} {n : Nat} {s : Nat → Int32} {t : Nat → Int32} {v : Nat → Int64} {b : Nat → Int32} (hyp : Pus m q a n s t v b) : ∀ l, obj a l → a.kd l = 2 → ∃ x, (x = if l < n then pre a 2 (l - 1) else q.sr l) ∧ s l = Int32.ofNat x ∧ ∀ i, i < a.ln l → t (x + i) = tgW (a.wo l i) ∧ v (x + i) = vlW (a.wo l i) := hyp.1
theorem Pus.tx {m : Ms} {q : Gm} {a : Ab} {n : Nat} {s : Nat → Int32} {t : Nat → Int32} {v : Nat → Int64} {b : Nat → Int32} (hyp : Pus m q a n s t v b) : ∀ l, obj a l → a.kd l = 3 → ∃ x, (x = if l < n then pre a 3 (l - 1) else q.sr l) ∧ s l = Int32.ofNat x ∧ ∀ i, i < a.ln l → b (x + i) = vp_nar .byte (Int32.ofNat (a.bs l i)) := hyp.2

theorem cpy0 {α : Type} (f : Nat → α) (s X : Nat) : va_cpy f f s X 0 = f := by
  funext a
  unfold va_cpy
  rw [if_neg (by omega)]
def Ms.pw (m : Ms) (s : Nat → Int32) (t : Nat → Int32) (v : Nat → Int64) (b : Nat → Int32) : Ms := Ms.wsr (Ms.wby (Ms.wwv (Ms.wwt m t) v) b) s
theorem pu_l6 {m : Ms} {q : Gm} {a : Ab} (P : Pre m q a) : ∀ k n fu s t v b, n + k = a.md + 1 → 1 ≤ n → k < fu → Pus m q a n s t v b →
    ∃ s2 t2 v2 b2, md_push_l6 fu (Int32.ofNat (pre a 2 (n - 1))) (Int32.ofNat (pre a 3 (n - 1))) (Int32.ofNat n) (Ms.pw m s t v b) = md_push_l173 FU 0 0 (Ms.sbyc (Ms.swrd (Ms.pw m s2 t2 v2 b2) (Int32.ofNat (pre a 2 a.md))) (Int32.ofNat (pre a 3 a.md))) ∧ Pus m q a (a.md + 1) s2 t2 v2 b2 := by
  have Z := P.z
  have zk := Z.K
  have hK := P.k
  have h2 := pre_le (a := a) (sr := q.sr) (k := 2) (fun n l o1 o2 hl hk h => P.sr n l o1 o2 hl hk (by omega))
  have h3 := pre_le (a := a) (sr := q.sr) (k := 3) (fun n l o1 o2 hl hk h => P.sr n l o1 o2 hl hk (by omega))
  intro k
  induction k with
  | zero =>
    intro n fu s t v b hi h1 hfu U
    obtain ⟨f, rfl⟩ : ∃ f, fu = f + 1 := ⟨fu - 1, by omega⟩
    have hn : n = a.md + 1 := by omega
    subst hn
    refine ⟨s, t, v, b, ?_, U⟩
    rw [md_push_l6]
    show (if m.mad < Int32.ofNat (a.md + 1) then _ else _) = _
    rw [P.mad, if_pos ((q_lt (by omega) (by omega)).mpr (by omega))]
    rfl
  | succ k ih =>
    intro n fu s t v b hi h1 hfu U
    obtain ⟨f, rfl⟩ : ∃ f, fu = f + 1 := ⟨fu - 1, by omega⟩
    have e1 : Int32.ofNat n + 1 = Int32.ofNat (n + 1) := q_add n 1
    have hn1 : n - 1 + 1 = n := by omega
    have hd : md_push_l6 (f + 1) (Int32.ofNat (pre a 2 (n - 1))) (Int32.ofNat (pre a 3 (n - 1))) (Int32.ofNat n) (Ms.pw m s t v b) = if m.ath n = 0 then md_push_l6 f (Int32.ofNat (pre a 2 (n - 1))) (Int32.ofNat (pre a 3 (n - 1))) (Int32.ofNat (n + 1)) (Ms.pw m s t v b) else if m.aso n = 4 then md_push_l6 f (Int32.ofNat (pre a 2 (n - 1))) (Int32.ofNat (pre a 3 (n - 1))) (Int32.ofNat (n + 1)) (Ms.pw m s t v b) else if m.aso n = 2 then md_push_l68 (md_push_l6 f) FU (Int32.ofNat (pre a 2 (n - 1))) (Int32.ofNat (pre a 3 (n - 1))) (Int32.ofNat n) (s n) 0 (Ms.pw m (upd s n (Int32.ofNat (pre a 2 (n - 1)))) t v b) else md_push_l68 (md_push_l6 f) FU (Int32.ofNat (pre a 2 (n - 1))) (Int32.ofNat (pre a 3 (n - 1))) (Int32.ofNat n) (s n) 0 (Ms.pw m (upd s n (Int32.ofNat (pre a 3 (n - 1)))) t v b) := by
      rw [md_push_l6]
      show (if m.mad < Int32.ofNat n then _ else gd (inb (Int32.ofNat n) m.nth) (if m.ath (Int32.ofNat n).toNatClampNeg = 0 then md_push_l6 f (Int32.ofNat (pre a 2 (n - 1))) (Int32.ofNat (pre a 3 (n - 1))) (Int32.ofNat n + 1) (Ms.pw m s t v b) else gd (inb (Int32.ofNat n) m.nso) (if m.aso (Int32.ofNat n).toNatClampNeg = 4 then md_push_l6 f (Int32.ofNat (pre a 2 (n - 1))) (Int32.ofNat (pre a 3 (n - 1))) (Int32.ofNat n + 1) (Ms.pw m s t v b) else gd (inb (Int32.ofNat n) m.nsr) (gd (inb (Int32.ofNat n) m.nso) (if m.aso (Int32.ofNat n).toNatClampNeg = 2 then gd (inb (Int32.ofNat n) m.nsr) (md_push_l68 (md_push_l6 f) FU (Int32.ofNat (pre a 2 (n - 1))) (Int32.ofNat (pre a 3 (n - 1))) (Int32.ofNat n) (s (Int32.ofNat n).toNatClampNeg) 0 (Ms.pw m (upd s (Int32.ofNat n).toNatClampNeg (Int32.ofNat (pre a 2 (n - 1)))) t v b)) else gd (inb (Int32.ofNat n) m.nsr) (md_push_l68 (md_push_l6 f) FU (Int32.ofNat (pre a 2 (n - 1))) (Int32.ofNat (pre a 3 (n - 1))) (Int32.ofNat n) (s (Int32.ofNat n).toNatClampNeg) 0 (Ms.pw m (upd s (Int32.ofNat n).toNatClampNeg (Int32.ofNat (pre a 3 (n - 1)))) t v b))))))) = _
      rw [P.mad, if_neg (fun c => absurd ((q_lt (by omega) (by omega)).mp c) (by omega)), Z.th, Z.so, Z.sr, q_inb (show n < q.K by omega) (by omega), q_nat (show n < 2147483648 by omega), e1]
      rfl
    have keep : (¬ obj a n ∨ a.kd n = 4) → Pus m q a (n + 1) s t v b := by
      intro hc
      refine ⟨?_, ?_⟩
      · intro l ol kl
        obtain ⟨x, hx, r⟩ := U.rw l ol kl
        refine ⟨x, ?_, r⟩
        have hln : l ≠ n := by
          intro e
          subst e
          rcases hc with c | c
          · exact c ol
          · omega
        rw [hx]
        by_cases hl : l < n
        · rw [if_pos hl, if_pos (by omega)]
        · rw [if_neg hl, if_neg (by omega)]
      · intro l ol kl
        obtain ⟨x, hx, r⟩ := U.tx l ol kl
        refine ⟨x, ?_, r⟩
        have hln : l ≠ n := by
          intro e
          subst e
          rcases hc with c | c
          · exact c ol
          · omega
        rw [hx]
        by_cases hl : l < n
        · rw [if_pos hl, if_pos (by omega)]
        · rw [if_neg hl, if_neg (by omega)]
    by_cases ht : a.th n = true
    · have on : obj a n := ⟨h1, by omega, ht⟩
      have h0 : m.ath n = 1 := by rw [P.th n h1 (by omega), if_pos ht]
      have hl := P.ln n on
      rw [h0, if_neg ne10, P.so n on] at hd
      rcases P.kd n on with kd | kd | kd
      · have n24 : ¬ (Int32.ofNat 2 = 4) := by decide
        rw [kd, if_neg n24, if_pos c22] at hd
        obtain ⟨x, hx, hs, hw⟩ := U.rw n on kd
        rw [if_neg (by omega)] at hx
        subst hx
        have hle := h2 (n - 1) (by omega) n (by omega) on kd
        have hrb := P.rb n on kd
        have zw := Z.wl
        have hp2 : pre a 2 n = pre a 2 (n - 1) + a.ln n := by
          have := pre_in (a := a) (k := 2) (n := n - 1) (by rw [hn1]; exact ht) (by rw [hn1]; exact kd)
          rw [hn1] at this
          exact this
        have hp3 : pre a 3 n = pre a 3 (n - 1) := by
          have := pre_out (a := a) (k := 3) (n := n - 1) (by rw [hn1]; omega)
          rw [hn1] at this
          exact this
        have L := pu_l68w (m := Ms.wsr (Ms.wby m b) (upd s n (Int32.ofNat (pre a 2 (n - 1))))) (q := q) (a := a) (md_push_l6 f) (n := n) (X := pre a 2 (n - 1)) (s := q.sr n) (x2 := Int32.ofNat (pre a 3 (n - 1))) t v (show m.aso n = 2 from by rw [P.so n on, kd]; rfl) (P.si n on) (show n < m.nsi from by rw [Z.si]; omega) (show m.nsi ≤ 4096 from by rw [Z.si]; omega) (show m.nso = m.nsi from by rw [Z.so, Z.si]) hle (show q.sr n + a.ln n ≤ m.nwt by omega) (show m.nwt ≤ 131072 by omega) Z.wt (a.ln n) 0 FU (by omega) (by unfold FU; omega)
        rw [cpy0, cpy0, Nat.add_zero] at L
        obtain ⟨s2, t2, v2, b2, E, V⟩ := ih (n + 1) f (upd s n (Int32.ofNat (pre a 2 (n - 1)))) (va_cpy t t (q.sr n) (pre a 2 (n - 1)) (a.ln n)) (va_cpy v v (q.sr n) (pre a 2 (n - 1)) (a.ln n)) b (by omega) (by omega) (by omega) (by
          refine ⟨?_, ?_⟩
          · intro l ol kl
            by_cases hln : l = n
            · subst hln
              refine ⟨pre a 2 (l - 1), by rw [if_pos (by omega)], if_pos rfl, ?_⟩
              intro i hi
              have := hw i hi
              unfold va_cpy
              rw [if_pos (by omega), if_pos (by omega), show pre a 2 (l - 1) + i - pre a 2 (l - 1) = i from by omega]
              exact this
            · obtain ⟨y, hy, r1, r2⟩ := U.rw l ol kl
              refine ⟨y, ?_, ?_, ?_⟩
              · rw [hy]
                by_cases hl : l < n
                · rw [if_pos hl, if_pos (by omega)]
                · rw [if_neg hl, if_neg (by omega)]
              · show (if l = n then _ else s l) = _
                rw [if_neg hln]; exact r1
              · intro i hi
                have := r2 i hi
                have hout : ¬ (pre a 2 (n - 1) ≤ y + i ∧ y + i < pre a 2 (n - 1) + a.ln n) := by
                  by_cases hl : l < n
                  · rw [if_pos hl] at hy
                    have g1 : pre a 2 l = pre a 2 (l - 1) + a.ln l := by
                      have hl1 : l - 1 + 1 = l := by have := ol.1; omega
                      have := pre_in (a := a) (k := 2) (n := l - 1) (by rw [hl1]; exact ol.2.2) (by rw [hl1]; exact kl)
                      rw [hl1] at this
                      exact this
                    have g2 := pre_mono (a := a) (k := 2) (show l ≤ n - 1 by omega)
                    omega
                  · rw [if_neg hl] at hy
                    have := P.sr n l on ol (by omega) (by omega) (by omega)
                    omega
                unfold va_cpy
                rw [if_neg hout, if_neg hout]
                exact this
          · intro l ol kl
            obtain ⟨y, hy, r1, r2⟩ := U.tx l ol kl
            have hln : l ≠ n := fun e => by rw [e, kd] at kl; omega
            refine ⟨y, ?_, ?_, r2⟩
            · rw [hy]
              by_cases hl : l < n
              · rw [if_pos hl, if_pos (by omega)]
              · rw [if_neg hl, if_neg (by omega)]
            · show (if l = n then _ else s l) = _
              rw [if_neg hln]; exact r1)
        refine ⟨s2, t2, v2, b2, ?_, V⟩
        rw [hd, hs]
        refine Eq.trans L ?_
        rw [show n + 1 - 1 = n from by omega, hp2, hp3] at E
        rw [e1]
        exact E
      · have n34 : ¬ (Int32.ofNat 3 = 4) := by decide
        have n32 : ¬ (Int32.ofNat 3 = 2) := by decide
        rw [kd, if_neg n34, if_neg n32] at hd
        obtain ⟨x, hx, hs, hw⟩ := U.tx n on kd
        rw [if_neg (by omega)] at hx
        subst hx
        have hle := h3 (n - 1) (by omega) n (by omega) on kd
        have hrb := P.tb n on kd
        have zw := Z.by
        have hp3 : pre a 3 n = pre a 3 (n - 1) + a.ln n := by
          have := pre_in (a := a) (k := 3) (n := n - 1) (by rw [hn1]; exact ht) (by rw [hn1]; exact kd)
          rw [hn1] at this
          exact this
        have hp2 : pre a 2 n = pre a 2 (n - 1) := by
          have := pre_out (a := a) (k := 2) (n := n - 1) (by rw [hn1]; omega)
          rw [hn1] at this
          exact this
        have L := pu_l68b (m := Ms.wsr (Ms.wwv (Ms.wwt m t) v) (upd s n (Int32.ofNat (pre a 3 (n - 1))))) (q := q) (a := a) (md_push_l6 f) (n := n) (X := pre a 3 (n - 1)) (s := q.sr n) (x1 := Int32.ofNat (pre a 2 (n - 1))) b (by intro i hi; rw [hw i hi]; exact narb _) (show m.aso n = 3 from by rw [P.so n on, kd]; rfl) (P.si n on) (show n < m.nsi from by rw [Z.si]; omega) (show m.nsi ≤ 4096 from by rw [Z.si]; omega) (show m.nso = m.nsi from by rw [Z.so, Z.si]) hle (show q.sr n + a.ln n ≤ m.nby by omega) (show m.nby ≤ 1048576 by omega) (a.ln n) 0 FU (by omega) (by unfold FU; omega)
        rw [cpy0, Nat.add_zero] at L
        obtain ⟨s2, t2, v2, b2, E, V⟩ := ih (n + 1) f (upd s n (Int32.ofNat (pre a 3 (n - 1)))) t v (va_cpy b b (q.sr n) (pre a 3 (n - 1)) (a.ln n)) (by omega) (by omega) (by omega) (by
          refine ⟨?_, ?_⟩
          · intro l ol kl
            obtain ⟨y, hy, r1, r2⟩ := U.rw l ol kl
            have hln : l ≠ n := fun e => by rw [e, kd] at kl; omega
            refine ⟨y, ?_, ?_, r2⟩
            · rw [hy]
              by_cases hl : l < n
              · rw [if_pos hl, if_pos (by omega)]
              · rw [if_neg hl, if_neg (by omega)]
            · show (if l = n then _ else s l) = _
              rw [if_neg hln]; exact r1
          · intro l ol kl
            by_cases hln : l = n
            · subst hln
              refine ⟨pre a 3 (l - 1), by rw [if_pos (by omega)], if_pos rfl, ?_⟩
              intro i hi
              have := hw i hi
              unfold va_cpy
              rw [if_pos (by omega), show pre a 3 (l - 1) + i - pre a 3 (l - 1) = i from by omega]
              exact this
            · obtain ⟨y, hy, r1, r2⟩ := U.tx l ol kl
              refine ⟨y, ?_, ?_, ?_⟩
              · rw [hy]
                by_cases hl : l < n
                · rw [if_pos hl, if_pos (by omega)]
                · rw [if_neg hl, if_neg (by omega)]
              · show (if l = n then _ else s l) = _
                rw [if_neg hln]; exact r1
              · intro i hi
                have := r2 i hi
                have hout : ¬ (pre a 3 (n - 1) ≤ y + i ∧ y + i < pre a 3 (n - 1) + a.ln n) := by
                  by_cases hl : l < n
                  · rw [if_pos hl] at hy
                    have g1 : pre a 3 l = pre a 3 (l - 1) + a.ln l := by
                      have hl1 : l - 1 + 1 = l := by have := ol.1; omega
                      have := pre_in (a := a) (k := 3) (n := l - 1) (by rw [hl1]; exact ol.2.2) (by rw [hl1]; exact kl)
                      rw [hl1] at this
                      exact this
                    have g2 := pre_mono (a := a) (k := 3) (show l ≤ n - 1 by omega)
                    omega
                  · rw [if_neg hl] at hy
                    have := P.sr n l on ol (by omega) (by omega) (by omega)
                    omega
                unfold va_cpy
                rw [if_neg hout]
                exact this)
        refine ⟨s2, t2, v2, b2, ?_, V⟩
        rw [hd, hs]
        refine Eq.trans L ?_
        rw [show n + 1 - 1 = n from by omega, hp2, hp3] at E
        rw [e1]
        exact E
      · rw [kd, if_pos c44] at hd
        obtain ⟨s2, t2, v2, b2, E, V⟩ := ih (n + 1) f s t v b (by omega) (by omega) (by omega) (keep (Or.inr kd))
        refine ⟨s2, t2, v2, b2, ?_, V⟩
        have hp2 : pre a 2 n = pre a 2 (n - 1) := by
          have := pre_out (a := a) (k := 2) (n := n - 1) (by rw [hn1]; omega)
          rw [hn1] at this
          exact this
        have hp3 : pre a 3 n = pre a 3 (n - 1) := by
          have := pre_out (a := a) (k := 3) (n := n - 1) (by rw [hn1]; omega)
          rw [hn1] at this
          exact this
        rw [show n + 1 - 1 = n from by omega, hp2, hp3] at E
        rw [hd]
        exact E
    · have h0 : m.ath n = 0 := by rw [P.th n h1 (by omega), if_neg ht]
      rw [h0, if_pos rfl] at hd
      obtain ⟨s2, t2, v2, b2, E, V⟩ := ih (n + 1) f s t v b (by omega) (by omega) (by omega) (keep (Or.inl (fun c => ht c.2.2)))
      refine ⟨s2, t2, v2, b2, ?_, V⟩
      have hp : ∀ k, pre a k n = pre a k (n - 1) := by
        intro k
        have := pre_out (a := a) (k := k) (n := n - 1) (by rw [hn1]; exact fun c => ht c.1)
        rw [hn1] at this
        exact this
      rw [show n + 1 - 1 = n from by omega, hp, hp] at E
      rw [hd]
      exact E
