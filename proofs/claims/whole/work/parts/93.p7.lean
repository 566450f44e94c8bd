/-! A map and the words behind a reference; an entry shown. -/
def MW (a : Ab) (p0 p1 : Int32) (i j n s p : Nat) : Prop :=
  (i < 16) ∧
  (j < 16) ∧
  (p0 = Int32.ofNat i) ∧
  (p1 = Int32.ofNat j) ∧
  (a.rg i = .inr (n, 0)) ∧
  (obj a n) ∧
  (a.kd n = 4) ∧
  (a.rg j = .inr (s, p)) ∧
  (obj a s) ∧
  (a.kd s = 2) ∧
  (p ≤ 4096) ∧
  (p + (a.nk n + a.nv n) ≤ a.ln s)
theorem MW.i {a : Ab} {p0 p1 : Int32} {i j n s p : Nat} (hyp : MW a p0 p1 i j n s p) : i < 16 := hyp.1
theorem MW.j {a : Ab} {p0 p1 : Int32} {i j n s p : Nat} (hyp : MW a p0 p1 i j n s p) : j < 16 := hyp.2.1
theorem MW.e0 {a : Ab} {p0 p1 : Int32} {i j n s p : Nat} (hyp : MW a p0 p1 i j n s p) : p0 = Int32.ofNat i := hyp.2.2.1
theorem MW.e1 {a : Ab} {p0 p1 : Int32} {i j n s p : Nat} (hyp : MW a p0 p1 i j n s p) : p1 = Int32.ofNat j := hyp.2.2.2.1
theorem MW.gi {a : Ab} {p0 p1 : Int32} {i j n s p : Nat} (hyp : MW a p0 p1 i j n s p) : a.rg i = .inr (n, 0) := hyp.2.2.2.2.1
theorem MW.on {a : Ab} {p0 p1 : Int32} {i j n s p : Nat} (hyp : MW a p0 p1 i j n s p) : obj a n := hyp.2.2.2.2.2.1
theorem MW.k4 {a : Ab} {p0 p1 : Int32} {i j n s p : Nat} (hyp : MW a p0 p1 i j n s p) : a.kd n = 4 := hyp.2.2.2.2.2.2.1
theorem MW.gj {a : Ab} {p0 p1 : Int32} {i j n s p : Nat} (hyp : MW a p0 p1 i j n s p) : a.rg j = .inr (s, p) := hyp.2.2.2.2.2.2.2.1
theorem MW.os {a : Ab} {p0 p1 : Int32} {i j n s p : Nat} (hyp : MW a p0 p1 i j n s p) : obj a s := hyp.2.2.2.2.2.2.2.2.1
theorem MW.k2 {a : Ab} {p0 p1 : Int32} {i j n s p : Nat} (hyp : MW a p0 p1 i j n s p) : a.kd s = 2 := hyp.2.2.2.2.2.2.2.2.2.1
theorem MW.p {a : Ab} {p0 p1 : Int32} {i j n s p : Nat} (hyp : MW a p0 p1 i j n s p) : p ≤ 4096 := hyp.2.2.2.2.2.2.2.2.2.2.1
theorem MW.l {a : Ab} {p0 p1 : Int32} {i j n s p : Nat} (hyp : MW a p0 p1 i j n s p) : p + (a.nk n + a.nv n) ≤ a.ln s := hyp.2.2.2.2.2.2.2.2.2.2.2

theorem mw_c {z : Hs} {g : Gh} {o : Go} {a : Ab} {m : Ms} {q : Gm} (c : RC z g o a) (R : RM m q a) (A : AI a) (p0 p1 : Int32) :
    (∃ k : Int32, (k = 1 ∧ wh_needMapAndWords z p0 p1 = some (.inl "java/lang/IllegalArgumentException") ∨ k = 2 ∧ wh_needMapAndWords z p0 p1 = some (.inl "java/lang/UnsupportedOperationException") ∨ k = 3 ∧ wh_needMapAndWords z p0 p1 = some (.inl "java/lang/IndexOutOfBoundsException")) ∧ ∀ f, md_wrong m p0 p1 f = some k) ∨
    (∃ i j n s p, MW a p0 p1 i j n s p ∧ wh_needMapAndWords z p0 p1 = some (.inr ()) ∧ ∀ f, md_wrong m p0 p1 f = if f = 0 then some 0 else b0 (md_isTextual m p0 p1) (fun r16 => if r16 = 0 then some 2 else some 0)) := by
  rcases reg_c p0 with ⟨i, hi, rfl⟩ | hr
  · rcases reg_c p1 with ⟨j, hj, rfl⟩ | hs
    · obtain ⟨X, hX⟩ : ∃ X, X = wh_needMapAndWords z (Int32.ofNat i) (Int32.ofNat j) := ⟨_, rfl⟩
      have hc0 := hX.symm
      unfold wh_needMapAndWords at hX
      rw [nreg_y hi, PB.2.2.2.1, nreg_y hj, PB.2.2.2.1, mapIn_e c A hi, rowIn_e c A hj] at hX
      have d4 : md_is m (Int32.ofNat i) 4 = some (if kW a (a.rg i) = 4 then 1 else 0) := md_is_e (k := 4) R A hi (by omega)
      have d2 : md_is m (Int32.ofNat j) 2 = some (if kW a (a.rg j) = 2 then 1 else 0) := md_is_e (k := 2) R A hj (by omega)
      by_cases hki : kW a (a.rg i) = 4
      · rw [if_pos hki, PB.2.2.2.1] at hX
        rw [if_pos hki] at d4
        by_cases hkj : kW a (a.rg j) = 2
        · rw [if_pos hkj, PB.2.2.2.1] at hX
          rw [if_pos hkj] at d2
          obtain ⟨n, p9, ei, on, k4, _, _, hp0⟩ := kW_obj A (A.rg i hi) (by omega) hki
          have := hp0 (by omega)
          subst this
          obtain ⟨s, p, ej, os, k2, hp, _, _⟩ := kW_obj A (A.rg j hj) (by omega) hkj
          have okm := A.mp on k4
          have F := c.mf on k4
          have om := (R.ob n on).mp k4
          have nk := okm.nk
          have nv := okm.nv
          have zk := R.z.K
          have hK := R.k
          have hn := on.2.1
          have n0 : n ≠ 0 := by have := on.1; omega
          have hh : hW o (a.rg i) = o.ho n := by rw [ei]; rfl
          have tgn : m.atg i = Int32.ofNat n := by rw [(R.rg i hi).1, ei]; exact tgW_o n0
          rw [hh, entryWords_e F okm, PB.2.1, needWords_e c A hj ej os k2 hp (by omega)] at hX
          have hm : ∀ f, md_wrong m (Int32.ofNat i) (Int32.ofNat j) f = if (if p + (a.nk n + a.nv n) ≤ a.ln s then (1 : Int32) else 0) = 0 then some 3 else if f = 0 then some 0 else b0 (md_isTextual m (Int32.ofNat i) (Int32.ofNat j)) (fun r16 => if r16 = 0 then some 2 else some 0) := by
            intro f
            unfold md_wrong md_wrong_j86
            rw [mreg_y hi, PB.2.1, if_neg ne10, mreg_y hj, PB.2.1, if_neg ne10, d4, PB.2.1, if_neg ne10, d2, PB.2.1, if_neg ne10, R.z.tg, R.z.ke, R.z.va, q_inb hi (by omega), q_nat (show i < 2147483648 by omega), tgn, q_inb (show n < q.K by omega) (by omega), q_nat (show n < 2147483648 by omega), om.1, om.2.1, q_add, gdT, gdT, gdT, gdT, md_hasWords_e R A hj ej os k2 hp (by omega), PB.2.1]
          by_cases hl : p + (a.nk n + a.nv n) ≤ a.ln s
          · rw [if_pos hl, PB.2.2.2.1] at hX
            refine Or.inr ⟨i, j, n, s, p, ⟨hi, hj, rfl, rfl, ei, on, k4, ej, os, k2, hp, hl⟩, hc0.trans hX, ?_⟩
            intro f
            rw [hm f, if_pos hl, if_neg ne10]
          · rw [if_neg hl, PB.2.2.1] at hX
            refine Or.inl ⟨3, Or.inr (Or.inr ⟨rfl, hc0.trans hX⟩), ?_⟩
            intro f
            rw [hm f, if_neg hl, if_pos rfl]
        · rw [if_neg hkj, PB.2.2.1] at hX
          rw [if_neg hkj] at d2
          refine Or.inl ⟨2, Or.inr (Or.inl ⟨rfl, hc0.trans hX⟩), ?_⟩
          intro f
          unfold md_wrong
          rw [mreg_y hi, PB.2.1, if_neg ne10, mreg_y hj, PB.2.1, if_neg ne10, d4, PB.2.1, if_neg ne10, d2, PB.2.1, if_pos rfl]
      · rw [if_neg hki, PB.2.2.1] at hX
        rw [if_neg hki] at d4
        refine Or.inl ⟨2, Or.inr (Or.inl ⟨rfl, hc0.trans hX⟩), ?_⟩
        intro f
        unfold md_wrong
        rw [mreg_y hi, PB.2.1, if_neg ne10, mreg_y hj, PB.2.1, if_neg ne10, d4, PB.2.1, if_pos rfl]
    · refine Or.inl ⟨1, Or.inl ⟨rfl, ?_⟩, ?_⟩
      · unfold wh_needMapAndWords
        rw [nreg_y hi, PB.2.2.2.1, nreg_n hs, PB.2.2.1]
      · intro f
        unfold md_wrong
        rw [mreg_y hi, PB.2.1, if_neg ne10, mreg_n hs, PB.2.1, if_pos rfl]
  · refine Or.inl ⟨1, Or.inl ⟨rfl, ?_⟩, ?_⟩
    · unfold wh_needMapAndWords
      rw [nreg_n hr, PB.2.2.1]
    · intro f
      unfold md_wrong
      rw [mreg_n hr, PB.2.1, if_pos rfl]
/-- a row's words with some of an entry's -/
def shw (w e : Nat → Wrd) (p lo hi : Nat) : Nat → Wrd := fun y => if p + lo ≤ y ∧ y < p + hi then e (y - p) else w y
theorem RC_shw {z : Hs} {g : Gh} {o : Go} {a : Ab} {n s p j lo hi : Nat} {e : Nat × (Nat → Wrd)} (c : RC z g o a) (A : AI a) (on : obj a n) (k4 : a.kd n = 4) (os : obj a s) (k2 : a.kd s = 2) (he : (a.sl n)[j]? = some (some e)) (hj : j < a.nc n) (hlo : lo ≤ hi) (hhi : hi ≤ a.nk n + a.nv n) (hl : p + hi ≤ a.ln s) :
    RC (Hs.wm z (va_cpy z.abt z.abt (sla g o a n j + 3 + lo) (g.st (o.ho s) + 1 + p + lo) (hi - lo)) (va_cpy z.arf z.arf (sla g o a n j + 3 + lo) (g.st (o.ho s) + 1 + p + lo) (hi - lo))) g o (a.s_wo (updN a.wo s (shw (a.wo s) e.2 p lo hi))) ∧ AI (a.s_wo (updN a.wo s (shw (a.wo s) e.2 p lo hi))) := by
  have ob := c.ob s os
  have RR := ob.rw k2
  have okr := A.rw os k2
  have okm := A.mp on k4
  have T := ((c.ob n on).mp k4).2
  have Sl := T.sl j hj
  rw [he] at Sl
  refine ⟨RC_row c A os k2 (fun y => cpyf c.i.fl _ _ _ _) ?_ ?_, AI_row A os k2 ?_⟩
  · intro y hy
    have : ¬ (g.st (o.ho s) + 1 + p + lo ≤ y ∧ y < g.st (o.ho s) + 1 + p + lo + (hi - lo)) := by
      intro d
      exact hy (y - (g.st (o.ho s) + 1)) (by omega) (by omega)
    exact ⟨if_neg this, if_neg this⟩
  · intro y hy
    unfold shw va_cpy
    by_cases hin : p + lo ≤ y ∧ y < p + hi
    · rw [if_pos hin, if_pos (by omega), if_pos (by omega)]
      have := Sl.2.2.2.2 (y - p) (by omega)
      rw [show sla g o a n j + 3 + lo + (g.st (o.ho s) + 1 + y - (g.st (o.ho s) + 1 + p + lo)) = sla g o a n j + 3 + (y - p) from by omega]
      exact this
    · rw [if_neg hin, if_neg (by omega), if_neg (by omega)]
      exact RR.2 y hy
  · intro y hy
    unfold shw
    by_cases hin : p + lo ≤ y ∧ y < p + hi
    · rw [if_pos hin]
      exact okm.wd e (ens_mem he) (y - p) (by omega)
    · rw [if_neg hin]
      exact okr.2 y hy
theorem md_show_e {m : Ms} {q : Gm} {a : Ab} {n s p b jr lo hi : Nat} (R : RM m q a) (A : AI a) (hjr : jr < 16) (hb : b < a.el.length) (hn : (a.el[b]).1 = n) (gj : a.rg jr = .inr (s, p)) (os : obj a s) (k2 : a.kd s = 2) (hp : p ≤ 4096) (hlo : lo ≤ hi) (hhi : hi ≤ a.nk n + a.nv n) (h8 : hi ≤ 8) (hl : p + hi ≤ a.ln s) :
    ∃ t v, md_show m (Int32.ofNat b) (Int32.ofNat jr) (Int32.ofNat lo) (Int32.ofNat hi) = some (Ms.wwv (Ms.wwt m t) v, ()) ∧ RM (Ms.wwv (Ms.wwt m t) v) q (a.s_wo (updN a.wo s (shw (a.wo s) (a.el[b]).2.2 p lo hi))) := by
  have Z := R.z
  have zw := Z.wl
  have zel := Z.el
  have hle := R.e.le
  have om := (R.ob s os).rw k2
  have om1 := om.2.1
  have e8 : ∀ y, 8 * Int32.ofNat b + Int32.ofNat y = Int32.ofNat (8 * b + y) := by
    intro y
    have := q_mul 8 b
    rw [show (8 : Int32) = Int32.ofNat 8 from rfl, this, q_add]
  have loop : ∀ k i fu t v, i + k = hi → k < fu → lo ≤ i → (∀ y, (∀ x, x < a.ln s → y ≠ q.sr s + x) → t y = m.awt y ∧ v y = m.awv y) → (∀ x, x < a.ln s → t (q.sr s + x) = tgW (shw (a.wo s) (a.el[b]).2.2 p lo i x) ∧ v (q.sr s + x) = vlW (shw (a.wo s) (a.el[b]).2.2 p lo i x)) →
      ∃ t2 v2, md_show_l3 fu (Int32.ofNat b) (Int32.ofNat jr) (Int32.ofNat hi) (Int32.ofNat i) (Ms.wwv (Ms.wwt m t) v) = some (Ms.wwv (Ms.wwt m t2) v2, ()) ∧ (∀ y, (∀ x, x < a.ln s → y ≠ q.sr s + x) → t2 y = m.awt y ∧ v2 y = m.awv y) ∧ (∀ x, x < a.ln s → t2 (q.sr s + x) = tgW (shw (a.wo s) (a.el[b]).2.2 p lo hi x) ∧ v2 (q.sr s + x) = vlW (shw (a.wo s) (a.el[b]).2.2 p lo hi x)) := by
    intro k
    induction k with
    | zero =>
      intro i fu t v hi' hfu hli un nw
      obtain ⟨f, rfl⟩ : ∃ f, fu = f + 1 := ⟨fu - 1, by omega⟩
      have : i = hi := by omega
      subst this
      refine ⟨t, v, ?_, un, nw⟩
      rw [md_show_l3, if_pos ((q_le (by omega) (by omega)).mpr (Nat.le_refl _))]
    | succ k ih =>
      intro i fu t v hi' hfu hli un nw
      obtain ⟨f, rfl⟩ : ∃ f, fu = f + 1 := ⟨fu - 1, by omega⟩
      have e1 : Int32.ofNat i + 1 = Int32.ofNat (i + 1) := q_add i 1
      have ew := R.e.wd b hb i (by rw [hn]; omega)
      have hat := md_at_e (k := Int32.ofNat i) (x := p + i) R A hjr gj os k2 (q_add p i)
      have hat1 : md_at (Ms.wwv (Ms.wwt m t) v) (Int32.ofNat jr) (Int32.ofNat i) = some (Int32.ofNat (q.sr s + (p + i))) := hat
      have hat2 : ∀ t', md_at (Ms.wwt (Ms.wwv (Ms.wwt m t) v) t') (Int32.ofNat jr) (Int32.ofNat i) = some (Int32.ofNat (q.sr s + (p + i))) := fun _ => hat
      obtain ⟨t2, v2, f1, f2, f3⟩ := ih (i + 1) f (upd t (q.sr s + (p + i)) (m.aet (8 * b + i))) (vp_updL v (q.sr s + (p + i)) (m.aev (8 * b + i))) (by omega) (by omega) (by omega) (by
        intro y hy
        have : y ≠ q.sr s + (p + i) := hy (p + i) (by omega)
        have u := un y hy
        exact ⟨(if_neg this).trans u.1, (if_neg this).trans u.2⟩) (by
        intro x hx
        by_cases hxi : x = p + i
        · subst hxi
          have es : shw (a.wo s) (a.el[b]).2.2 p lo (i + 1) (p + i) = (a.el[b]).2.2 i := by
            unfold shw
            rw [if_pos (by omega), show p + i - p = i from by omega]
          rw [es]
          exact ⟨(if_pos rfl).trans ew.1, (if_pos rfl).trans ew.2⟩
        · have ne : q.sr s + x ≠ q.sr s + (p + i) := by omega
          have es : shw (a.wo s) (a.el[b]).2.2 p lo (i + 1) x = shw (a.wo s) (a.el[b]).2.2 p lo i x := by
            unfold shw
            by_cases hin : p + lo ≤ x ∧ x < p + i
            · rw [if_pos hin, if_pos (by omega)]
            · rw [if_neg hin, if_neg (by omega)]
          rw [es]
          exact ⟨(if_neg ne).trans (nw x hx).1, (if_neg ne).trans (nw x hx).2⟩)
      refine ⟨t2, v2, ?_, f2, f3⟩
      rw [md_show_l3, if_neg (fun d => absurd ((q_le (by omega) (by omega)).mp d) (by omega)), hat1, PB.2.1, e8, hat2, PB.2.1, e1]
      show gd (inb (Int32.ofNat (8 * b + i)) m.net) (gd (inb (Int32.ofNat (q.sr s + (p + i))) m.nwt) (gd (inb (Int32.ofNat (8 * b + i)) m.nev) (gd (inb (Int32.ofNat (q.sr s + (p + i))) m.nwv) (md_show_l3 f (Int32.ofNat b) (Int32.ofNat jr) (Int32.ofNat hi) (Int32.ofNat (i + 1)) (Ms.wwv (Ms.wwt m (upd t (Int32.ofNat (q.sr s + (p + i))).toNatClampNeg (m.aet (Int32.ofNat (8 * b + i)).toNatClampNeg))) (vp_updL v (Int32.ofNat (q.sr s + (p + i))).toNatClampNeg (m.aev (Int32.ofNat (8 * b + i)).toNatClampNeg))))))) = _
      rw [Z.et, Z.ev, Z.wt, q_inb (show 8 * b + i < 8 * m.nem by omega) (by omega), q_inb (show q.sr s + (p + i) < m.nwt by omega) (by omega), q_nat (show q.sr s + (p + i) < 2147483648 by omega), q_nat (show 8 * b + i < 2147483648 by omega), gdT, gdT, gdT, gdT]
      exact f1
  obtain ⟨t2, v2, f1, f2, f3⟩ := loop (hi - lo) lo FU m.awt m.awv (by omega) (by unfold FU; omega) (Nat.le_refl _) (fun _ _ => ⟨rfl, rfl⟩) (by
    intro x hx
    have es : shw (a.wo s) (a.el[b]).2.2 p lo lo x = a.wo s x := by
      unfold shw
      rw [if_neg (by omega)]
    rw [es]
    exact om.2.2 x hx)
  refine ⟨t2, v2, ?_, RM_rw R os k2 f2 f3⟩
  unfold md_show
  exact f1
