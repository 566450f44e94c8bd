/-! The values of a key that is there. -/
def wmx (e2 w : Nat → Wrd) (p lo hi : Nat) : Nat → Wrd := fun i => if lo ≤ i ∧ i < hi then w (p + i) else e2 i
theorem md_setEntry_e {m : Ms} {q : Gm} {a : Ab} {s p b jr lo hi : Nat} (R : RM m q a) (A : AI a) (hjr : jr < 16) (hb : b < m.nem) (gj : a.rg jr = .inr (s, p)) (os : obj a s) (k2 : a.kd s = 2) (hlo : lo ≤ hi) (h8 : hi ≤ 8) (hl : p + hi ≤ a.ln s) :
    ∃ et ev, md_setEntry m (Int32.ofNat b) (Int32.ofNat jr) (Int32.ofNat lo) (Int32.ofNat hi) = some (Ms.wev (Ms.wet m et) ev, ()) ∧ (∀ i, lo ≤ i → i < hi → et (8 * b + i) = tgW (a.wo s (p + i)) ∧ ev (8 * b + i) = vlW (a.wo s (p + i))) ∧ (∀ y, y < 8 * b + lo ∨ 8 * b + hi ≤ y → et y = m.aet y ∧ ev y = m.aev y) := by
  have Z := R.z
  have zw := Z.wl
  have zel := Z.el
  have om := (R.ob s os).rw k2
  have om1 := om.2.1
  have e8 : ∀ y, 8 * Int32.ofNat b + Int32.ofNat y = Int32.ofNat (8 * b + y) := by
    intro y
    have := q_mul 8 b
    rw [show (8 : Int32) = Int32.ofNat 8 from rfl, this, q_add]
  have loop : ∀ k i fu t v, i + k = hi → k < fu → lo ≤ i → (∀ x, lo ≤ x → x < i → t (8 * b + x) = tgW (a.wo s (p + x)) ∧ v (8 * b + x) = vlW (a.wo s (p + x))) → (∀ y, y < 8 * b + lo ∨ 8 * b + i ≤ y → t y = m.aet y ∧ v y = m.aev y) →
      ∃ et ev, md_setEntry_l3 fu (Int32.ofNat b) (Int32.ofNat jr) (Int32.ofNat hi) (Int32.ofNat i) (Ms.wev (Ms.wet m t) v) = some (Ms.wev (Ms.wet m et) ev, ()) ∧ (∀ i, lo ≤ i → i < hi → et (8 * b + i) = tgW (a.wo s (p + i)) ∧ ev (8 * b + i) = vlW (a.wo s (p + i))) ∧ (∀ y, y < 8 * b + lo ∨ 8 * b + hi ≤ y → et y = m.aet y ∧ ev y = m.aev y) := by
    intro k
    induction k with
    | zero =>
      intro i fu t v hi' hfu hli nw un
      obtain ⟨f, rfl⟩ : ∃ f, fu = f + 1 := ⟨fu - 1, by omega⟩
      have : i = hi := by omega
      subst this
      refine ⟨t, v, ?_, nw, un⟩
      rw [md_setEntry_l3, if_pos ((q_le (by omega) (by omega)).mpr (Nat.le_refl _))]
    | succ k ih =>
      intro i fu t v hi' hfu hli nw un
      obtain ⟨f, rfl⟩ : ∃ f, fu = f + 1 := ⟨fu - 1, by omega⟩
      have e1 : Int32.ofNat i + 1 = Int32.ofNat (i + 1) := q_add i 1
      have wo := om.2.2 (p + i) (by omega)
      have hat := md_at_e (k := Int32.ofNat i) (x := p + i) R A hjr gj os k2 (q_add p i)
      have hat1 : md_at (Ms.wev (Ms.wet m t) v) (Int32.ofNat jr) (Int32.ofNat i) = some (Int32.ofNat (q.sr s + (p + i))) := hat
      have hat2 : ∀ t', md_at (Ms.wet (Ms.wev (Ms.wet m t) v) t') (Int32.ofNat jr) (Int32.ofNat i) = some (Int32.ofNat (q.sr s + (p + i))) := fun _ => hat
      obtain ⟨t2, v2, f1, f2, f3⟩ := ih (i + 1) f (upd t (8 * b + i) (m.awt (q.sr s + (p + i)))) (vp_updL v (8 * b + i) (m.awv (q.sr s + (p + i)))) (by omega) (by omega) (by omega) (by
        intro x hx1 hx2
        by_cases hxi : x = i
        · subst hxi
          exact ⟨(if_pos rfl).trans wo.1, (if_pos rfl).trans wo.2⟩
        · have ne : 8 * b + x ≠ 8 * b + i := by omega
          have u := nw x hx1 (by omega)
          exact ⟨(if_neg ne).trans u.1, (if_neg ne).trans u.2⟩) (by
        intro y hy
        have ne : y ≠ 8 * b + i := by omega
        have u := un y (by omega)
        exact ⟨(if_neg ne).trans u.1, (if_neg ne).trans u.2⟩)
      refine ⟨t2, v2, ?_, f2, f3⟩
      rw [md_setEntry_l3, if_neg (fun d => absurd ((q_le (by omega) (by omega)).mp d) (by omega)), hat1, PB.2.1, e8, hat2, PB.2.1, e1]
      show gd (inb (Int32.ofNat (q.sr s + (p + i))) m.nwt) (gd (inb (Int32.ofNat (8 * b + i)) m.net) (gd (inb (Int32.ofNat (q.sr s + (p + i))) m.nwv) (gd (inb (Int32.ofNat (8 * b + i)) m.nev) (md_setEntry_l3 f (Int32.ofNat b) (Int32.ofNat jr) (Int32.ofNat hi) (Int32.ofNat (i + 1)) (Ms.wev (Ms.wet m (upd t (Int32.ofNat (8 * b + i)).toNatClampNeg (m.awt (Int32.ofNat (q.sr s + (p + i))).toNatClampNeg))) (vp_updL v (Int32.ofNat (8 * b + i)).toNatClampNeg (m.awv (Int32.ofNat (q.sr s + (p + i))).toNatClampNeg))))))) = _
      rw [Z.et, Z.ev, Z.wt, q_inb (show 8 * b + i < 8 * m.nem by omega) (by omega), q_inb (show q.sr s + (p + i) < m.nwt by omega) (by omega), q_nat (show q.sr s + (p + i) < 2147483648 by omega), q_nat (show 8 * b + i < 2147483648 by omega), gdT, gdT, gdT, gdT]
      exact f1
  obtain ⟨t2, v2, f1, f2, f3⟩ := loop (hi - lo) lo FU m.aet m.aev (by omega) (by unfold FU; omega) (Nat.le_refl _) (fun x h1 h2 => by omega) (fun y _ => ⟨rfl, rfl⟩)
  refine ⟨t2, v2, ?_, f2, f3⟩
  unfold md_setEntry
  exact f1
theorem RM_put {m : Ms} {q : Gm} {a : Ab} {n s p b l lo : Nat} {et : Nat → Int32} {ev : Nat → Int64} (R : RM m q a) (A : AI a) (hb : b < a.el.length) (hn : (a.el[b]).1 = n) (k8 : a.nk n + a.nv n ≤ 8)
    (h1 : ∀ i, lo ≤ i → i < a.nk n + a.nv n → et (8 * b + i) = tgW (a.wo s (p + i)) ∧ ev (8 * b + i) = vlW (a.wo s (p + i))) (h2 : ∀ y, y < 8 * b + lo ∨ 8 * b + (a.nk n + a.nv n) ≤ y → et y = m.aet y ∧ ev y = m.aev y) :
    RM (Ms.wev (Ms.wet m et) ev) q (mset a n ((a.sl n).set l (some ((a.el[b]).2.1, wmx (a.el[b]).2.2 (a.wo s) p lo (a.nk n + a.nv n)))) (a.no n) (a.el.set b (n, ((a.el[b]).2.1, wmx (a.el[b]).2.2 (a.wo s) p lo (a.nk n + a.nv n)))) a.tn) := by
  have k88 : ∀ t, (h : t < a.el.length) → a.nk (a.el[t]).1 + a.nv (a.el[t]).1 ≤ 8 := by
    intro t ht
    obtain ⟨o1, o2⟩ := A.el _ (List.getElem_mem ht)
    have okm := A.mp o1 o2
    have := okm.nk
    have := okm.nv
    omega
  obtain ⟨x, hx⟩ : ∃ x, x = wmx (a.el[b]).2.2 (a.wo s) p lo (a.nk n + a.nv n) := ⟨_, rfl⟩
  rw [← hx]
  have get : ∀ e, (h : e < (a.el.set b (n, ((a.el[b]).2.1, x))).length) → En a m.aem m.aeo et ev e (a.el.set b (n, ((a.el[b]).2.1, x)))[e] := by
    intro e h
    rw [List.length_set] at h
    by_cases heb : b = e
    · subst heb
      rw [List.getElem_set_self]
      refine ⟨(R.e.mp b h).trans (by rw [hn]), R.e.od b h, ?_⟩
      intro i hi
      have hi : i < a.nk n + a.nv n := hi
      show et (8 * b + i) = tgW (x i) ∧ ev (8 * b + i) = vlW (x i)
      by_cases hlo : lo ≤ i
      · have : x i = a.wo s (p + i) := by rw [hx]; exact if_pos ⟨hlo, hi⟩
        rw [this]
        exact h1 i hlo hi
      · have : x i = (a.el[b]).2.2 i := by rw [hx]; exact if_neg (fun d => hlo d.1)
        rw [this]
        have u := h2 (8 * b + i) (by omega)
        have w := R.e.wd b h i (by rw [hn]; exact hi)
        exact ⟨u.1.trans w.1, u.2.trans w.2⟩
    · rw [List.getElem_set_ne heb]
      refine ⟨R.e.mp e h, R.e.od e h, ?_⟩
      intro i hi
      have := k88 e h
      have u := h2 (8 * e + i) (by omega)
      have w := R.e.wd e h i hi
      exact ⟨u.1.trans w.1, u.2.trans w.2⟩
  have hll : (a.el.set b (n, ((a.el[b]).2.1, x))).length = a.el.length := List.length_set
  obtain ⟨el2, hel2⟩ : ∃ el2, el2 = a.el.set b (n, ((a.el[b]).2.1, x)) := ⟨_, rfl⟩
  rw [← hel2] at get hll ⊢
  have M2 : Ms.wev (Ms.wet m et) ev = Ms.sent (Ms.ew m m.aem m.aeo et ev) m.ent := rfl
  rw [M2]
  refine RM_ent R (by rw [List.length_set]) ⟨?_, ?_, ?_, ?_, ?_⟩
  · show m.ent = Int32.ofNat el2.length
    rw [hll]
    exact R.e.ent
  · show el2.length ≤ m.nem
    rw [hll]
    exact R.e.le
  · intro e h
    exact (get e h).1
  · intro e h
    exact (get e h).2.1
  · intro e h i hi
    exact (get e h).2.2 i hi
theorem AI_put {a : Ab} {n l b : Nat} {e e' : Nat × (Nat → Wrd)} (A : AI a) (on : obj a n) (k4 : a.kd n = 4) (he : (a.sl n)[l]? = some (some e)) (hb : b < a.el.length) (h1 : (a.el[b]).1 = n) (h2 : (a.el[b]).2 = e) (ho : e'.1 = e.1) (wd : ∀ i, i < a.nk n + a.nv n → okW a (e'.2 i)) (mk : ∀ i, a.nk n + a.nv n ≤ i → e'.2 i = .inl 0) (tx : ∀ i, i < a.nk n → (a.nt n).testBit i = true → isTx a (e'.2 i)) : AI (mset a n ((a.sl n).set l (some e')) (a.no n) (a.el.set b (n, e')) a.tn) := by
  have okm := A.mp on k4
  have d := ens_put (e' := e') okm.srt he
  have sub : ∀ x, x ∈ ens ((a.sl n).set l (some e')) → x ∈ ens (a.sl n) ∨ x = e' := by
    intro x hx
    rw [d, List.mem_map] at hx
    obtain ⟨y, y1, y2⟩ := hx
    by_cases hy : y.1 = e.1
    · rw [if_pos hy] at y2
      exact Or.inr y2.symm
    · rw [if_neg hy] at y2
      rw [← y2]
      exact Or.inl y1
  have hg : a.el[b]? = some (a.el[b]) := List.getElem?_eq_getElem hb
  have cn := A.cn n on k4
  have sr := okm.srt
  rw [cn] at sr
  have fst : ∀ x : Nat × (Nat → Wrd), (if x.1 = e.1 then e' else x).1 = x.1 := by
    intro x
    by_cases hx : x.1 = e.1
    · rw [if_pos hx, hx, ho]
    · rw [if_neg hx]
  refine AI_mset A on k4 (by rw [List.length_set]; exact okm.sl) (Nat.le_refl _) A.tn okm.no ?_ ?_ ?_ ?_ ?_ ?_ (by rw [List.length_set]; exact A.en) ?_ ?_
  · rw [d, List.pairwise_map]
    refine okm.srt.imp ?_
    intro x y hxy
    rw [fst, fst]
    exact hxy
  · intro x hx
    rcases sub x hx with h | h
    · exact okm.lt x h
    · rw [h, ho]
      exact okm.lt e (ens_mem he)
  · intro x hx
    rcases sub x hx with h | h
    · exact okm.wd x h
    · rw [h]; exact wd
  · intro x hx
    rcases sub x hx with h | h
    · exact okm.mk x h
    · rw [h]; exact mk
  · intro x hx
    rcases sub x hx with h | h
    · exact okm.tx x h
    · rw [h]; exact tx
  · intro t ht
    rcases List.mem_or_eq_of_mem_set ht with h | h
    · exact A.el t h
    · rw [h]; exact ⟨on, k4⟩
  · rw [d, cn]
    have := eln_put (t := a.el[b]) (e' := e') h1 (l := a.el) (b := b) sr hg
    rw [h2] at this
    exact this.symm
  · intro k hk
    exact el_puto h1 hk hg
