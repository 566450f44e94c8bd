/-! entry on both sides. -/
theorem ens_u {a : Ab} {n : Nat} (m : okM a n) {e e' : Nat × (Nat → Wrd)} (h : e ∈ ens (a.sl n)) (h' : e' ∈ ens (a.sl n)) (ho : e.1 = e'.1) : e = e' := by
  obtain ⟨i, _, hi⟩ := ens_get h
  obtain ⟨j, _, hj⟩ := ens_get h'
  by_cases hij : i = j
  · subst hij
    have := hi.symm.trans hj
    cases this
    rfl
  · by_cases hlt : i < j
    · have := sl_srt m.srt hi hj hlt
      omega
    · have := sl_srt m.srt hj hi (by omega)
      omega
theorem me_l25 {m : Ms} {q : Gm} {a : Ab} {n i : Nat} {x s : Int32} (R : RM m q a) (A : AI a) (hi : i < 16) (hg : a.rg i = .inr (n, 0)) (on : obj a n) (k4 : a.kd n = 4) : ∃ y, md_entry_l25 FU (Int32.ofNat i) x s (-1) 0 m = (if 0 ≤ y then md_entry_j87 (Int32.ofNat i) s y 0 m else md_entry_j87 (Int32.ofNat i) s y 4 m) ∧ ((y = -1 ∧ ∀ e, e ∈ ens (a.sl n) → ¬ (Int32.ofNat e.1 = x)) ∨ ∃ b, ∃ h : b < a.el.length, (a.el[b]).1 = n ∧ Int32.ofNat (a.el[b]).2.1 = x ∧ y = Int32.ofNat b) := by
  have md := A.md
  have tn := A.tn
  have hn := on.2.1
  have n0 : n ≠ 0 := by have := on.1; omega
  have zel := R.z.el
  have hle := R.e.le
  have tgn : m.atg i = Int32.ofNat n := by rw [(R.rg i hi).1, hg]; exact tgW_o n0
  have loop : ∀ k e fu x4, e + k = a.el.length → k < fu →
      ((x4 = -1 ∧ ∀ l, (h : l < a.el.length) → l < e → (a.el[l]).1 = n → ¬ (Int32.ofNat (a.el[l]).2.1 = x)) ∨ (∃ b, ∃ h : b < a.el.length, (a.el[b]).1 = n ∧ Int32.ofNat (a.el[b]).2.1 = x ∧ x4 = Int32.ofNat b)) →
      ∃ y, md_entry_l25 fu (Int32.ofNat i) x s x4 (Int32.ofNat e) m = (if 0 ≤ y then md_entry_j87 (Int32.ofNat i) s y 0 m else md_entry_j87 (Int32.ofNat i) s y 4 m) ∧ ((y = -1 ∧ ∀ e, e ∈ ens (a.sl n) → ¬ (Int32.ofNat e.1 = x)) ∨ ∃ b, ∃ h : b < a.el.length, (a.el[b]).1 = n ∧ Int32.ofNat (a.el[b]).2.1 = x ∧ y = Int32.ofNat b) := by
    intro k
    induction k with
    | zero =>
      intro e fu x4 he hfu inv
      obtain ⟨f, rfl⟩ : ∃ f, fu = f + 1 := ⟨fu - 1, by omega⟩
      refine ⟨x4, ?_, ?_⟩
      · rw [md_entry_l25, R.e.ent, if_pos ((q_le (by omega) (by omega)).mpr (by omega))]
      · rcases inv with ⟨i1, i2⟩ | h
        · refine Or.inl ⟨i1, ?_⟩
          intro e' he'
          obtain ⟨l, hl, el⟩ := List.getElem_of_mem ((el_ens A on k4).mp he')
          have := i2 l hl (by omega) (by rw [el])
          rw [el] at this
          exact this
        · exact Or.inr h
    | succ k ih =>
      intro e fu x4 he hfu inv
      obtain ⟨f, rfl⟩ : ∃ f, fu = f + 1 := ⟨fu - 1, by omega⟩
      have hel : e < a.el.length := by omega
      have e1 : Int32.ofNat e + 1 = Int32.ofNat (e + 1) := q_add e 1
      have hm := (A.el _ (List.getElem_mem hel)).1.2.1
      rw [md_entry_l25, R.e.ent, if_neg (fun d => absurd ((q_le (by omega) (by omega)).mp d) (by omega)), R.z.eo, R.z.tg, q_inb (show e < m.nem by omega) (by omega), q_inb hi (by omega), gdT, gdT, gdT, q_nat (show e < 2147483648 by omega), q_nat (show i < 2147483648 by omega), R.e.mp e hel, R.e.od e hel, tgn, e1]
      unfold md_entry_j66
      rw [e1]
      by_cases c1 : (a.el[e]).1 = n
      · rw [if_pos (by rw [c1])]
        by_cases c2 : Int32.ofNat (a.el[e]).2.1 = x
        · rw [if_pos c2]
          exact ih (e + 1) f _ (by omega) (by omega) (Or.inr ⟨e, hel, c1, c2, rfl⟩)
        · rw [if_neg c2]
          refine ih (e + 1) f x4 (by omega) (by omega) ?_
          rcases inv with ⟨i1, i2⟩ | h
          · refine Or.inl ⟨i1, ?_⟩
            intro l hl hle2 hln
            by_cases hle3 : l = e
            · subst hle3; exact c2
            · exact i2 l hl (by omega) hln
          · exact Or.inr h
      · rw [if_neg (q_nek _ (by omega) (by omega) c1)]
        refine ih (e + 1) f x4 (by omega) (by omega) ?_
        rcases inv with ⟨i1, i2⟩ | h
        · refine Or.inl ⟨i1, ?_⟩
          intro l hl hle2 hln
          by_cases hle3 : l = e
          · subst hle3; exact absurd hln c1
          · exact i2 l hl (by omega) hln
        · exact Or.inr h
  have := loop a.el.length 0 FU (-1) (by omega) (by unfold FU; omega) (Or.inl ⟨rfl, fun l _ hl => by omega⟩)
  exact this
theorem J_entry {z : Lo} {m : Ms} {lm t : Nat} (r x u : Int32) (S : St z.h m lm t) : ∃ z2 m2 k, la_entry z r x u = some (z2, k) ∧ md_entry m r x u = some (m2, ()) ∧ m2.thr = k ∧ St z2.h m2 lm t ∧ Pot lm z2.h m2 = Pot lm z.h m := by
  obtain ⟨g, o, q, a, c, R, A, h1, h2⟩ := S
  have l00 : (0 : Int32) ≤ 0 := by decide
  rcases mw_c c R A r u with ⟨k, hk, hm⟩ | ⟨i, j, n, s, p, W, hw, hm⟩
  · have k0 : ¬ (k ≤ 0) := by
      rcases hk with ⟨rfl, _⟩ | ⟨rfl, _⟩ | ⟨rfl, _⟩ <;> decide
    refine ⟨Lo.sh z z.h, Ms.sthr m k, k, ?_, ?_, rfl, ⟨g, o, q, a, c, R, A, h1, h2⟩, rfl⟩
    · unfold la_entry wh_entry
      rcases hk with ⟨rfl, hk⟩ | ⟨rfl, hk⟩ | ⟨rfl, hk⟩
      · rw [hk, PB.2.2.1, PH2.2.2.1, if_pos rfl]
      · rw [hk, PB.2.2.1, PH2.2.2.1, if_neg (by decide), if_pos rfl]
      · rw [hk, PB.2.2.1, PH2.2.2.1, if_neg (by decide), if_neg (by decide), if_pos rfl]
    · unfold md_entry
      rw [hm 0, PB.2.1, if_neg k0]
  · obtain ⟨hi, hj, e0, e1, gi, on, k4, gj, os, k2, hp, hl⟩ := W
    subst e0 e1
    have okm := A.mp on k4
    have F := c.mf on k4
    have nk := okm.nk
    have nv := okm.nv
    have hsl := okm.sl
    have tn := A.tn
    have no := okm.no
    have hh : hW o (a.rg i) = o.ho n := by rw [gi]; rfl
    obtain ⟨y, f2, n2⟩ := me_l25 (m := Ms.sthr m 0) (x := x) (s := Int32.ofNat j) R A hi gi on k4
    have hm1 : md_entry m (Int32.ofNat i) x (Int32.ofNat j) = (if 0 ≤ y then md_entry_j87 (Int32.ofNat i) (Int32.ofNat j) y 0 (Ms.sthr m 0) else md_entry_j87 (Int32.ofNat i) (Int32.ofNat j) y 4 (Ms.sthr m 0)) := by
      unfold md_entry
      rw [hm 0, if_pos rfl, PB.2.1, if_pos l00]
      exact f2
    obtain ⟨X, hX⟩ : ∃ X, X = wh_entry z.h (Int32.ofNat i) x (Int32.ofNat j) := ⟨_, rfl⟩
    have hc0 := hX.symm
    unfold wh_entry at hX
    rw [hw, PB.2.2.2.1, c.handleAt (AI.in16 c hi) (c.rg i hi) (A.rg i hi), PB.2.1, hh] at hX
    have fail : (∀ e, e ∈ ens (a.sl n) → ¬ (Int32.ofNat e.1 = x)) → wh_entry z.h (Int32.ofNat i) x (Int32.ofNat j) = some (z.h, .inl "java/util/NoSuchElementException") → ∃ z2 m2 k, la_entry z (Int32.ofNat i) x (Int32.ofNat j) = some (z2, k) ∧ md_entry m (Int32.ofNat i) x (Int32.ofNat j) = some (m2, ()) ∧ m2.thr = k ∧ St z2.h m2 lm t ∧ Pot lm z2.h m2 = Pot lm z.h m := by
      intro hno hc
      refine ⟨Lo.sh z z.h, Ms.sthr (Ms.sthr m 0) 4, 4, ?_, ?_, rfl, ⟨g, o, q, a, c, R, A, h1, h2⟩, rfl⟩
      · unfold la_entry
        rw [hc, PH2.2.2.1, if_neg (by decide), if_neg (by decide), if_neg (by decide), if_pos rfl]
      · rcases n2 with ⟨y1, _⟩ | ⟨b, hb, b1, b2, b3⟩
        · rw [hm1, y1, if_neg (by decide)]
          unfold md_entry_j87
          rw [if_pos (by decide)]
        · refine absurd b2 (hno (a.el[b]).2 ?_)
          refine (el_ens A on k4).mpr ?_
          rw [← b1]
          exact List.getElem_mem hb
    rcases slotFrom_e (x := x) c A on k4 with ⟨l, en, hll, sf, f1⟩ | ⟨q1, f1⟩
    · have hlc : l < a.nc n := by omega
      have hb0 := (sla_in (i := 0) c on k4 hlc (by omega)).2.1
      rw [Nat.add_zero] at hb0
      have em := ens_mem sf.1
      have elt := okm.lt en em
      rw [f1, PB.2.1, if_neg (Int32.neg1_ne (by omega)), orderIn_e c on k4 hlc sf.1, PB.2.1] at hX
      have hX : X = if Int32.ofNat en.1 = x then b0 (wh_rowWord z.h (Int32.ofNat j)) (fun r7 => bw (mp_readEntry z.h (Int32.ofNat (o.ho n)) (Int32.ofNat (sla g o a n l)) r7) (fun z8 _ => some (z8, .inr ()))) else some (z.h, .inl "java/util/NoSuchElementException") := hX
      by_cases hx : Int32.ofNat en.1 = x
      · rw [if_pos hx, rowWord_e c A hj gj os, PB.2.1] at hX
        -- the reference finds the same entry
        rcases n2 with ⟨_, y2⟩ | ⟨b, hb, b1, b2, b3⟩
        · exact absurd hx (y2 en em)
        · have bm : (a.el[b]).2 ∈ ens (a.sl n) := by
            refine (el_ens A on k4).mpr ?_
            rw [← b1]
            exact List.getElem_mem hb
          have blt := okm.lt _ bm
          have hord : en.1 = (a.el[b]).2.1 := (q_eq (by omega) (by omega)).mp (hx.trans b2.symm)
          have heq := ens_u okm em bm hord
          obtain ⟨C2, A2⟩ := RC_shw (lo := 0) (hi := a.nk n + a.nv n) c A on k4 os k2 sf.1 hlc (Nat.zero_le _) (Nat.le_refl _) hl
          obtain ⟨t2, v2, g1, R2⟩ := md_show_e (m := Ms.sthr (Ms.sthr m 0) 0) (lo := 0) (hi := a.nk n + a.nv n) (n := n) R A hj hb b1 gj os k2 hp (Nat.zero_le _) (Nat.le_refl _) (by omega) hl
          rw [← heq] at R2
          have ob := c.ob s os
          have RR := ob.rw k2
          have szs : g.sz (o.ho s) = 1 + a.ln s := by unfold Gh.sz; rw [ob.kd, k2, RR.1]; rfl
          have tms := Til_mem c.i.til ob.m
          have eb := c.i.eb
          have hsl2 := sla_in (i := 3 + a.nk n + a.nv n - 1) c on k4 hlc (by omega)
          have cw : hp_copyWords z.h (Int32.ofNat (g.st (o.ho s) + 1 + p)) (Int32.ofNat (sla g o a n l + 3)) (Int32.ofNat (a.nk n + a.nv n)) = some (Hs.wm z.h (va_cpy z.h.abt z.h.abt (sla g o a n l + 3 + 0) (g.st (o.ho s) + 1 + p + 0) (a.nk n + a.nv n - 0)) (va_cpy z.h.arf z.h.arf (sla g o a n l + 3 + 0) (g.st (o.ho s) + 1 + p + 0) (a.nk n + a.nv n - 0)), ()) := hp_copyWords_e c.i.hb (by omega) (by omega)
          have e3 : Int32.ofNat (sla g o a n l) + 3 = Int32.ofNat (sla g o a n l + 3) := q_add _ 3
          unfold mp_readEntry at hX
          rw [entryWords_e F okm, PB.2.1, e3, cw, PB.2.2.2.2.1, PB.2.2.2.2.1] at hX
          refine ⟨Lo.sh z _, _, 0, ?_, ?_, rfl, ⟨g, o, q, _, C2, R2, A2, h1, h2⟩, rfl⟩
          · unfold la_entry
            rw [hc0, hX, PH2.2.2.2.1]
            rfl
          · rw [hm1, b3, if_pos (q_le0 (by have := R.e.le; have := R.z.el; omega))]
            unfold md_entry_j87
            rw [if_neg (q_nlt0 (by have := R.e.le; have := R.z.el; omega))]
            have n0 : n ≠ 0 := by have := on.1; omega
            have hn := on.2.1
            have zk := R.z.K
            have hK := R.k
            have om := (R.ob n on).mp k4
            have tgn : m.atg i = Int32.ofNat n := by rw [(R.rg i hi).1, gi]; exact tgW_o n0
            show gd (inb (Int32.ofNat i) m.ntg) (gd (inb (m.atg (Int32.ofNat i).toNatClampNeg) m.nke) (gd (inb (Int32.ofNat i) m.ntg) (gd (inb (m.atg (Int32.ofNat i).toNatClampNeg) m.nva) (bw (md_show (Ms.sthr (Ms.sthr m 0) 0) (Int32.ofNat b) (Int32.ofNat j) 0 (m.ake (m.atg (Int32.ofNat i).toNatClampNeg).toNatClampNeg + m.ava (m.atg (Int32.ofNat i).toNatClampNeg).toNatClampNeg)) _)))) = _
            rw [R.z.tg, R.z.ke, R.z.va, q_inb hi (by omega), q_nat (show i < 2147483648 by omega), tgn, q_inb (show n < q.K by omega) (by omega), q_nat (show n < 2147483648 by omega), om.1, om.2.1, q_add, gdT, gdT, gdT, gdT, show (0 : Int32) = Int32.ofNat 0 from rfl]
            rw [show Ms.sthr (Ms.sthr m (Int32.ofNat 0)) (Int32.ofNat 0) = Ms.sthr (Ms.sthr m 0) 0 from rfl, g1, PB.2.2.2.2.1]
      · rw [if_neg hx] at hX
        refine fail ?_ (hc0.trans hX)
        intro e' he' hx'
        have q2 : ¬ (Int32.ofNat e'.1 < x) := by rw [hx']; exact Int32.lt_irrefl
        have q3 := SfR_min okm sf e' he' q2
        have elt' := okm.lt e' he'
        have q4 : ¬ (Int32.ofNat en.1 < Int32.ofNat e'.1) := by rw [hx']; exact sf.2.1
        have q5 : ¬ (en.1 < e'.1) := fun h => q4 ((q_lt (by omega) (by omega)).mpr h)
        exact hx (by rw [show en.1 = e'.1 from by omega]; exact hx')
    · rw [f1, PB.2.1, if_pos rfl] at hX
      refine fail ?_ (hc0.trans hX)
      intro e' he' hx'
      have := q1 e' he'
      rw [hx'] at this
      exact absurd this Int32.lt_irrefl
