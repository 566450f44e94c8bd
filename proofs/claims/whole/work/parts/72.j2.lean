/-! value, same, total, eager, collect; make and text. -/
theorem tgW_ne {a : Ab} {p : Nat × Nat} (A : AI a) (ok : okW a (.inr p)) : tgW (.inr p) ≠ 0 := by
  have hle := okW_le ok p rfl
  have md := A.md
  have tn := A.tn
  by_cases h : p.1 = 0
  · show (if p.1 = 0 then (-1 : Int32) else Int32.ofNat p.1) ≠ 0
    rw [if_pos h]; decide
  · show (if p.1 = 0 then (-1 : Int32) else Int32.ofNat p.1) ≠ 0
    rw [if_neg h]; exact q_ne0 (by omega) h
theorem Int32.neg1_ne {n : Nat} (h : n < 2147483648) : ¬ (Int32.ofNat n = -1) := by
  intro c
  have h1 := q_le0 h
  rw [c] at h1
  exact absurd h1 (by decide)
theorem tgW_m1 {a : Ab} {w : Wrd} (A : AI a) (ok : okW a w) : tgW w = -1 ↔ w = .inr (0, 0) := by
  cases w with
  | inl v => exact ⟨fun h => absurd (show (0 : Int32) = -1 from h) (by decide), fun h => by cases h⟩
  | inr p =>
    have hle := okW_le ok p rfl
    have md := A.md
    have tn := A.tn
    by_cases h : p.1 = 0
    · rcases ok with ⟨k1, k2⟩ | ⟨k1, _⟩
      · have : p = (0, 0) := Prod.ext k1 k2
        subst this
        exact ⟨fun _ => rfl, fun _ => rfl⟩
      · have := k1.1
        omega
    · refine ⟨fun c => ?_, fun c => ?_⟩
      · have e : tgW (.inr p) = Int32.ofNat p.1 := by
          show (if p.1 = 0 then (-1 : Int32) else Int32.ofNat p.1) = _
          rw [if_neg h]
        rw [e] at c
        exact absurd c (Int32.neg1_ne (by omega))
      · cases c
        exact absurd rfl h
theorem tv_same {a : Ab} {w v : Wrd} (A : AI a) (ok : okW a w) (ov : okW a v) : (tgW w = tgW v ∧ (tgW w = -1 ∨ vlW w = vlW v)) ↔ w = v := by
  have md := A.md
  have tn := A.tn
  constructor
  · intro ⟨h1, h2⟩
    by_cases hm : tgW w = -1
    · have e1 := (tgW_m1 A ok).mp hm
      have e2 := (tgW_m1 A ov).mp (h1.symm.trans hm)
      rw [e1, e2]
    · have h2 := h2.resolve_left hm
      cases w with
      | inl x =>
        cases v with
        | inl y => exact congrArg Sum.inl h2
        | inr q => exact absurd h1.symm (tgW_ne A ov)
      | inr p =>
        cases v with
        | inl y => exact absurd h1 (tgW_ne A ok)
        | inr q =>
          have hp := okW_le ok p rfl
          have hq := okW_le ov q rfl
          have p0 : p.1 ≠ 0 := by
            intro c
            exact hm (by show (if p.1 = 0 then (-1 : Int32) else Int32.ofNat p.1) = -1; rw [if_pos c])
          have q0 : q.1 ≠ 0 := by
            intro c
            exact hm (h1.trans (by show (if q.1 = 0 then (-1 : Int32) else Int32.ofNat q.1) = -1; rw [if_pos c]))
          have e1 : tgW (.inr p) = Int32.ofNat p.1 := by
            show (if p.1 = 0 then (-1 : Int32) else Int32.ofNat p.1) = _
            rw [if_neg p0]
          have e2 : tgW (.inr q) = Int32.ofNat q.1 := by
            show (if q.1 = 0 then (-1 : Int32) else Int32.ofNat q.1) = _
            rw [if_neg q0]
          rw [e1, e2] at h1
          have e3 := (q_eq (by omega) (by omega)).mp h1
          have h4 : Int64.ofNat p.2 = Int64.ofNat q.2 := h2
          have l1 : p.2 ≤ 4096 := by
            rcases ok with ⟨k1, k2⟩ | ⟨_, k2, _⟩ <;> omega
          have l2 : q.2 ≤ 4096 := by
            rcases ov with ⟨k1, k2⟩ | ⟨_, k2, _⟩ <;> omega
          have e4 := (l_eq (by omega) (by omega)).mp h4
          exact congrArg Sum.inr (Prod.ext e3 e4)
  · intro h
    rw [h]
    exact ⟨rfl, Or.inr rfl⟩
theorem out0 (z : Lo) (x : Int64) : Lo.aot (Lo.wot z (vp_updL z.aot ((0 : Int32).toNatClampNeg) x)) 0 = x := rfl
theorem inb01 : inb 0 1 = true := by decide
theorem J_value {z : Lo} {m : Ms} {lm t : Nat} (r : Int32) (S : St z.h m lm t) : ∃ z2 m2 k b, la_value z r = some (z2, k) ∧ md_value m r = some (m2, b) ∧ m2.thr = k ∧ (k = 0 → z2.aot 0 = b) ∧ St z2.h m2 lm t ∧ Pot lm z2.h m2 = Pot lm z.h m := by
  obtain ⟨g, o, q, a, c, R, A, h1, h2⟩ := S
  rcases reg_c r with ⟨i, hi, rfl⟩ | hr
  · have w := c.rg i hi
    have v := R.rg i hi
    have ok := A.rg i hi
    generalize a.rg i = x at w v ok
    have hd : wh_value z.h (Int32.ofNat i) = if z.h.arf i = 0 then some (.inr (z.h.abt i)) else some (.inl "java/lang/UnsupportedOperationException") := by
      unfold wh_value
      rw [nreg_y hi, PB.2.2.2.1, hp_isReference_e c.i.hb (AI.in16 c hi), PB.2.1, hp_bitsAt_e c.i.hb (AI.in16 c hi), PB.2.1]
    have hm : md_value m (Int32.ofNat i) = if m.atg i = 0 then md_value_j26 (Int32.ofNat i) 0 m else md_value_j26 (Int32.ofNat i) 2 m := by
      unfold md_value
      rw [mreg_y hi, PB.2.1, if_neg ne10, R.z.tg, q_inb hi (by omega), q_nat (by omega), gdT]
    cases x with
    | inl y =>
      refine ⟨Lo.wot z (vp_updL z.aot ((0 : Int32).toNatClampNeg) y), Ms.sthr m 0, 0, y, ?_, ?_, rfl, fun _ => rfl, ⟨g, o, q, a, c, R, A, h1, h2⟩, rfl⟩
      · unfold la_value
        rw [hd, w.1, if_pos (show fW (.inl y) = 0 from rfl), w.2, PH2.2.1, inb01, gdT]
        rfl
      · rw [hm, v.1, if_pos (show tgW (.inl y) = 0 from rfl)]
        unfold md_value_j26
        rw [if_pos (by decide), R.z.vl, q_inb hi (by omega), q_nat (by omega), gdT, v.2]
        rfl
    | inr p =>
      refine ⟨z, Ms.sthr m 2, 2, 0, ?_, ?_, rfl, fun h => absurd h (by decide), ⟨g, o, q, a, c, R, A, h1, h2⟩, rfl⟩
      · unfold la_value
        rw [hd, w.1, if_neg (show ¬ (fW (.inr p) = 0) from ne10), PH2.1, if_neg (by decide), if_pos rfl]
      · rw [hm, v.1, if_neg (tgW_ne A ok)]
        unfold md_value_j26
        rw [if_neg (by decide)]
  · refine ⟨z, Ms.sthr m 1, 1, 0, ?_, ?_, rfl, fun h => absurd h (by decide), ⟨g, o, q, a, c, R, A, h1, h2⟩, rfl⟩
    · unfold la_value wh_value
      rw [nreg_n hr, PB.2.2.1, PH2.1, if_pos rfl]
    · unfold md_value md_value_j26
      rw [mreg_n hr, PB.2.1, if_pos rfl, if_neg (by decide)]
theorem J_same {z : Lo} {m : Ms} {lm t : Nat} (r s : Int32) (S : St z.h m lm t) : ∃ z2 m2 k b, la_same z r s = some (z2, k) ∧ md_same m r s = some (m2, b) ∧ m2.thr = k ∧ (k = 0 → z2.aot 0 = if b = 0 then 0 else 1) ∧ St z2.h m2 lm t ∧ Pot lm z2.h m2 = Pot lm z.h m := by
  obtain ⟨g, o, q, a, c, R, A, h1, h2⟩ := S
  rcases reg_c r with ⟨i, hi, rfl⟩ | hr
  · rcases reg_c s with ⟨j, hj, rfl⟩ | hs
    · have wi := c.rg i hi
      have wj := c.rg j hj
      have vi := R.rg i hi
      have vj := R.rg j hj
      have sm := c.same (A.rg i hi) (A.rg j hj)
      rw [← wi.1, ← wi.2, ← wj.1, ← wj.2] at sm
      have tv := tv_same A (A.rg i hi) (A.rg j hj)
      rw [← vi.1, ← vj.1, ← vi.2, ← vj.2] at tv
      have hc : wh_same z.h (Int32.ofNat i) (Int32.ofNat j) = some (.inr (if z.h.arf i = z.h.arf j ∧ z.h.abt i = z.h.abt j then 1 else 0)) := by
        unfold wh_same
        rw [nreg_y hi, PB.2.2.2.1, nreg_y hj, PB.2.2.2.1, hp_sameWords_e c.i.hb (AI.in16 c hi) (AI.in16 c hj), PB.2.1, zbof (by split <;> simp), gdT]
      have hm : md_same m (Int32.ofNat i) (Int32.ofNat j) = some (Ms.sthr m 0, if a.rg i = a.rg j then 1 else 0) := by
        unfold md_same md_same_j20 md_same_j71 md_same_j75
        rw [mreg_y hi, PB.2.1, if_neg ne10, mreg_y hj, PB.2.1, if_neg ne10, if_pos rfl, R.z.tg, R.z.vl, q_inb hi (by omega), q_inb hj (by omega), q_nat (show i < 2147483648 by omega), q_nat (show j < 2147483648 by omega), gdT, gdT, gdT, gdT, gdT]
        by_cases e1 : m.atg i = m.atg j
        · rw [if_pos e1]
          by_cases e2 : m.atg i = -1
          · rw [if_pos e2, if_pos (tv.mp ⟨e1, Or.inl e2⟩)]
          · rw [if_neg e2]
            by_cases e3 : m.avl i = m.avl j
            · rw [if_pos (show lg_cmp (m.avl i) (m.avl j) = 0 from by rw [lg_cmp0]; exact e3), if_pos (tv.mp ⟨e1, Or.inr e3⟩)]
            · rw [if_neg (show ¬ lg_cmp (m.avl i) (m.avl j) = 0 from by rw [lg_cmp0]; exact e3), if_neg (fun d => ((tv.mpr d).2.resolve_left e2 |> e3))]
        · rw [if_neg e1, if_neg (fun d => e1 (tv.mpr d).1)]
      by_cases hw : a.rg i = a.rg j
      · refine ⟨Lo.wot z (vp_updL z.aot ((0 : Int32).toNatClampNeg) 1), Ms.sthr m 0, 0, 1, ?_, ?_, rfl, fun _ => rfl, ⟨g, o, q, a, c, R, A, h1, h2⟩, rfl⟩
        · unfold la_same
          rw [hc, if_pos (sm.mpr hw), PH2.2.1, if_neg ne10, inb01, gdT]
        · rw [hm, if_pos hw]
      · refine ⟨Lo.wot z (vp_updL z.aot ((0 : Int32).toNatClampNeg) 0), Ms.sthr m 0, 0, 0, ?_, ?_, rfl, fun _ => rfl, ⟨g, o, q, a, c, R, A, h1, h2⟩, rfl⟩
        · unfold la_same
          rw [hc, if_neg (fun d => hw (sm.mp d)), PH2.2.1, if_pos rfl, inb01, gdT]
        · rw [hm, if_neg hw]
    · refine ⟨z, Ms.sthr m 1, 1, 0, ?_, ?_, rfl, fun h => absurd h (by decide), ⟨g, o, q, a, c, R, A, h1, h2⟩, rfl⟩
      · unfold la_same wh_same
        rw [nreg_y hi, PB.2.2.2.1, nreg_n hs, PB.2.2.1, PH2.1, if_pos rfl]
      · unfold md_same md_same_j19 md_same_j20 md_same_j75
        rw [mreg_y hi, PB.2.1, if_neg ne10, mreg_n hs, PB.2.1, if_pos rfl, if_neg ne10]
  · refine ⟨z, Ms.sthr m 1, 1, 0, ?_, ?_, rfl, fun h => absurd h (by decide), ⟨g, o, q, a, c, R, A, h1, h2⟩, rfl⟩
    · unfold la_same wh_same
      rw [nreg_n hr, PB.2.2.1, PH2.1, if_pos rfl]
    · unfold md_same md_same_j19 md_same_j20 md_same_j75
      rw [mreg_n hr, PB.2.1, if_pos rfl, if_neg ne10]
theorem J_total {z : Lo} {m : Ms} {lm t : Nat} (p : Int32) (S : St z.h m lm t) : ∃ z2 m2 k b, la_total z p = some (z2, k) ∧ md_total m p = some (m2, b) ∧ m2.thr = k ∧ (k = 0 → z2.aot 0 = b.toInt64) ∧ St z2.h m2 lm t ∧ Pot lm z2.h m2 = Pot lm z.h m := by
  obtain ⟨g, o, q, a, c, R, A, h1, h2⟩ := S
  by_cases hp : 0 ≤ p ∧ p ≤ 4
  · have key : ∀ b, hp_count z.h p = some b → md_total_j15 p 0 m = some (Ms.sthr m 0, b) → ∃ z2 m2 k b, la_total z p = some (z2, k) ∧ md_total m p = some (m2, b) ∧ m2.thr = k ∧ (k = 0 → z2.aot 0 = b.toInt64) ∧ St z2.h m2 lm t ∧ Pot lm z2.h m2 = Pot lm z.h m := by
      intro b e1 e2
      refine ⟨Lo.wot z (vp_updL z.aot ((0 : Int32).toNatClampNeg) b.toInt64), Ms.sthr m 0, 0, b, ?_, ?_, rfl, fun _ => rfl, ⟨g, o, q, a, c, R, A, h1, h2⟩, rfl⟩
      · unfold la_total wh_total
        rw [within_y hp, PB.2.2.2.1, e1, PB.2.1, PH2.2.1, inb01, gdT]
      · unfold md_total
        rw [outs_y hp, PB.2.1, if_pos rfl, e2]
    obtain ⟨i, hi, rfl⟩ := rng_c 4 (by omega) hp
    have us := A.us
    have lmb := A.lm
    have l0 : (0 : Int32) ≤ 0 := by decide
    have hi5 : i = 0 ∨ i = 1 ∨ i = 2 ∨ i = 3 ∨ i = 4 := by omega
    rcases hi5 with rfl | rfl | rfl | rfl | rfl
    · refine key (Int32.ofNat a.us) ?_ ?_
      · unfold hp_count hp_used
        rw [if_pos (by decide), PB.2.1, c.i.en, c.e]
        have : Int32.ofNat (17 + a.us) - 17 = Int32.ofNat (17 + a.us - 17) := q_sub (b := 17) (by omega)
        rw [this, show 17 + a.us - 17 = a.us from by omega]
      · unfold md_total_j15
        rw [if_pos l0, if_pos (by decide), R.s.usd, q_32]
    · refine key (Int32.ofNat a.lm) ?_ ?_
      · unfold hp_count
        rw [if_neg (by decide), if_pos (by decide), c.i.lim, c.lm]
      · unfold md_total_j15
        rw [if_pos l0, if_neg (by decide), if_pos (by decide), R.s.lim, q_32]
    · refine key (Int32.ofNat a.md) ?_ ?_
      · unfold hp_count
        rw [if_neg (by decide), if_neg (by decide), if_pos (by decide), c.md]
      · unfold md_total_j15
        rw [if_pos l0, if_neg (by decide), if_neg (by decide), if_pos (by decide), R.s.mad]
    · refine key a.co ?_ ?_
      · unfold hp_count
        rw [if_neg (by decide), if_neg (by decide), if_neg (by decide), if_pos (by decide), c.co]
      · unfold md_total_j15
        rw [if_pos l0, if_neg (by decide), if_neg (by decide), if_neg (by decide), if_pos (by decide), R.s.col]
    · refine key (Int32.ofNat a.gb) ?_ ?_
      · unfold hp_count
        rw [if_neg (by decide), if_neg (by decide), if_neg (by decide), if_neg (by decide), c.gb]
      · unfold md_total_j15
        rw [if_pos l0, if_neg (by decide), if_neg (by decide), if_neg (by decide), if_neg (by decide), R.s.gvb, q_32]
  · refine ⟨z, Ms.sthr m 1, 1, 0, ?_, ?_, rfl, fun h => absurd h (by decide), ⟨g, o, q, a, c, R, A, h1, h2⟩, rfl⟩
    · unfold la_total wh_total
      rw [within_n hp, PB.2.2.1, PH2.1, if_pos rfl]
    · unfold md_total md_total_j15
      rw [outs_n hp, PB.2.1, if_neg ne10, if_neg (by decide)]
theorem J_eager {z : Lo} {m : Ms} {lm t : Nat} (p : Int32) (hp : p = 0 ∨ p = 1) (S : St z.h m lm t) : ∃ z2 m2, wh_eager z.h p = some (z2, ()) ∧ md_eager m p = some (m2, ()) ∧ St z2 m2 lm t ∧ Pot lm z2 m2 = Pot lm z.h m := by
  obtain ⟨g, o, q, a, c, R, A, h1, h2⟩ := S
  refine ⟨Hs.sal z.h p, Ms.seag (Ms.sthr m 0) p, ?_, ?_, ⟨g, o, q, a.s_eg p, ⟨c.hi, c.md, c.co, c.gb, rfl, c.lm, c.e, c.h0, c.rg, c.ob, c.ow, c.sum⟩, ⟨⟨R.s.lim, rfl, R.s.usd, R.s.gvb, R.s.old, R.s.col, R.s.mad⟩, R.z, R.k, R.rg, R.th, R.k0, R.fl, R.ob, R.sr, R.ws, R.bs, R.e⟩, ⟨A.lm, hp, A.us, A.md, A.tn, A.rg, A.ob, A.sum, A.el, A.en, A.cn⟩, h1, h2⟩, rfl⟩
  · unfold wh_eager hp_setEager
    rw [zbof hp, gdT, PB.2.2.2.2.1]
  · unfold md_eager
    rw [zbof hp, gdT]
theorem J_collect {z : Lo} {m : Ms} {lm t : Nat} (S : St z.h m lm t) : ∃ z2 m2 b, wh_collect z.h = some (z2, b) ∧ md_collect m = some (m2, b) ∧ St z2 m2 lm t ∧ Pot lm z2 m2 = Pot lm z.h m := by
  obtain ⟨g, o, q, a, c, R, A, h1, h2⟩ := S
  obtain ⟨z2, g2, e1, c2, n1, n2, n3⟩ := RC_col c A
  obtain ⟨m2, q2, e2, R2, t2, p2⟩ := RM_col R A
  refine ⟨z2, m2, _, ?_, e2, ⟨g2, o, q2, collA a, c2, R2, AI_col A, h1, h2⟩, ?_⟩
  · unfold wh_collect
    rw [e1, PB.2.2.2.2.1]
  · unfold Pot
    rw [n1, n2, p2]
/-- a new row or text of the class -/
theorem RC_claim {z : Hs} {g : Gh} {o : Go} {a : Ab} {kd ln : Nat} (c : RC z g o a) (A : AI a) (hk : kd = 2 ∨ kd = 3) (hl : ln ≤ 32768) : ∃ c1 z2 g2 o2, RC z2 g2 o2 (if (roomA a (tkN kd ln 0 0)).us + tkN kd ln 0 0 ≤ a.lm then newA (roomA a (tkN kd ln 0 0)) kd ln 0 0 0 else roomA a (tkN kd ln 0 0)) ∧ hp_claim z (Int32.ofNat kd) (Int32.ofNat ln) = some (c1, z2, if (roomA a (tkN kd ln 0 0)).us + tkN kd ln 0 0 ≤ a.lm then .inr (Int32.ofNat (o2.ho (a.md + 1))) else .inl "java/lang/IllegalStateException") ∧ c1 + HP z g ≤ HP z2 g2 ∧ (∀ n, n ≤ a.md → o2.ho n = o.ho n) := by
  have lm := A.lm
  have tkl : tkN kd ln 0 0 ≤ 32769 := by
    unfold tkN
    rcases hk with rfl | rfl
    · rw [if_pos rfl]; omega
    · rw [if_neg (by omega), if_pos rfl]; omega
  have szs : 1 + (if kd = 3 then (ln + 7) / 8 else ln) = tkN kd ln 0 0 := by
    unfold tkN
    rcases hk with rfl | rfl
    · rw [if_neg (by omega), if_pos rfl]; omega
    · rw [if_pos rfl, if_neg (by omega), if_pos rfl]; omega
  obtain ⟨z1, g1, e1, c1, p1⟩ := RC_room (n := tkN kd ln 0 0) c A (by omega)
  have A1 := AI_room (n := tkN kd ln 0 0) A
  obtain ⟨rm1, rm2, rm3, rm4⟩ := roomA_md (a := a) (n := tkN kd ln 0 0)
  unfold hp_claim
  rw [hp_sizeOf_e (by omega) (by omega), PB.2.1, szs, e1]
  by_cases h : (roomA a (tkN kd ln 0 0)).us + tkN kd ln 0 0 ≤ a.lm
  · rw [if_pos h, if_pos h, PB.2.2.2.2.2.2.1]
    have md := A1.md
    have tn := A1.tn
    obtain ⟨c2, z2, hh, fl, lh, e2, P⟩ := pl_e (kd := kd) (ln := ln) (md := (roomA a (tkN kd ln 0 0)).md) (nu := (roomA a (tkN kd ln 0 0)).md + 1) c1.hi (by omega) (by omega) (by rw [szs, c1.e, c1.lm, rm2]; omega) c1.md (by omega) (by rw [if_neg (by omega)])
    have N := RC_new c1 A1 hk P
    have hho : (onew o ((roomA a (tkN kd ln 0 0)).md + 1) hh).ho (a.md + 1) = hh := by rw [rm1]; exact updN_s _ _ _
    refine ⟨c2 + 0, z2, _, _, N, ?_, ?_, ?_⟩
    · rw [e2, PB.2.2.2.2.2.2.2.2.1, if_pos h, hho]
      rfl
    · have := P.c
      omega
    · intro n hn
      rw [rm1]
      exact updN_o _ _ (by omega)
  · rw [if_neg h, if_neg h, PB.2.2.2.2.2.1]
    refine ⟨0, z1, g1, o, c1, ?_, by omega, fun _ _ => rfl⟩
    rw [if_neg h]
