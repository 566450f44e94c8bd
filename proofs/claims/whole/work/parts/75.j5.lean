/-! shift, load, store, copy on both sides. -/
theorem kW_rw {a : Ab} {i n p : Nat} (e : a.rg i = .inr (n, p)) (on : obj a n) : kW a (a.rg i) = a.kd n := by
  rw [e]
  exact if_neg (by show ¬ (n = 0); have := on.1; omega)
theorem add64 {p q : Nat} (k : Int32) (h : Int64.ofNat p + k.toInt64 = Int64.ofNat q) : (Int64.ofNat p + k.toInt64).toInt32 = Int32.ofNat q := by rw [h, q_32]
theorem J_shift {z : Lo} {m : Ms} {lm t : Nat} (r s k : Int32) (S : St z.h m lm t) : ∃ z2 m2 e, la_shift z r s k = some (z2, e) ∧ md_shift m r s k = some (m2, ()) ∧ m2.thr = e ∧ St z2.h m2 lm t ∧ Pot lm z2.h m2 = Pot lm z.h m := by
  have S0 := S
  obtain ⟨g, o, q, a, c, R, A, h1, h2⟩ := S
  have l00 : (0 : Int32) ≤ 0 := by decide
  have l10 : ¬ ((1 : Int32) ≤ 0) := by decide
  have n20 : ¬ ((2 : Int32) = 0) := by decide
  have n30 : ¬ ((3 : Int32) = 0) := by decide
  rcases reg_c r with ⟨i, hi, rfl⟩ | hr
  · rcases reg_c s with ⟨j, hj, rfl⟩ | hs
    · have hm0 : md_shift m (Int32.ofNat i) (Int32.ofNat j) k = md_shift_j20 (Int32.ofNat i) (Int32.ofNat j) k 0 m := by
        unfold md_shift
        rw [mreg_y hi, PB.2.1, if_neg ne10, mreg_y hj, PB.2.1, if_neg ne10]
      have hc0 : wh_shift z.h (Int32.ofNat i) (Int32.ofNat j) k = (bt (wh_rowIn z.h (Int32.ofNat j)) (fun e9 => (z.h, .inl e9)) (fun r3 => (b0 (hp_placeAt z.h (Int32.ofNat j)) (fun r4 => (if (lg_cmp ((r4.toInt64) + (k.toInt64)) 0) < 0 then some (z.h, .inl "java/lang/IndexOutOfBoundsException") else (b0 (hp_length z.h r3) (fun r6 => (if (lg_cmp ((r4.toInt64) + (k.toInt64)) (r6.toInt64)) ≤ 0 then (bw (hp_setReference z.h (Int32.ofNat i) r3 (((r4.toInt64) + (k.toInt64)).toInt32)) (fun z8 _ => some (z8, .inr ()))) else some (z.h, .inl "java/lang/IndexOutOfBoundsException")))))))))  := by
        unfold wh_shift
        rw [nreg_y hi, PB.2.2.2.1, nreg_y hj, PB.2.2.2.1]
      have ok := A.rg j hj
      by_cases hk : kW a (a.rg j) = 2
      · obtain ⟨n, p, e, on, k2, hp, hp2, _⟩ := kW_obj A ok (by omega) hk
        have hp2 := hp2 rfl
        have ob := c.ob n on
        have v : hv g (o.ho n) := Or.inr ob.m
        have hlt := (c.i.hok v).2.2.2.2
        have hh : hW o (a.rg j) = o.ho n := by rw [e]; rfl
        have pp : pW (a.rg j) = p := by rw [e]; rfl
        have ll := (A.rw on k2).1
        have RR := ob.rw k2
        have n0 : n ≠ 0 := by have := on.1; omega
        have vr := R.rg j hj
        rw [e] at vr
        have v2 : m.avl j = Int64.ofNat p := vr.2
        have v1 : m.atg j = Int32.ofNat n := vr.1.trans (tgW_o n0)
        have Z := R.z
        have zk := Z.K
        have hK := R.k
        have hn := on.2.1
        rw [rowIn_e c A hj, if_pos hk, PB.2.2.2.1, c.placeAt (AI.in16 c hj) (c.rg j hj) ok, PB.2.1, hh, pp, q_64 (by omega), c.i.length v, PB.2.1, RR.1, q_64 (by omega)] at hc0
        have hm1 : md_shift m (Int32.ofNat i) (Int32.ofNat j) k = (if (lg_cmp (Int64.ofNat p + (k.toInt64)) 0) < 0 then (md_shift_j84 (Int32.ofNat i) (Int32.ofNat j) k (Ms.sthr m 0)) else (if (lg_cmp (Int64.ofNat p + (k.toInt64)) (Int64.ofNat (a.ln n))) ≤ 0 then (md_shift_j89 (Int32.ofNat i) (Int32.ofNat j) k 0 (Ms.sthr m 0)) else (md_shift_j84 (Int32.ofNat i) (Int32.ofNat j) k (Ms.sthr m 0)))) := by
          rw [hm0]
          unfold md_shift_j20
          rw [if_pos l00, show (2 : Int32) = Int32.ofNat 2 from rfl, md_is_e (k := 2) (m := Ms.sthr m 0) R A hj (by omega), if_pos hk, PB.2.1, if_neg ne10]
          show gd (inb (Int32.ofNat j) m.nvl) (if lg_cmp (m.avl (Int32.ofNat j).toNatClampNeg + k.toInt64) 0 < 0 then _ else gd (inb (Int32.ofNat j) m.nvl) (gd (inb (Int32.ofNat j) m.ntg) (gd (inb (m.atg (Int32.ofNat j).toNatClampNeg) m.nsi) (if lg_cmp (m.avl (Int32.ofNat j).toNatClampNeg + k.toInt64) (m.asi (m.atg (Int32.ofNat j).toNatClampNeg).toNatClampNeg).toInt64 ≤ 0 then _ else _)))) = _
          rw [Z.vl, Z.tg, Z.si, q_inb hj (by omega), q_nat (show j < 2147483648 by omega), v2, v1, q_inb (show n < q.K by omega) (by omega), q_nat (show n < 2147483648 by omega), (R.ob n on).si, q_64 (by omega), gdT, gdT, gdT, gdT]
        have fail : wh_shift z.h (Int32.ofNat i) (Int32.ofNat j) k = some (z.h, .inl "java/lang/IndexOutOfBoundsException") → md_shift m (Int32.ofNat i) (Int32.ofNat j) k = md_shift_j84 (Int32.ofNat i) (Int32.ofNat j) k (Ms.sthr m 0) → ∃ z2 m2 e, la_shift z (Int32.ofNat i) (Int32.ofNat j) k = some (z2, e) ∧ md_shift m (Int32.ofNat i) (Int32.ofNat j) k = some (m2, ()) ∧ m2.thr = e ∧ St z2.h m2 lm t ∧ Pot lm z2.h m2 = Pot lm z.h m := by
          intro x1 x2
          refine ⟨Lo.sh z z.h, Ms.sthr (Ms.sthr m 0) 3, 3, ?_, ?_, rfl, ⟨g, o, q, a, c, R, A, h1, h2⟩, rfl⟩
          · unfold la_shift
            rw [x1, PH2.2.2.1, if_neg (by decide), if_neg (by decide), if_pos rfl]
          · rw [x2]
            unfold md_shift_j84 md_shift_j89
            rw [if_neg n30]
        by_cases g0 : Int64.ofNat p + k.toInt64 < 0
        · refine fail ?_ ?_
          · rw [hc0, if_pos (lg_lt.mpr g0)]
          · rw [hm1, if_pos (lg_lt.mpr g0)]
        · rw [if_neg (fun d => g0 (lg_lt.mp d))] at hc0 hm1
          by_cases g1 : Int64.ofNat p + k.toInt64 ≤ Int64.ofNat (a.ln n)
          · rw [if_pos (lg_le.mpr g1)] at hc0 hm1
            obtain ⟨x, hx, ex⟩ := ix_c (n := a.ln n + 1) (by omega) g0 (Int64.lt_of_le_of_lt g1 ((l_lt (by omega) (by omega)).mpr (by omega)))
            have ok2 : okW a (.inr (n, x)) := Or.inr ⟨on, by show x ≤ 4096; omega, by rw [if_pos (show a.kd (n, x).1 = 2 from k2)]; show x ≤ a.ln n; omega⟩
            have C2 := RC_reg (w := .inr (n, x)) c A hi
            have R2 := RM_reg (i := i) (w := .inr (n, x)) (m := Ms.sthr (Ms.sthr m 0) 0) R
            rw [tgW_o n0] at R2
            refine ⟨Lo.sh z (Hs.wm z.h (vp_updL z.h.abt i (Int64.ofNat (o.ho n * 8192 + x))) (upd z.h.arf i 1)), Ms.wvl (Ms.wtg (Ms.sthr (Ms.sthr m 0) 0) (upd m.atg i (Int32.ofNat n))) (vp_updL m.avl i (Int64.ofNat x)), 0, ?_, ?_, rfl, ⟨g, o, q, _, C2, R2, AI_reg A ok2, h1, h2⟩, rfl⟩
            · unfold la_shift
              rw [hc0, ex, q_32, hp_setReference_e c.i.hb (AI.in16 c hi) (by omega) (by omega), PB.2.2.2.2.1, PH2.2.2.2.1]
            · rw [hm1]
              unfold md_shift_j89
              rw [if_pos rfl]
              show gd (inb (Int32.ofNat j) m.ntg) (gd (inb (Int32.ofNat j) m.nvl) (bw (md_set (Ms.sthr (Ms.sthr m 0) 0) (Int32.ofNat i) (m.atg (Int32.ofNat j).toNatClampNeg) (m.avl (Int32.ofNat j).toNatClampNeg + k.toInt64)) _)) = _
              rw [Z.vl, Z.tg, q_inb hj (by omega), q_nat (show j < 2147483648 by omega), v2, v1, ex, gdT, gdT, md_set_e (m := Ms.sthr (Ms.sthr m 0) 0) hi Z.tg Z.vl]
              rfl
          · rw [if_neg (fun d => g1 (lg_le.mp d))] at hc0 hm1
            exact fail hc0 hm1
      · refine ⟨Lo.sh z z.h, Ms.sthr (Ms.sthr m 0) 2, 2, ?_, ?_, rfl, ⟨g, o, q, a, c, R, A, h1, h2⟩, rfl⟩
        · unfold la_shift
          rw [hc0, rowIn_e c A hj, if_neg hk, PB.2.2.1, PH2.2.2.1, if_neg (by decide), if_pos rfl]
        · rw [hm0]
          unfold md_shift_j20 md_shift_j89
          rw [if_pos l00]
          rw [show md_is (Ms.sthr m 0) (Int32.ofNat j) 2 = some (if kW a (a.rg j) = 2 then 1 else 0) from md_is_e (k := 2) (m := Ms.sthr m 0) R A hj (by omega), if_neg hk, PB.2.1, if_pos rfl, if_neg n20]
    · refine ⟨Lo.sh z z.h, Ms.sthr m 1, 1, ?_, ?_, rfl, ⟨g, o, q, a, c, R, A, h1, h2⟩, rfl⟩
      · unfold la_shift wh_shift
        rw [nreg_y hi, PB.2.2.2.1, nreg_n hs, PB.2.2.1, PH2.2.2.1, if_pos rfl]
      · unfold md_shift md_shift_j19 md_shift_j20
        rw [mreg_y hi, PB.2.1, if_neg ne10, mreg_n hs, PB.2.1, if_pos rfl, if_neg l10]
  · refine ⟨Lo.sh z z.h, Ms.sthr m 1, 1, ?_, ?_, rfl, ⟨g, o, q, a, c, R, A, h1, h2⟩, rfl⟩
    · unfold la_shift wh_shift
      rw [nreg_n hr, PB.2.2.1, PH2.2.2.1, if_pos rfl]
    · unfold md_shift md_shift_j19 md_shift_j20
      rw [mreg_n hr, PB.2.1, if_pos rfl, if_neg l10]
theorem J_load {z : Lo} {m : Ms} {lm t : Nat} (r s k : Int32) (S : St z.h m lm t) : ∃ z2 m2 e, la_load z r s k = some (z2, e) ∧ md_load m r s k = some (m2, ()) ∧ m2.thr = e ∧ St z2.h m2 lm t ∧ Pot lm z2.h m2 = Pot lm z.h m := by
  obtain ⟨g, o, q, a, c, R, A, h1, h2⟩ := S
  have l00 : (0 : Int32) ≤ 0 := by decide
  have l10 : ¬ ((1 : Int32) ≤ 0) := by decide
  have l20 : ¬ ((2 : Int32) ≤ 0) := by decide
  have l30 : ¬ ((3 : Int32) ≤ 0) := by decide
  rcases reg_c r with ⟨i, hi, rfl⟩ | hr
  · rcases reg_c s with ⟨j, hj, rfl⟩ | hs
    · have hm0 : md_load m (Int32.ofNat i) (Int32.ofNat j) k = md_load_j20 (Int32.ofNat i) (Int32.ofNat j) k 0 m := by
        unfold md_load
        rw [mreg_y hi, PB.2.1, if_neg ne10, mreg_y hj, PB.2.1, if_neg ne10]
      have hc0 : wh_load z.h (Int32.ofNat i) (Int32.ofNat j) k = bt (wh_wordBehind z.h (Int32.ofNat j) k) (fun e9 => (z.h, .inl e9)) (fun r3 => (bw (hp_setWord z.h (Int32.ofNat i) r3) (fun z4 _ => some (z4, .inr ())))) := by
        unfold wh_load
        rw [nreg_y hi, PB.2.2.2.1, nreg_y hj, PB.2.2.2.1]
      have ok := A.rg j hj
      by_cases hk : kW a (a.rg j) = 2
      · obtain ⟨n, p, e, on, k2, hp, hp2, _⟩ := kW_obj A ok (by omega) hk
        have ob := c.ob n on
        have RR := ob.rw k2
        have okr := A.rw on k2
        have ll := okr.1
        have Z := R.z
        have zw := Z.wl
        have hm1 : md_load m (Int32.ofNat i) (Int32.ofNat j) k = if (if ¬ (Int64.ofNat p + k.toInt64 < 0) ∧ Int64.ofNat p + k.toInt64 < Int64.ofNat (a.ln n) then (1 : Int32) else 0) = 0 then (md_load_j60 (Int32.ofNat i) (Int32.ofNat j) k 3 (Ms.sthr m 0)) else (md_load_j60 (Int32.ofNat i) (Int32.ofNat j) k 0 (Ms.sthr m 0)) := by
          rw [hm0]
          unfold md_load_j20
          rw [if_pos l00]
          rw [show md_is (Ms.sthr m 0) (Int32.ofNat j) 2 = some (if kW a (a.rg j) = 2 then 1 else 0) from md_is_e (k := 2) (m := Ms.sthr m 0) R A hj (by omega), if_pos hk, PB.2.1, if_neg ne10, md_hasWord_e (m := Ms.sthr m 0) R A hj e on k2, PB.2.1]
        rw [wordBehind_e c A hj e on k2 hp] at hc0
        by_cases gg : ¬ (Int64.ofNat p + k.toInt64 < 0) ∧ Int64.ofNat p + k.toInt64 < Int64.ofNat (a.ln n)
        · rw [if_pos gg] at hc0 hm1
          rw [if_neg ne10] at hm1
          obtain ⟨x, hx, ex⟩ := ix_c (by omega) gg.1 gg.2
          have w := RR.2 x hx
          have wm := ((R.ob n on).rw k2)
          have wmx := wm.2.2 x hx
          have wml := wm.2.1
          have C2 := RC_reg (w := a.wo n x) c A hi
          have R2 := RM_reg (i := i) (w := a.wo n x) (m := Ms.sthr (Ms.sthr m 0) 0) R
          rw [← w.1, ← w.2] at C2
          rw [← wmx.1, ← wmx.2] at R2
          have hwd := c.i.wd_ne (a := g.st (o.ho n) + 1 + x) (Or.inr ⟨o.ho n, ob.m, by omega, by unfold Gh.sz; rw [ob.kd, k2, RR.1, if_neg (by omega)]; omega⟩)
          refine ⟨Lo.sh z (Hs.wm z.h (vp_updL z.h.abt i (z.h.abt (g.st (o.ho n) + 1 + x))) (upd z.h.arf i (z.h.arf (g.st (o.ho n) + 1 + x)))), _, 0, ?_, ?_, rfl, ⟨g, o, q, _, C2, R2, AI_reg A (okr.2 x hx), h1, h2⟩, rfl⟩
          · unfold la_load
            rw [hc0, PB.2.2.2.1, add64 k ex, q_add, hp_setWord_e c.i.hb (AI.in16 c hi) hwd.1, PB.2.2.2.2.1, PH2.2.2.2.1]
          · rw [hm1]
            unfold md_load_j60
            rw [if_pos l00, md_at_e (m := Ms.sthr (Ms.sthr m 0) 0) R A hj e on k2 (add32 ex), PB.2.1]
            show gd (inb (Int32.ofNat (q.sr n + x)) m.nwt) (gd (inb (Int32.ofNat (q.sr n + x)) m.nwv) (bw (md_set (Ms.sthr (Ms.sthr m 0) 0) (Int32.ofNat i) (m.awt (Int32.ofNat (q.sr n + x)).toNatClampNeg) (m.awv (Int32.ofNat (q.sr n + x)).toNatClampNeg)) _)) = _
            rw [Z.wt, q_inb (show q.sr n + x < m.nwt by omega) (by omega), q_nat (by omega), gdT, gdT, md_set_e (m := Ms.sthr (Ms.sthr m 0) 0) hi Z.tg Z.vl]
            rfl
        · rw [if_neg gg] at hc0 hm1
          rw [if_pos rfl] at hm1
          refine ⟨Lo.sh z z.h, Ms.sthr (Ms.sthr m 0) 3, 3, ?_, ?_, rfl, ⟨g, o, q, a, c, R, A, h1, h2⟩, rfl⟩
          · unfold la_load
            rw [hc0, PB.2.2.1, PH2.2.2.1, if_neg (by decide), if_neg (by decide), if_pos rfl]
          · rw [hm1]
            unfold md_load_j60
            rw [if_neg l30]
      · refine ⟨Lo.sh z z.h, Ms.sthr (Ms.sthr m 0) 2, 2, ?_, ?_, rfl, ⟨g, o, q, a, c, R, A, h1, h2⟩, rfl⟩
        · unfold la_load
          rw [hc0]
          unfold wh_wordBehind
          rw [rowIn_e c A hj, if_neg hk, PB.2.2.1, PB.2.2.1, PH2.2.2.1, if_neg (by decide), if_pos rfl]
        · rw [hm0]
          unfold md_load_j20 md_load_j60
          rw [if_pos l00]
          rw [show md_is (Ms.sthr m 0) (Int32.ofNat j) 2 = some (if kW a (a.rg j) = 2 then 1 else 0) from md_is_e (k := 2) (m := Ms.sthr m 0) R A hj (by omega), if_neg hk, PB.2.1, if_pos rfl, if_neg l20]
    · refine ⟨Lo.sh z z.h, Ms.sthr m 1, 1, ?_, ?_, rfl, ⟨g, o, q, a, c, R, A, h1, h2⟩, rfl⟩
      · unfold la_load wh_load
        rw [nreg_y hi, PB.2.2.2.1, nreg_n hs, PB.2.2.1, PH2.2.2.1, if_pos rfl]
      · unfold md_load md_load_j19 md_load_j20
        rw [mreg_y hi, PB.2.1, if_neg ne10, mreg_n hs, PB.2.1, if_pos rfl, if_neg l10]
  · refine ⟨Lo.sh z z.h, Ms.sthr m 1, 1, ?_, ?_, rfl, ⟨g, o, q, a, c, R, A, h1, h2⟩, rfl⟩
    · unfold la_load wh_load
      rw [nreg_n hr, PB.2.2.1, PH2.2.2.1, if_pos rfl]
    · unfold md_load md_load_j19 md_load_j20
      rw [mreg_n hr, PB.2.1, if_pos rfl, if_neg l10]
theorem J_store {z : Lo} {m : Ms} {lm t : Nat} (s k r : Int32) (S : St z.h m lm t) : ∃ z2 m2 e, la_store z s k r = some (z2, e) ∧ md_store m s k r = some (m2, ()) ∧ m2.thr = e ∧ St z2.h m2 lm t ∧ Pot lm z2.h m2 = Pot lm z.h m := by
  obtain ⟨g, o, q, a, c, R, A, h1, h2⟩ := S
  have l00 : (0 : Int32) ≤ 0 := by decide
  have l10 : ¬ ((1 : Int32) ≤ 0) := by decide
  have l20 : ¬ ((2 : Int32) ≤ 0) := by decide
  have l30 : ¬ ((3 : Int32) ≤ 0) := by decide
  have bad : wh_store z.h s k r = some (z.h, .inl "java/lang/IllegalArgumentException") → md_store m s k r = some (Ms.sthr m 1, ()) → ∃ z2 m2 e, la_store z s k r = some (z2, e) ∧ md_store m s k r = some (m2, ()) ∧ m2.thr = e ∧ St z2.h m2 lm t ∧ Pot lm z2.h m2 = Pot lm z.h m := by
    intro x1 x2
    refine ⟨Lo.sh z z.h, Ms.sthr m 1, 1, ?_, x2, rfl, ⟨g, o, q, a, c, R, A, h1, h2⟩, rfl⟩
    unfold la_store
    rw [x1, PH2.2.2.1, if_pos rfl]
  rcases reg_c r with ⟨i, hi, rfl⟩ | hr
  · rcases reg_c s with ⟨j, hj, rfl⟩ | hs
    · have hm0 : md_store m (Int32.ofNat j) k (Int32.ofNat i) = md_store_j20 (Int32.ofNat j) k (Int32.ofNat i) 0 m := by
        unfold md_store
        rw [mreg_y hi, PB.2.1, if_neg ne10, mreg_y hj, PB.2.1, if_neg ne10]
      have hc0 : wh_store z.h (Int32.ofNat j) k (Int32.ofNat i) = bt (wh_wordBehind z.h (Int32.ofNat j) k) (fun e9 => (z.h, .inl e9)) (fun r3 => (bw (hp_setWord z.h r3 (Int32.ofNat i)) (fun z4 _ => some (z4, .inr ())))) := by
        unfold wh_store
        rw [nreg_y hj, PB.2.2.2.1, nreg_y hi, PB.2.2.2.1]
      have ok := A.rg j hj
      by_cases hk : kW a (a.rg j) = 2
      · obtain ⟨n, p, e, on, k2, hp, hp2, _⟩ := kW_obj A ok (by omega) hk
        have ob := c.ob n on
        have RR := ob.rw k2
        have okr := A.rw on k2
        have ll := okr.1
        have Z := R.z
        have zw := Z.wl
        have hm1 : md_store m (Int32.ofNat j) k (Int32.ofNat i) = if (if ¬ (Int64.ofNat p + k.toInt64 < 0) ∧ Int64.ofNat p + k.toInt64 < Int64.ofNat (a.ln n) then (1 : Int32) else 0) = 0 then (md_store_j60 (Int32.ofNat j) k (Int32.ofNat i) 3 (Ms.sthr m 0)) else (md_store_j60 (Int32.ofNat j) k (Int32.ofNat i) 0 (Ms.sthr m 0)) := by
          rw [hm0]
          unfold md_store_j20
          rw [if_pos l00]
          rw [show md_is (Ms.sthr m 0) (Int32.ofNat j) 2 = some (if kW a (a.rg j) = 2 then 1 else 0) from md_is_e (k := 2) (m := Ms.sthr m 0) R A hj (by omega), if_pos hk, PB.2.1, if_neg ne10, md_hasWord_e (m := Ms.sthr m 0) R A hj e on k2, PB.2.1]
        rw [wordBehind_e c A hj e on k2 hp] at hc0
        by_cases gg : ¬ (Int64.ofNat p + k.toInt64 < 0) ∧ Int64.ofNat p + k.toInt64 < Int64.ofNat (a.ln n)
        · rw [if_pos gg] at hc0 hm1
          rw [if_neg ne10] at hm1
          obtain ⟨x, hx, ex⟩ := ix_c (by omega) gg.1 gg.2
          have w := c.rg i hi
          have wr := R.rg i hi
          have wm := ((R.ob n on).rw k2)
          have wml := wm.2.1
          have hwd := c.i.wd_ne (a := g.st (o.ho n) + 1 + x) (Or.inr ⟨o.ho n, ob.m, by omega, by unfold Gh.sz; rw [ob.kd, k2, RR.1, if_neg (by omega)]; omega⟩)
          have C2 := RC_row (b := vp_updL z.h.abt (g.st (o.ho n) + 1 + x) (z.h.abt i)) (f := upd z.h.arf (g.st (o.ho n) + 1 + x) (z.h.arf i)) (w := updN (a.wo n) x (a.rg i)) c A on k2 (by
              intro y
              unfold upd
              split
              · exact c.i.fl _
              · exact c.i.fl _) (by
              intro y hy
              have : y ≠ g.st (o.ho n) + 1 + x := hy x hx
              exact ⟨if_neg this, if_neg this⟩) (by
              intro y hy
              by_cases hyx : y = x
              · subst hyx
                rw [updN_s]
                exact ⟨(if_pos rfl).trans w.1, (if_pos rfl).trans w.2⟩
              · rw [updN_o _ _ hyx]
                have : g.st (o.ho n) + 1 + y ≠ g.st (o.ho n) + 1 + x := by omega
                exact ⟨(if_neg this).trans (RR.2 y hy).1, (if_neg this).trans (RR.2 y hy).2⟩)
          have R2 := RM_rw (m := Ms.sthr (Ms.sthr m 0) 0) (t := upd m.awt (q.sr n + x) (m.atg i)) (v := vp_updL m.awv (q.sr n + x) (m.avl i)) (w := updN (a.wo n) x (a.rg i)) R on k2 (by
              intro y hy
              have : y ≠ q.sr n + x := hy x hx
              exact ⟨if_neg this, if_neg this⟩) (by
              intro y hy
              by_cases hyx : y = x
              · subst hyx
                rw [updN_s]
                exact ⟨(if_pos rfl).trans wr.1, (if_pos rfl).trans wr.2⟩
              · rw [updN_o _ _ hyx]
                have : q.sr n + y ≠ q.sr n + x := by omega
                exact ⟨(if_neg this).trans (wm.2.2 y hy).1, (if_neg this).trans (wm.2.2 y hy).2⟩)
          refine ⟨Lo.sh z (Hs.wm z.h (vp_updL z.h.abt (g.st (o.ho n) + 1 + x) (z.h.abt i)) (upd z.h.arf (g.st (o.ho n) + 1 + x) (z.h.arf i))), Ms.wwv (Ms.wwt (Ms.sthr (Ms.sthr m 0) 0) (upd m.awt (q.sr n + x) (m.atg i))) (vp_updL m.awv (q.sr n + x) (m.avl i)), 0, ?_, ?_, rfl, ⟨g, o, q, _, C2, R2, AI_row A on k2 ?_, h1, h2⟩, rfl⟩
          · unfold la_store
            rw [hc0, PB.2.2.2.1, add64 k ex, q_add, hp_setWord_e c.i.hb hwd.1 (AI.in16 c hi), PB.2.2.2.2.1, PH2.2.2.2.1]
          · rw [hm1]
            unfold md_store_j60
            rw [if_pos l00, md_at_e (m := Ms.sthr (Ms.sthr m 0) 0) R A hj e on k2 (add32 ex), PB.2.1]
            show gd (inb (Int32.ofNat i) m.ntg) (gd (inb (Int32.ofNat (q.sr n + x)) m.nwt) (gd (inb (Int32.ofNat i) m.nvl) (gd (inb (Int32.ofNat (q.sr n + x)) m.nwv) (some (Ms.wwv (Ms.wwt (Ms.sthr (Ms.sthr m 0) 0) (upd m.awt (Int32.ofNat (q.sr n + x)).toNatClampNeg (m.atg (Int32.ofNat i).toNatClampNeg))) (vp_updL m.awv (Int32.ofNat (q.sr n + x)).toNatClampNeg (m.avl (Int32.ofNat i).toNatClampNeg)), ()))))) = _
            rw [Z.wt, Z.tg, Z.vl, q_inb hi (by omega), q_inb (show q.sr n + x < m.nwt by omega) (by omega), q_nat (show q.sr n + x < 2147483648 by omega), q_nat (show i < 2147483648 by omega), gdT, gdT, gdT, gdT]
          · intro y hy
            by_cases hyx : y = x
            · rw [hyx, updN_s]; exact A.rg i hi
            · rw [updN_o _ _ hyx]; exact okr.2 y hy
        · rw [if_neg gg] at hc0 hm1
          rw [if_pos rfl] at hm1
          refine ⟨Lo.sh z z.h, Ms.sthr (Ms.sthr m 0) 3, 3, ?_, ?_, rfl, ⟨g, o, q, a, c, R, A, h1, h2⟩, rfl⟩
          · unfold la_store
            rw [hc0, PB.2.2.1, PH2.2.2.1, if_neg (by decide), if_neg (by decide), if_pos rfl]
          · rw [hm1]
            unfold md_store_j60
            rw [if_neg l30]
      · refine ⟨Lo.sh z z.h, Ms.sthr (Ms.sthr m 0) 2, 2, ?_, ?_, rfl, ⟨g, o, q, a, c, R, A, h1, h2⟩, rfl⟩
        · unfold la_store
          rw [hc0]
          unfold wh_wordBehind
          rw [rowIn_e c A hj, if_neg hk, PB.2.2.1, PB.2.2.1, PH2.2.2.1, if_neg (by decide), if_pos rfl]
        · rw [hm0]
          unfold md_store_j20 md_store_j60
          rw [if_pos l00]
          rw [show md_is (Ms.sthr m 0) (Int32.ofNat j) 2 = some (if kW a (a.rg j) = 2 then 1 else 0) from md_is_e (k := 2) (m := Ms.sthr m 0) R A hj (by omega), if_neg hk, PB.2.1, if_pos rfl, if_neg l20]
    · refine bad ?_ ?_
      · unfold wh_store
        rw [nreg_n hs, PB.2.2.1]
      · unfold md_store md_store_j19 md_store_j20
        rw [mreg_y hi, PB.2.1, if_neg ne10, mreg_n hs, PB.2.1, if_pos rfl, if_neg l10]
  · refine bad ?_ ?_
    · unfold wh_store
      rw [nreg_n hr]
      rcases reg_c s with ⟨j, hj, rfl⟩ | hs
      · rw [nreg_y hj, PB.2.2.2.1, PB.2.2.1]
      · rw [nreg_n hs, PB.2.2.1]
    · unfold md_store md_store_j19 md_store_j20
      rw [mreg_n hr, PB.2.1, if_pos rfl, if_neg l10]
