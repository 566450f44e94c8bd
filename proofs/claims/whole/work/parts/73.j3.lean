/-! make and text on both sides. -/
theorem RC_hold {z : Hs} {g : Gh} {o : Go} {a : Ab} {i n : Nat} (c : RC z g o a) (A : AI a) (hi : i < 16) (on : obj a n) : wh_hold z (Int32.ofNat i) (Int32.ofNat (o.ho n)) = some (Hs.wm z (vp_updL z.abt i (Int64.ofNat (o.ho n * 8192 + 0))) (upd z.arf i 1), Int32.ofNat n) ∧ RC (Hs.wm z (vp_updL z.abt i (Int64.ofNat (o.ho n * 8192 + 0))) (upd z.arf i 1)) g o (a.s_rg (updN a.rg i (.inr (n, 0)))) := by
  have ob := c.ob n on
  have hlt := (c.i.hok (Or.inr ob.m)).2.2.2.2
  have C : RC (Hs.wm z (vp_updL z.abt i (Int64.ofNat (o.ho n * 8192 + 0))) (upd z.arf i 1)) g o (a.s_rg (updN a.rg i (.inr (n, 0)))) := RC_reg (w := .inr (n, 0)) c A hi
  refine ⟨?_, C⟩
  unfold wh_hold
  rw [show hp_setReference z (Int32.ofNat i) (Int32.ofNat (o.ho n)) 0 = _ from hp_setReference_e (p := 0) c.i.hb (AI.in16 c hi) (by omega) (by omega), PB.2.2.2.2.1, C.i.serial (Or.inr ob.m), PB.2.1, ob.nu]
theorem HPp {z : Hs} {g : Gh} {o : Go} {a : Ab} (c : RC z g o a) : HP z g = PH a.lm z.nst + PW a.lm z.nbt := by
  unfold HP
  rw [c.lm]
theorem newA_obj {a : Ab} {kd ln nk nv nt : Nat} : obj (newA a kd ln nk nv nt) (a.md + 1) := ⟨by omega, Nat.le_refl _, newA_n.1⟩
theorem J_make {z : Lo} {m : Ms} {lm t : Nat} (r n : Int32) (S : St z.h m lm t) (ht : t < 1000) : ∃ c d z2 m2 k b, la_make z r n = some (c, z2, k) ∧ md_make m r n = some (d, m2, b) ∧ m2.thr = k ∧ (k = 0 → z2.aot 0 = b.toInt64) ∧ St z2.h m2 lm (t + 1) ∧ c + d + Pot lm z.h m ≤ Pot lm z2.h m2 := by
  obtain ⟨g, o, q, a, c, R, A, h1, h2⟩ := S
  have bad : ∀ e1 : wh_make z.h r n = some (0, z.h, .inl "java/lang/IllegalArgumentException"), md_make m r n = some (0, Ms.sthr m 1, 0) → ∃ c d z2 m2 k b, la_make z r n = some (c, z2, k) ∧ md_make m r n = some (d, m2, b) ∧ m2.thr = k ∧ (k = 0 → z2.aot 0 = b.toInt64) ∧ St z2.h m2 lm (t + 1) ∧ c + d + Pot lm z.h m ≤ Pot lm z2.h m2 := by
    intro e1 e2
    refine ⟨0, 0, Lo.sh z z.h, Ms.sthr m 1, 1, 0, ?_, e2, rfl, fun h => absurd h (by decide), ⟨g, o, q, a, c, R, A, h1, by omega⟩, by show 0 + 0 + Pot lm z.h m ≤ Pot lm z.h m; omega⟩
    unfold la_make
    rw [e1, PH2.2.2.2.2.1, if_pos rfl]
    rfl
  have n10 : ¬ ((1 : Int32) = 0) := ne10
  rcases reg_c r with ⟨i, hi, rfl⟩ | hr
  · by_cases hn : 0 ≤ n ∧ n ≤ 4096
    · obtain ⟨ln, hl, rfl⟩ := rng_c 4096 (by omega) hn
      have tk2 : tkN 2 ln 0 0 = ln + 1 := rfl
      obtain ⟨c1, z1, g1, o1, C, e1, p1, _⟩ := RC_claim (kd := 2) (ln := ln) c A (Or.inl rfl) (by omega)
      obtain ⟨m1, q1, e2, R1, t1, p2⟩ := RM_room (n := ln + 1) (m := Ms.sthr m 0) R A (by omega) rfl
      have A1 := AI_room (n := ln + 1) A
      obtain ⟨rm1, rm2, rm3, rm4⟩ := roomA_md (a := a) (n := ln + 1)
      rw [tk2] at C e1
      have e2 : md_hasRoom (Ms.sthr m 0) (Int64.ofNat (ln + 1)) = _ := e2
      have hc : wh_make z.h (Int32.ofNat i) (Int32.ofNat ln) = bcwt (some (c1, z1, if (roomA a (ln + 1)).us + (ln + 1) ≤ a.lm then .inr (Int32.ofNat (o1.ho (a.md + 1))) else .inl "java/lang/IllegalStateException")) (fun c9 z9 e9 => (c9, (z9, .inl e9))) (fun z3 r3 => (bw (wh_hold z3 (Int32.ofNat i) r3) (fun z4 r4 => some (0, (z4, .inr r4))))) := by
        unfold wh_make
        rw [nreg_y hi, PB.2.2.2.1, within_y hn, PB.2.2.2.1]
        exact congrArg (fun t => bcwt t _ _) e1
      have hm : md_make m (Int32.ofNat i) (Int32.ofNat ln) = bw (if (roomA a (ln + 1)).us + (ln + 1) ≤ a.lm then some (Ms.susd m1 (Int64.ofNat ((roomA a (ln + 1)).us + (ln + 1))), 1) else some (m1, 0)) (fun (z6 : Ms) (r6 : Int32) => (if r6 = 0 then some (0, ((Ms.sthr z6 2), 0)) else (md_make_j53 (Int32.ofNat i) (Int32.ofNat ln) z6))) := by
        unfold md_make md_make_j24
        have e5 : Int64.ofNat ln + 1 = Int64.ofNat (ln + 1) := l_add ln 1
        rw [mreg_y hi, PB.2.1, if_neg ne10, outs_y hn, PB.2.1, if_pos rfl, if_pos rfl, q_64 (by omega), e5, e2]
      by_cases h : (roomA a (ln + 1)).us + (ln + 1) ≤ a.lm
      · rw [if_pos h] at C hc hm
        have A2 : AI (newA (roomA a (ln + 1)) 2 ln 0 0 0) := AI_new A1 (by rw [rm2]; exact h) (by rw [rm3]; omega) (Or.inl ⟨rfl, hl⟩)
        have on : obj (newA (roomA a (ln + 1)) 2 ln 0 0 0) (a.md + 1) := by
          have := newA_obj (a := roomA a (ln + 1)) (kd := 2) (ln := ln) (nk := 0) (nv := 0) (nt := 0)
          rw [rm1] at this
          exact this
        obtain ⟨e6, C2⟩ := RC_hold C A2 hi on
        obtain ⟨d1, m2, q2, e7, R2, t2, p3⟩ := RM_row (i := i) (ln := ln) R1 A1 hi hl (by rw [rm2]; exact h)
        rw [rm1] at e7 R2
        refine ⟨c1 + 0 + 0, d1 + 0, Lo.wot (Lo.sh z (Hs.wm z1 (vp_updL z1.abt i (Int64.ofNat (o1.ho (a.md + 1) * 8192 + 0))) (upd z1.arf i 1))) (vp_updL z.aot ((0 : Int32).toNatClampNeg) (Int32.ofNat (a.md + 1)).toInt64), m2, 0, Int32.ofNat (a.md + 1), ?_, ?_, t2, fun _ => rfl, ?_, ?_⟩
        · unfold la_make
          rw [hc, PB.2.2.2.2.2.2.2.2.2.2, e6, PB.2.2.2.2.1]
          rw [PB.2.2.2.2.2.2.2.1, PH2.2.2.2.2.2, inb01, gdT]
          rfl
        · rw [hm, PB.2.2.2.2.1, if_neg ne10]
          unfold md_make_j53
          rw [if_pos (show Ms.thr (Ms.susd m1 (Int64.ofNat ((roomA a (ln + 1)).us + (ln + 1)))) = 0 from t1), e7, PB.2.2.2.2.2.2.2.2.1]
          rfl
        · refine ⟨g1, o1, q2, _, C2, R2, AI_reg A2 ?_, rm2.trans h1, ?_⟩
          · refine Or.inr ⟨on, Nat.zero_le _, ?_⟩
            split
            · exact Nat.zero_le _
            · rfl
          · show (roomA a (ln + 1)).tn + 1 ≤ t + 1
            rw [rm3]; omega
        · have q1 := HPp c
          have q2 := HPp C
          have q3 : (newA (roomA a (ln + 1)) 2 ln 0 0 0).lm = a.lm := rm2
          rw [q3] at q2
          rw [q1, q2] at p1
          have p2 : PM m1 = PM m := p2
          show c1 + 0 + 0 + (d1 + 0) + (PH lm z.h.nst + PW lm z.h.nbt + PM m) ≤ PH lm z1.nst + PW lm z1.nbt + PM m2
          rw [← h1]
          omega
      · rw [if_neg h] at C hc hm
        refine ⟨c1 + 0, 0, Lo.sh z z1, Ms.sthr m1 2, 2, 0, ?_, ?_, rfl, fun h => absurd h (by decide), ⟨g1, o1, q1, roomA a (ln + 1), C, R1, A1, rm2.trans h1, by rw [rm3]; omega⟩, ?_⟩
        · unfold la_make
          rw [hc, PB.2.2.2.2.2.2.2.2.2.1, PH2.2.2.2.2.1, if_neg (by decide), if_pos rfl]
          rfl
        · rw [hm, PB.2.2.2.2.1, if_pos rfl]
        · have q1 := HPp c
          have q2 := HPp C
          rw [rm2] at q2
          rw [q1, q2] at p1
          have p2 : PM m1 = PM m := p2
          show c1 + 0 + 0 + (PH lm z.h.nst + PW lm z.h.nbt + PM m) ≤ PH lm z1.nst + PW lm z1.nbt + PM m1
          rw [← h1]
          omega
    · refine bad ?_ ?_
      · unfold wh_make
        rw [nreg_y hi, PB.2.2.2.1, within_n hn, PB.2.2.1]
      · unfold md_make md_make_j19 md_make_j24 md_make_j53
        rw [mreg_y hi, PB.2.1, if_neg ne10, outs_n hn, PB.2.1, if_neg ne10, if_neg ne10, if_neg (show ¬ (Ms.thr (Ms.sthr m 1) = 0) from ne10)]
  · refine bad ?_ ?_
    · unfold wh_make
      rw [nreg_n hr, PB.2.2.1]
    · unfold md_make md_make_j19 md_make_j24 md_make_j53
      rw [mreg_n hr, PB.2.1, if_pos rfl, if_neg ne10, if_neg (show ¬ (Ms.thr (Ms.sthr m 1) = 0) from ne10)]
theorem J_text {z : Lo} {m : Ms} {lm t : Nat} (r n : Int32) (S : St z.h m lm t) (ht : t < 1000) : ∃ c d z2 m2 k b, la_text z r n = some (c, z2, k) ∧ md_text m r n = some (d, m2, b) ∧ m2.thr = k ∧ (k = 0 → z2.aot 0 = b.toInt64) ∧ St z2.h m2 lm (t + 1) ∧ c + d + Pot lm z.h m ≤ Pot lm z2.h m2 := by
  obtain ⟨g, o, q, a, c, R, A, h1, h2⟩ := S
  have bad : ∀ e1 : wh_text z.h r n = some (0, z.h, .inl "java/lang/IllegalArgumentException"), md_text m r n = some (0, Ms.sthr m 1, 0) → ∃ c d z2 m2 k b, la_text z r n = some (c, z2, k) ∧ md_text m r n = some (d, m2, b) ∧ m2.thr = k ∧ (k = 0 → z2.aot 0 = b.toInt64) ∧ St z2.h m2 lm (t + 1) ∧ c + d + Pot lm z.h m ≤ Pot lm z2.h m2 := by
    intro e1 e2
    refine ⟨0, 0, Lo.sh z z.h, Ms.sthr m 1, 1, 0, ?_, e2, rfl, fun h => absurd h (by decide), ⟨g, o, q, a, c, R, A, h1, by omega⟩, by show 0 + 0 + Pot lm z.h m ≤ Pot lm z.h m; omega⟩
    unfold la_text
    rw [e1, PH2.2.2.2.2.1, if_pos rfl]
    rfl
  have l00 : (0 : Int32) ≤ 0 := by decide
  have l10 : ¬ ((1 : Int32) ≤ 0) := by decide
  rcases reg_c r with ⟨i, hi, rfl⟩ | hr
  · by_cases hn : 0 ≤ n ∧ n ≤ 32768
    · obtain ⟨ln, hl, rfl⟩ := rng_c 32768 (by omega) hn
      have tk2 : tkN 3 ln 0 0 = (ln + 7) / 8 + 1 := rfl
      obtain ⟨c1, z1, g1, o1, C, e1, p1, _⟩ := RC_claim (kd := 3) (ln := ln) c A (Or.inr rfl) (by omega)
      obtain ⟨m1, q1, e2, R1, t1, p2⟩ := RM_room (n := (ln + 7) / 8 + 1) (m := Ms.sthr m 0) R A (by omega) rfl
      have A1 := AI_room (n := (ln + 7) / 8 + 1) A
      obtain ⟨rm1, rm2, rm3, rm4⟩ := roomA_md (a := a) (n := (ln + 7) / 8 + 1)
      rw [tk2] at C e1
      have e2 : md_hasRoom (Ms.sthr m 0) (Int64.ofNat ((ln + 7) / 8 + 1)) = _ := e2
      have hc : wh_text z.h (Int32.ofNat i) (Int32.ofNat ln) = bcwt (some (c1, z1, if (roomA a ((ln + 7) / 8 + 1)).us + ((ln + 7) / 8 + 1) ≤ a.lm then .inr (Int32.ofNat (o1.ho (a.md + 1))) else .inl "java/lang/IllegalStateException")) (fun c9 z9 e9 => (c9, (z9, .inl e9))) (fun z3 r3 => (bw (wh_hold z3 (Int32.ofNat i) r3) (fun z4 r4 => some (0, (z4, .inr r4))))) := by
        unfold wh_text
        rw [nreg_y hi, PB.2.2.2.1, within_y hn, PB.2.2.2.1]
        exact congrArg (fun t => bcwt t _ _) e1
      have hm : md_text m (Int32.ofNat i) (Int32.ofNat ln) = bw (if (roomA a ((ln + 7) / 8 + 1)).us + ((ln + 7) / 8 + 1) ≤ a.lm then some (Ms.susd m1 (Int64.ofNat ((roomA a ((ln + 7) / 8 + 1)).us + ((ln + 7) / 8 + 1))), 1) else some (m1, 0)) (fun z7 r7 => (if r7 = 0 then (md_text_j60 (Int32.ofNat i) (Int32.ofNat ln) r7 2 z7) else (md_text_j60 (Int32.ofNat i) (Int32.ofNat ln) r7 0 z7))) := by
        unfold md_text md_text_j23
        have e7 : Int32.ofNat ln + 7 = Int32.ofNat (ln + 7) := q_add _ 7
        have e8 : Int32.ofNat (ln + 7) / 8 = Int32.ofNat ((ln + 7) / 8) := q_div (b := 8) (by omega) (by omega)
        have e5 : Int64.ofNat ((ln + 7) / 8) + 1 = Int64.ofNat ((ln + 7) / 8 + 1) := l_add _ 1
        rw [mreg_y hi, PB.2.1, if_neg ne10, outs_y hn, PB.2.1, if_pos rfl, if_pos l00, e7, e8, q_64 (by omega), e5, e2, show nzb 8 = true from by decide, gdT]
      by_cases h : (roomA a ((ln + 7) / 8 + 1)).us + ((ln + 7) / 8 + 1) ≤ a.lm
      · rw [if_pos h] at C hc hm
        have A2 : AI (newA (roomA a ((ln + 7) / 8 + 1)) 3 ln 0 0 0) := AI_new A1 (by rw [rm2]; exact h) (by rw [rm3]; omega) (Or.inr (Or.inl ⟨rfl, hl⟩))
        have on : obj (newA (roomA a ((ln + 7) / 8 + 1)) 3 ln 0 0 0) (a.md + 1) := by
          have := newA_obj (a := roomA a ((ln + 7) / 8 + 1)) (kd := 3) (ln := ln) (nk := 0) (nv := 0) (nt := 0)
          rw [rm1] at this
          exact this
        obtain ⟨e6, C2⟩ := RC_hold C A2 hi on
        obtain ⟨d1, m2, q2, e7, R2, t2, p3⟩ := RM_txt (ln := ln) (x := 0) R1 A1 hl (by rw [rm2]; exact h)
        rw [rm1] at e7
        have R3 := RM_reg (i := i) (w := .inr (a.md + 1, 0)) R2
        rw [tgW_o (show a.md + 1 ≠ 0 by omega)] at R3
        refine ⟨c1 + 0 + 0, d1 + 0, Lo.wot (Lo.sh z (Hs.wm z1 (vp_updL z1.abt i (Int64.ofNat (o1.ho (a.md + 1) * 8192 + 0))) (upd z1.arf i 1))) (vp_updL z.aot ((0 : Int32).toNatClampNeg) (Int32.ofNat (a.md + 1)).toInt64), Ms.wvl (Ms.wtg m2 (upd m2.atg i (Int32.ofNat (a.md + 1)))) (vp_updL m2.avl i 0), 0, Int32.ofNat (a.md + 1), ?_, ?_, t2, fun _ => rfl, ?_, ?_⟩
        · unfold la_text
          rw [hc, PB.2.2.2.2.2.2.2.2.2.2, e6, PB.2.2.2.2.1]
          rw [PB.2.2.2.2.2.2.2.1, PH2.2.2.2.2.2, inb01, gdT]
          rfl
        · rw [hm, PB.2.2.2.2.1, if_neg ne10]
          unfold md_text_j60
          rw [if_neg ne10, e7, PB.2.2.2.2.2.2.2.2.1, md_set_e hi R2.z.tg R2.z.vl]
          rfl
        · refine ⟨g1, o1, q2, _, C2, R3, AI_reg A2 ?_, rm2.trans h1, ?_⟩
          · refine Or.inr ⟨on, Nat.zero_le _, ?_⟩
            split
            · exact Nat.zero_le _
            · rfl
          · show (roomA a ((ln + 7) / 8 + 1)).tn + 1 ≤ t + 1
            rw [rm3]; omega
        · have q1 := HPp c
          have q2 := HPp C
          have q3 : (newA (roomA a ((ln + 7) / 8 + 1)) 3 ln 0 0 0).lm = a.lm := rm2
          rw [q3] at q2
          rw [q1, q2] at p1
          have p2 : PM m1 = PM m := p2
          show c1 + 0 + 0 + (d1 + 0) + (PH lm z.h.nst + PW lm z.h.nbt + PM m) ≤ PH lm z1.nst + PW lm z1.nbt + PM m2
          rw [← h1]
          omega
      · rw [if_neg h] at C hc hm
        refine ⟨c1 + 0, 0, Lo.sh z z1, Ms.sthr m1 2, 2, 0, ?_, ?_, rfl, fun h => absurd h (by decide), ⟨g1, o1, q1, roomA a ((ln + 7) / 8 + 1), C, R1, A1, rm2.trans h1, by rw [rm3]; omega⟩, ?_⟩
        · unfold la_text
          rw [hc, PB.2.2.2.2.2.2.2.2.2.1, PH2.2.2.2.2.1, if_neg (by decide), if_pos rfl]
          rfl
        · rw [hm, PB.2.2.2.2.1, if_pos rfl]
          unfold md_text_j60
          rw [if_pos rfl]
        · have q1 := HPp c
          have q2 := HPp C
          rw [rm2] at q2
          rw [q1, q2] at p1
          have p2 : PM m1 = PM m := p2
          show c1 + 0 + 0 + (PH lm z.h.nst + PW lm z.h.nbt + PM m) ≤ PH lm z1.nst + PW lm z1.nbt + PM m1
          rw [← h1]
          omega
    · refine bad ?_ ?_
      · unfold wh_text
        rw [nreg_y hi, PB.2.2.2.1, within_n hn, PB.2.2.1]
      · unfold md_text md_text_j18 md_text_j23
        rw [mreg_y hi, PB.2.1, if_neg ne10, outs_n hn, PB.2.1, if_neg ne10, if_neg l10]
  · refine bad ?_ ?_
    · unfold wh_text
      rw [nreg_n hr, PB.2.2.1]
    · unfold md_text md_text_j18 md_text_j23
      rw [mreg_n hr, PB.2.1, if_pos rfl, if_neg l10]
