/-! Texts and maps of the reference. -/
theorem sumQ_mul {f : Nat → Nat} {P : Nat → Bool} (k : Nat) : ∀ m, sumQ (fun n => k * f n) P m = k * sumQ f P m := by
  intro m
  induction m with
  | zero => rfl
  | succ m ih =>
    unfold sumQ
    rw [ih, Nat.mul_add]
    congr 1
    split
    · rfl
    · rfl
def Ms.bsz (m : Ms) (N : Nat) (t : Nat → Int32) : Ms := Ms.wby (Ms.snby m N) t
theorem bt_l17 {x2 : Int32} {ln bc : Nat} (hw : bc + ln ≤ 1048576) : ∀ d j fu (m : Ms), j + d = 14 → d < fu → m.nby = 64 * 2 ^ j → m.byc = Int32.ofNat bc → bc ≤ m.nby →
    ∃ c N t, md_beginText_l17 fu (Int32.ofNat ln) x2 m = addc c (md_beginText_l47 FU (Int32.ofNat ln) x2 0 (Ms.bsz m N t)) ∧ bc + ln ≤ N ∧ m.nby ≤ N ∧ N ≤ 1048576 ∧ (∃ k, N = 64 * 2 ^ k) ∧ (∀ x, x < bc → t x = m.aby x ∨ t x = vp_nar .byte (m.aby x)) ∧ c + 2 * m.nby ≤ 2 * N := by
  intro d
  induction d with
  | zero =>
    intro j fu m hj hfu h1 h3 h4
    obtain ⟨f, rfl⟩ : ∃ f, fu = f + 1 := ⟨fu - 1, by omega⟩
    have : j = 14 := by omega
    subst this
    have e : (64 : Nat) * 2 ^ 14 = 1048576 := by decide
    refine ⟨0, m.nby, m.aby, ?_, by omega, Nat.le_refl _, by omega, ⟨14, h1⟩, fun _ _ => Or.inl rfl, by omega⟩
    rw [md_beginText_l17, h3, q_add, if_pos ((q_le (by omega) (by omega)).mpr (by omega)), addc_0]
    rfl
  | succ d ih =>
    intro j fu m hj hfu h1 h3 h4
    obtain ⟨f, rfl⟩ : ∃ f, fu = f + 1 := ⟨fu - 1, by omega⟩
    have hp : 2 ^ j ≤ 2 ^ 14 := Nat.pow_le_pow_right (by omega) (by omega)
    have hp0 : 1 ≤ 2 ^ j := Nat.one_le_two_pow
    have hp2 : (2 : Nat) ^ 14 = 16384 := by decide
    by_cases hc : bc + ln ≤ m.nby
    · refine ⟨0, m.nby, m.aby, ?_, hc, Nat.le_refl _, by omega, ⟨j, h1⟩, fun _ _ => Or.inl rfl, by omega⟩
      rw [md_beginText_l17, h3, q_add, if_pos ((q_le (by omega) (by omega)).mpr hc), addc_0]
      rfl
    · have hp3 : 2 ^ (j + 1) ≤ 2 ^ 14 := Nat.pow_le_pow_right (by omega) (by omega)
      have e2 : 2 ^ (j + 1) = 2 ^ j * 2 := Nat.pow_succ ..
      obtain ⟨c, N, t, g1, g2, g3, g4, g5, g6, g7⟩ := ih (j + 1) f (Ms.bsz m (2 * m.nby) (wdB m.aby m.nby)) (by omega) (by omega) (show 2 * m.nby = 64 * 2 ^ (j + 1) by omega) h3 (show bc ≤ 2 * m.nby by omega)
      have g3 : 2 * m.nby ≤ N := g3
      have g7 : c + 2 * (2 * m.nby) ≤ 2 * N := g7
      refine ⟨2 * m.nby + c, N, t, ?_, g2, by omega, g4, g5, ?_, by omega⟩
      · rw [md_beginText_l17, h3, q_add, if_neg (fun c => hc ((q_le (by omega) (by omega)).mp c)), wdbT2 (by omega), gdT]
        have g1' : md_beginText_l17 f (Int32.ofNat ln) x2 (Ms.wby (Ms.snby m (2 * m.nby)) (wdB m.aby m.nby)) = addc c (md_beginText_l47 FU (Int32.ofNat ln) x2 0 (Ms.bsz m N t)) := g1
        rw [g1', addc_addc]
      · intro x hx
        have e3 : wdB m.aby m.nby x = vp_nar .byte (m.aby x) := if_pos (by omega)
        have g6x : t x = wdB m.aby m.nby x ∨ t x = vp_nar .byte (wdB m.aby m.nby x) := g6 x hx
        rw [e3] at g6x
        rcases g6x with c | c
        · exact Or.inr c
        · rw [narb] at c
          exact Or.inr c
theorem nb0 : vp_nar .byte 0 = 0 := by decide
theorem bt_l47 {m : Ms} {ln bc n : Nat} (hw : bc + ln ≤ m.nby) (hn : m.nby ≤ 1048576) (hwd : m.byc = Int32.ofNat bc) (t : Nat → Int32) : ∀ k j fu, j + k = ln → k < fu →
    md_beginText_l47 fu (Int32.ofNat ln) (Int32.ofNat n) (Int32.ofNat j) (Ms.wby m (filN t bc (bc + j) 0)) = some (0, Ms.sbyc (Ms.wby m (filN t bc (bc + ln) 0)) (Int32.ofNat (bc + ln)), Int32.ofNat n) := by
  intro k
  induction k with
  | zero =>
    intro j fu hj hfu
    obtain ⟨f, rfl⟩ : ∃ f, fu = f + 1 := ⟨fu - 1, by omega⟩
    have : j = ln := by omega
    subst this
    rw [md_beginText_l47, if_pos ((q_le (by omega) (by omega)).mpr (Nat.le_refl _))]
    show some (0, Ms.sbyc (Ms.wby m (filN t bc (bc + j) 0)) (m.byc + Int32.ofNat j), Int32.ofNat n) = _
    rw [hwd, q_add]
  | succ k ih =>
    intro j fu hj hfu
    obtain ⟨f, rfl⟩ : ∃ f, fu = f + 1 := ⟨fu - 1, by omega⟩
    have e1 : Int32.ofNat j + 1 = Int32.ofNat (j + 1) := q_add j 1
    rw [md_beginText_l47, if_neg (fun c => absurd ((q_le (by omega) (by omega)).mp c) (by omega))]
    show gd (inb (m.byc + Int32.ofNat j) m.nby) (md_beginText_l47 f (Int32.ofNat ln) (Int32.ofNat n) (Int32.ofNat j + 1) (Ms.wby m (upd (filN t bc (bc + j) 0) (m.byc + Int32.ofNat j).toNatClampNeg (vp_nar .byte 0)))) = _
    rw [hwd, q_add, q_inb (show bc + j < m.nby by omega) (by omega), q_nat (by omega), e1, gdT, nb0]
    have := ih (j + 1) f (by omega) (by omega)
    rw [← Nat.add_assoc, ← fl_step (show bc ≤ bc + j by omega)] at this
    exact this
theorem wd_le {m : Ms} {q : Gm} {a : Ab} (R : RM m q a) (A : AI a) : q.wd ≤ sumQ a.tk a.th a.md ∧ q.bc ≤ 8 * sumQ a.tk a.th a.md := by
  have sub : ∀ k, sumQ a.tk (fun n => a.th n && a.kd n == k) a.md ≤ sumQ a.tk a.th a.md := by
    intro k
    refine sumQ_le ?_
    intro n _ _ h
    rw [Bool.and_eq_true] at h
    exact h.1
  refine ⟨?_, ?_⟩
  · rw [R.ws]
    have h2 : sumQ a.ln (fun n => a.th n && a.kd n == 2) a.md ≤ sumQ a.tk (fun n => a.th n && a.kd n == 2) a.md := by
      refine sumQ_mono ?_
      intro n _ _ h
      rw [Bool.and_eq_true, beq_iff_eq] at h
      unfold Ab.tk
      rw [if_pos h.2]
      omega
    have := sub 2
    omega
  · rw [R.bs]
    have h2 : sumQ a.ln (fun n => a.th n && a.kd n == 3) a.md ≤ sumQ (fun n => 8 * a.tk n) (fun n => a.th n && a.kd n == 3) a.md := by
      refine sumQ_mono ?_
      intro n _ _ h
      rw [Bool.and_eq_true, beq_iff_eq] at h
      unfold Ab.tk
      rw [if_neg (by omega), if_pos h.2]
      omega
    rw [sumQ_mul] at h2
    have := sub 3
    omega
/-- beginText, room being there -/
theorem RM_txt {m : Ms} {q : Gm} {a : Ab} {ln : Nat} {x : Int32} (R : RM m q a) (A : AI a) (hl : ln ≤ 32768) (hu : a.us + ((ln + 7) / 8 + 1) ≤ a.lm) : ∃ c m2 q2, md_beginText (Ms.sthr (Ms.susd m (Int64.ofNat (a.us + ((ln + 7) / 8 + 1)))) x) (Int32.ofNat ln) = some (c, m2, Int32.ofNat (a.md + 1)) ∧ RM m2 q2 (newA a 3 ln 0 0 0) ∧ m2.thr = x ∧ c + PM m ≤ PM m2 := by
  have Z := R.z
  have md := A.md
  have tn := A.tn
  have lm := A.lm
  have zb := Z.by
  obtain ⟨c1, m1, K, e1, B⟩ := md_begin_e (m := Ms.sthr (Ms.susd m (Int64.ofNat (a.us + ((ln + 7) / 8 + 1)))) x) (q := q) (a := a) (kd := 3) (ln := ln) Z R.k R.s.mad R.k0 R.fl (by omega)
  obtain ⟨b1, b2, b3, b4, b5, b6, b7, b8⟩ := B.z2
  obtain ⟨w1, w2, w3, w4, w5, w6, w7⟩ := B.w
  obtain ⟨k1, k2, k3, k4, k5, k6, k7, k8, k9, k10, k11, k12⟩ := B.z1
  have bK := B.K
  have hbl : q.bc + ln ≤ 1048576 := by
    have h1 := (wd_le R A).2
    have := A.sum
    omega
  obtain ⟨j, hj⟩ := Z.bp
  have hj14 : j ≤ 14 := by
    by_cases h : j ≤ 14
    · exact h
    · have : 2 ^ 15 ≤ 2 ^ j := Nat.pow_le_pow_right (by omega) (by omega)
      have e : (2 : Nat) ^ 15 = 32768 := by decide
      omega
  have b5' : m1.nby = m.nby := b5
  have w5' : m1.byc = m.byc := w5
  obtain ⟨c2, N, t, f1, f2, f3, f4, f5, f6, f7⟩ := bt_l17 (x2 := Int32.ofNat (a.md + 1)) hbl (14 - j) j FU (Ms.wsr m1 (upd m1.asr (a.md + 1) m1.byc)) (by omega) (by unfold FU; omega) (show m1.nby = 64 * 2 ^ j by rw [b5']; exact hj) (show m1.byc = Int32.ofNat q.bc by rw [w5']; exact Z.byc) (show q.bc ≤ m1.nby by rw [b5']; exact zb.1)
  have L := bt_l47 (m := Ms.bsz (Ms.wsr m1 (upd m1.asr (a.md + 1) m1.byc)) N t) (ln := ln) (bc := q.bc) (n := a.md + 1) f2 f4 (show m1.byc = Int32.ofNat q.bc from w5'.trans Z.byc) t ln 0 FU (by omega) (by unfold FU; omega)
  have ft : filN t q.bc (q.bc + 0) 0 = t := by
    funext y
    exact if_neg (by omega)
  rw [ft] at L
  have L : md_beginText_l47 FU (Int32.ofNat ln) (Int32.ofNat (a.md + 1)) 0 (Ms.bsz (Ms.wsr m1 (upd m1.asr (a.md + 1) m1.byc)) N t) = _ := L
  have f3 : m1.nby ≤ N := f3
  have f7 : c2 + 2 * m1.nby ≤ 2 * N := f7
  have hbyc : m1.byc = Int32.ofNat q.bc := w5'.trans Z.byc
  have hrun : md_beginText (Ms.sthr (Ms.susd m (Int64.ofNat (a.us + ((ln + 7) / 8 + 1)))) x) (Int32.ofNat ln) = some (c1 + (c2 + 0), Ms.sbyc (Ms.wby (Ms.bsz (Ms.wsr m1 (upd m1.asr (a.md + 1) m1.byc)) N t) (filN t q.bc (q.bc + ln) 0)) (Int32.ofNat (q.bc + ln)), Int32.ofNat (a.md + 1)) := by
    unfold md_beginText
    rw [show (3 : Int32) = Int32.ofNat 3 from rfl, e1, PB.2.2.2.2.2.2.2.2.1, k3, q_inb (show a.md + 1 < K by omega) (by omega), gdT, q_nat (by omega), f1, L]
    rfl
  have M := RM_mk (m := m) (m2 := Ms.sbyc (Ms.wby (Ms.bsz (Ms.wsr m1 (upd m1.asr (a.md + 1) m1.byc)) N t) (filN t q.bc (q.bc + ln) 0)) (Int32.ofNat (q.bc + ln))) (q := q) (q2 := ((q.s_K K).s_sr (updN q.sr (a.md + 1) q.bc)).s_bc (q.bc + ln)) (a := a) (kd := 3) (ln := ln) (nk := 0) (nv := 0) (nt := 0) R A (Or.inr (Or.inl rfl)) (fun h => by omega)
    ⟨B.S.lim, B.S.eag, B.S.gvb, B.S.old, B.S.col, B.S.tg, B.S.vl, B.S.ent, B.S.em, B.S.eo, B.S.et, B.S.ev, B.S.nem⟩
    ⟨B.O.so, B.O.si, fun n h => (show upd m1.asr (a.md + 1) m1.byc n = m1.asr n from if_neg (by omega)).trans (B.O.sr n h), B.O.ke, B.O.va, B.O.te, B.O.ca, B.O.fi, B.O.od, B.O.th, B.O.kp, B.O.k0, B.O.fl⟩
    ⟨b1.trans Z.tg, b2.trans Z.vl, k1, k2, k3, k4, k5, k6, k7, k8, k9, k10, k11, k12, ⟨bK.1, bK.2.1⟩, (show m1.nwv = m1.nwt from by rw [b3, b4]; exact Z.wt), (show q.wd ≤ m1.nwt ∧ 64 ≤ m1.nwt ∧ m1.nwt ≤ 131072 from by rw [b3]; exact Z.wl), (show ∃ j, m1.nwt = 64 * 2 ^ j from by rw [b3]; exact Z.wp), ⟨f2, by have : 64 ≤ m.nby := zb.2.1; show 64 ≤ N; omega, f4⟩, f5, (show m1.neo = m1.nem from by rw [b6, B.S.nem]; exact Z.eo), (show m1.net = 8 * m1.nem from by rw [b7, B.S.nem]; exact Z.et), (show m1.nev = 8 * m1.nem from by rw [b8, B.S.nem]; exact Z.ev), (show 64 ≤ m1.nem ∧ m1.nem ≤ 4096 from by rw [B.S.nem]; exact Z.el), w4.trans Z.wrd, rfl⟩
    (show a.md + 1 < K by omega) w6 B.mad B.so B.si B.th (fun n h => updN_o _ _ (by omega))
    (fun y _ => ⟨congrFun w1 y, congrFun w2 y⟩)
    (by
      intro y hy
      have g := f6 y hy
      have e3 : m1.aby y = m.aby y := congrFun w3 y
      have g : t y = m1.aby y ∨ t y = vp_nar .byte (m1.aby y) := g
      rw [e3] at g
      show filN t q.bc (q.bc + ln) 0 y = m.aby y ∨ filN t q.bc (q.bc + ln) 0 y = vp_nar .byte (m.aby y)
      rw [show filN t q.bc (q.bc + ln) 0 y = t y from if_neg (by omega)]
      exact g) rfl rfl
    (fun h => by omega)
    (fun _ => ⟨updN_s _ _ _, (show upd m1.asr (a.md + 1) m1.byc (a.md + 1) = m1.byc from if_pos rfl).trans hbyc, fun j hj => if_pos (by omega)⟩) (fun h => by omega)
  refine ⟨c1 + (c2 + 0), _, ((q.s_K K).s_sr (updN q.sr (a.md + 1) q.bc)).s_bc (q.bc + ln), hrun, M, w7, ?_⟩
  have hc : c1 + 24 * m.nso ≤ 24 * K := B.c
  show c1 + (c2 + 0) + (24 * m.nso + 4 * m.nwt + 2 * m.nby + 36 * m.nem) ≤ 24 * m1.nso + 4 * m1.nwt + 2 * N + 36 * m1.nem
  rw [k1, b3, B.S.nem]
  rw [b5'] at f7
  show c1 + (c2 + 0) + (24 * m.nso + 4 * m.nwt + 2 * m.nby + 36 * m.nem) ≤ 24 * K + 4 * m.nwt + 2 * N + 36 * m.nem
  omega
/-- map of the reference, room being there -/
theorem RM_map {m : Ms} {q : Gm} {a : Ab} {i nk nv nt : Nat} (R : RM m q a) (A : AI a) (hi : i < 16) : ∃ c m2 q2, md_map_j89 (Int32.ofNat i) (Int32.ofNat nk) (Int32.ofNat nv) (Int32.ofNat nt) 1 0 (Ms.susd m (Int64.ofNat (a.us + (6 + (8 * (3 + nk + nv) + 1))))) = some (c, m2, Int32.ofNat (a.md + 1)) ∧ RM m2 q2 ((newA a 4 0 nk nv nt).s_rg (updN a.rg i (.inr (a.md + 1, 0)))) ∧ m2.thr = 0 ∧ c + PM m ≤ PM m2 := by
  have Z := R.z
  have md := A.md
  have tn := A.tn
  obtain ⟨c1, m1, K, e1, B⟩ := md_begin_e (m := Ms.sthr (Ms.susd m (Int64.ofNat (a.us + (6 + (8 * (3 + nk + nv) + 1))))) 0) (q := q) (a := a) (kd := 4) (ln := 0) Z R.k R.s.mad R.k0 R.fl (by omega)
  obtain ⟨b1, b2, b3, b4, b5, b6, b7, b8⟩ := B.z2
  obtain ⟨w1, w2, w3, w4, w5, w6, w7⟩ := B.w
  obtain ⟨k1, k2, k3, k4, k5, k6, k7, k8, k9, k10, k11, k12⟩ := B.z1
  have bK := B.K
  have h3 : ∃ m3, m3 = Ms.wod (Ms.wfi (Ms.wca (Ms.wte (Ms.wva (Ms.wke m1 (upd m1.ake (a.md + 1) (Int32.ofNat nk))) (upd m1.ava (a.md + 1) (Int32.ofNat nv))) (upd m1.ate (a.md + 1) (Int32.ofNat nt))) (upd m1.aca (a.md + 1) 8)) (upd m1.afi (a.md + 1) 0)) (upd m1.aod (a.md + 1) 0) := ⟨_, rfl⟩
  obtain ⟨m3, hm3⟩ := h3
  have hrun : md_map_j89 (Int32.ofNat i) (Int32.ofNat nk) (Int32.ofNat nv) (Int32.ofNat nt) 1 0 (Ms.susd m (Int64.ofNat (a.us + (6 + (8 * (3 + nk + nv) + 1))))) = some (c1 + 0, Ms.wvl (Ms.wtg m3 (upd m1.atg i (Int32.ofNat (a.md + 1)))) (vp_updL m1.avl i 0), Int32.ofNat (a.md + 1)) := by
    unfold md_map_j89
    rw [if_neg ne10, show (4 : Int32) = Int32.ofNat 4 from rfl, show (0 : Int32) = Int32.ofNat 0 from rfl]
    rw [show (Ms.sthr (Ms.susd m (Int64.ofNat (a.us + (6 + (8 * (3 + nk + nv) + 1))))) (Int32.ofNat 0)) = Ms.sthr (Ms.susd m (Int64.ofNat (a.us + (6 + (8 * (3 + nk + nv) + 1))))) 0 from rfl, e1, PB.2.2.2.2.2.2.2.2.1, k4, k5, k6, k7, k8, k9, q_inb (show a.md + 1 < K by omega) (by omega), q_nat (by omega), gdT, gdT, gdT, gdT, gdT, gdT]
    rw [show Ms.wod (Ms.wfi (Ms.wca (Ms.wte (Ms.wva (Ms.wke m1 (upd m1.ake (a.md + 1) (Int32.ofNat nk))) (upd m1.ava (a.md + 1) (Int32.ofNat nv))) (upd m1.ate (a.md + 1) (Int32.ofNat nt))) (upd m1.aca (a.md + 1) 8)) (upd m1.afi (a.md + 1) (Int32.ofNat 0))) (upd m1.aod (a.md + 1) (Int32.ofNat 0)) = m3 from hm3.symm]
    have h1 : m3.ntg = 16 := by rw [hm3]; exact b1.trans Z.tg
    have h2 : m3.nvl = 16 := by rw [hm3]; exact b2.trans Z.vl
    have h4 : m3.atg = m1.atg := by rw [hm3]; rfl
    have h5 : m3.avl = m1.avl := by rw [hm3]; rfl
    rw [md_set_e hi h1 h2, h4, h5]
    rfl
  have M : RM m3 (q.s_K K) (newA a 4 0 nk nv nt) := by
    rw [hm3]
    exact RM_mk (m := m) (q := q) (q2 := q.s_K K) (a := a) (kd := 4) (ln := 0) (nk := nk) (nv := nv) (nt := nt) R A (Or.inr (Or.inr rfl)) (fun _ => rfl)
      ⟨B.S.lim, B.S.eag, B.S.gvb, B.S.old, B.S.col, B.S.tg, B.S.vl, B.S.ent, B.S.em, B.S.eo, B.S.et, B.S.ev, B.S.nem⟩
      ⟨B.O.so, B.O.si, B.O.sr, fun n h => (show upd m1.ake (a.md + 1) (Int32.ofNat nk) n = m1.ake n from if_neg (by omega)).trans (B.O.ke n h), fun n h => (show upd m1.ava (a.md + 1) (Int32.ofNat nv) n = m1.ava n from if_neg (by omega)).trans (B.O.va n h), fun n h => (show upd m1.ate (a.md + 1) (Int32.ofNat nt) n = m1.ate n from if_neg (by omega)).trans (B.O.te n h), fun n h => (show upd m1.aca (a.md + 1) 8 n = m1.aca n from if_neg (by omega)).trans (B.O.ca n h), fun n h => (show upd m1.afi (a.md + 1) 0 n = m1.afi n from if_neg (by omega)).trans (B.O.fi n h), fun n h => (show upd m1.aod (a.md + 1) 0 n = m1.aod n from if_neg (by omega)).trans (B.O.od n h), B.O.th, B.O.kp, B.O.k0, B.O.fl⟩
      ⟨b1.trans Z.tg, b2.trans Z.vl, k1, k2, k3, k4, k5, k6, k7, k8, k9, k10, k11, k12, ⟨bK.1, bK.2.1⟩, (show m1.nwv = m1.nwt from by rw [b3, b4]; exact Z.wt), (show q.wd ≤ m1.nwt ∧ 64 ≤ m1.nwt ∧ m1.nwt ≤ 131072 from by rw [b3]; exact Z.wl), (show ∃ j, m1.nwt = 64 * 2 ^ j from by rw [b3]; exact Z.wp), (show q.bc ≤ m1.nby ∧ 64 ≤ m1.nby ∧ m1.nby ≤ 1048576 from by rw [b5]; exact Z.by), (show ∃ j, m1.nby = 64 * 2 ^ j from by rw [b5]; exact Z.bp), (show m1.neo = m1.nem from by rw [b6, B.S.nem]; exact Z.eo), (show m1.net = 8 * m1.nem from by rw [b7, B.S.nem]; exact Z.et), (show m1.nev = 8 * m1.nem from by rw [b8, B.S.nem]; exact Z.ev), (show 64 ≤ m1.nem ∧ m1.nem ≤ 4096 from by rw [B.S.nem]; exact Z.el), w4.trans Z.wrd, w5.trans Z.byc⟩
      (show a.md + 1 < K by omega) w6 B.mad B.so B.si B.th (fun n h => rfl)
      (fun y _ => ⟨congrFun w1 y, congrFun w2 y⟩) (fun y _ => Or.inl (congrFun w3 y)) rfl rfl (fun h => by omega) (fun h => by omega)
      (fun _ => ⟨if_pos rfl, if_pos rfl, if_pos rfl, if_pos rfl, if_pos rfl, if_pos rfl⟩)
  have M2 := RM_reg (i := i) (w := .inr (a.md + 1, 0)) M
  have h4 : m3.atg = m1.atg := by rw [hm3]; rfl
  have h5 : m3.avl = m1.avl := by rw [hm3]; rfl
  rw [tgW_o (show a.md + 1 ≠ 0 by omega), h4, h5] at M2
  refine ⟨c1 + 0, _, q.s_K K, hrun, M2, ?_, ?_⟩
  · rw [hm3]; exact w7
  · have hc : c1 + 24 * m.nso ≤ 24 * K := B.c
    rw [hm3]
    show c1 + 0 + (24 * m.nso + 4 * m.nwt + 2 * m.nby + 36 * m.nem) ≤ 24 * m1.nso + 4 * m1.nwt + 2 * m1.nby + 36 * m1.nem
    rw [k1, b3, b5, B.S.nem]
    show c1 + 0 + (24 * m.nso + 4 * m.nwt + 2 * m.nby + 36 * m.nem) ≤ 24 * K + 4 * m.nwt + 2 * m.nby + 36 * m.nem
    omega
