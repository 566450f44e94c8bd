/-! Registers; rows and texts of the reference. -/
theorem tgW_o {n p : Nat} (h : n ≠ 0) : tgW (.inr (n, p)) = Int32.ofNat n := by
  show (if n = 0 then (-1 : Int32) else Int32.ofNat n) = _
  rw [if_neg h]
theorem AI_reg {a : Ab} {i : Nat} {w : Wrd} (A : AI a) (ok : okW a w) : AI (a.s_rg (updN a.rg i w)) := by
  refine ⟨A.lm, A.eg, A.us, A.md, A.tn, ?_, A.ob, A.sum, A.el, A.en, A.cn⟩
  intro j hj
  show okW a (updN a.rg i w j)
  by_cases h : j = i
  · rw [h, updN_s]; exact ok
  · rw [updN_o _ _ h]; exact A.rg j hj
theorem RM_reg {m : Ms} {q : Gm} {a : Ab} {i : Nat} {w : Wrd} (R : RM m q a) : RM (Ms.wvl (Ms.wtg m (upd m.atg i (tgW w))) (vp_updL m.avl i (vlW w))) q (a.s_rg (updN a.rg i w)) := by
  refine ⟨R.s, R.z, R.k, ?_, R.th, R.k0, R.fl, R.ob, R.sr, R.ws, R.bs, R.e⟩
  intro j hj
  show upd m.atg i (tgW w) j = tgW (updN a.rg i w j) ∧ vp_updL m.avl i (vlW w) j = vlW (updN a.rg i w j)
  by_cases h : j = i
  · subst h
    rw [updN_s]
    exact ⟨if_pos rfl, if_pos rfl⟩
  · rw [updN_o _ _ h, show upd m.atg i (tgW w) j = m.atg j from if_neg h, show vp_updL m.avl i (vlW w) j = m.avl j from if_neg h]
    exact R.rg j hj
theorem RM_thr {m : Ms} {q : Gm} {a : Ab} (R : RM m q a) (x : Int32) : RM (Ms.sthr m x) q a := R
theorem md_set_e {m : Ms} {i : Nat} {t : Int32} {v : Int64} (hi : i < 16) (h1 : m.ntg = 16) (h2 : m.nvl = 16) : md_set m (Int32.ofNat i) t v = some (Ms.wvl (Ms.wtg m (upd m.atg i t)) (vp_updL m.avl i v), ()) := by
  unfold md_set
  rw [h1, h2, q_inb hi (by omega), q_nat (by omega), gdT, gdT]
theorem addc_addc {Z : Type} (c d : Nat) (x : Option (Nat × Z)) : addc c (addc d x) = addc (c + d) x := by
  cases x with
  | none => rfl
  | some p => show some (c + (d + p.1), p.2) = some (c + d + p.1, p.2); rw [Nat.add_assoc]
theorem addc_0 {Z : Type} (x : Option (Nat × Z)) : addc 0 x = x := by
  cases x with
  | none => rfl
  | some p => show some (0 + p.1, p.2) = some p; rw [Nat.zero_add]
theorem wdbT2 {n : Nat} (h : 64 ≤ n ∧ n ≤ 16777216) : wdb n = true := by
  unfold wdb
  rw [decide_eq_true_eq]
  exact h
def Ms.ws (m : Ms) (N : Nat) (t : Nat → Int32) (v : Nat → Int64) : Ms := Ms.wwv (Ms.snwv (Ms.wwt (Ms.snwt m N) t) N) v
theorem ws_self {m : Ms} (h : m.nwv = m.nwt) : Ms.ws m m.nwt m.awt m.awv = m := by
  have e1 : Ms.ws m m.nwt m.awt m.awv = Ms.snwv m m.nwt := rfl
  rw [e1, ← h]
  rfl
theorem mr_l22 {x1 x3 : Int32} {ln wd : Nat} (hw : wd + ln ≤ 131072) : ∀ d j fu (m : Ms), j + d = 11 → d < fu → m.nwt = 64 * 2 ^ j → m.nwv = m.nwt → m.wrd = Int32.ofNat wd → wd ≤ m.nwt →
    ∃ c N t v, md_makeRow_l22 fu x1 (Int32.ofNat ln) x3 m = addc c (md_makeRow_l64 FU x1 (Int32.ofNat ln) x3 0 (Ms.ws m N t v)) ∧ wd + ln ≤ N ∧ m.nwt ≤ N ∧ N ≤ 131072 ∧ (∃ k, N = 64 * 2 ^ k) ∧ (∀ x, x < wd → t x = m.awt x ∧ v x = m.awv x) ∧ c + 4 * m.nwt ≤ 4 * N := by
  intro d
  induction d with
  | zero =>
    intro j fu m hj hfu h1 h2 h3 h4
    obtain ⟨f, rfl⟩ : ∃ f, fu = f + 1 := ⟨fu - 1, by omega⟩
    have : j = 11 := by omega
    subst this
    have e : (64 : Nat) * 2 ^ 11 = 131072 := by decide
    refine ⟨0, m.nwt, m.awt, m.awv, ?_, by omega, Nat.le_refl _, by omega, ⟨11, h1⟩, fun _ _ => ⟨rfl, rfl⟩, by omega⟩
    rw [md_makeRow_l22, h3, q_add, if_pos ((q_le (by omega) (by omega)).mpr (by omega)), addc_0]
    rw [ws_self h2]
  | succ d ih =>
    intro j fu m hj hfu h1 h2 h3 h4
    obtain ⟨f, rfl⟩ : ∃ f, fu = f + 1 := ⟨fu - 1, by omega⟩
    have hp : 2 ^ j ≤ 2 ^ 11 := Nat.pow_le_pow_right (by omega) (by omega)
    have hp0 : 1 ≤ 2 ^ j := Nat.one_le_two_pow
    have hp2 : (2 : Nat) ^ 11 = 2048 := by decide
    by_cases hc : wd + ln ≤ m.nwt
    · refine ⟨0, m.nwt, m.awt, m.awv, ?_, hc, Nat.le_refl _, by omega, ⟨j, h1⟩, fun _ _ => ⟨rfl, rfl⟩, by omega⟩
      rw [md_makeRow_l22, h3, q_add, if_pos ((q_le (by omega) (by omega)).mpr hc), addc_0]
      rw [ws_self h2]
    · have hp3 : 2 ^ (j + 1) ≤ 2 ^ 11 := Nat.pow_le_pow_right (by omega) (by omega)
      have e2 : 2 ^ (j + 1) = 2 ^ j * 2 := Nat.pow_succ ..
      obtain ⟨c, N, t, v, g1, g2, g3, g4, g5, g6, g7⟩ := ih (j + 1) f (Ms.ws m (2 * m.nwt) (wdI m.awt m.nwt) (wdJ m.awv m.nwt)) (by omega) (by omega) (show 2 * m.nwt = 64 * 2 ^ (j + 1) by omega) rfl h3 (show wd ≤ 2 * m.nwt by omega)
      have g3 : 2 * m.nwt ≤ N := g3
      have g7 : c + 4 * (2 * m.nwt) ≤ 4 * N := g7
      refine ⟨2 * m.nwt + 2 * m.nwt + c, N, t, v, ?_, g2, by omega, g4, g5, ?_, by omega⟩
      · rw [md_makeRow_l22, h3, q_add, if_neg (fun c => hc ((q_le (by omega) (by omega)).mp c)), h2, wdbT2 (by omega), gdT, gdT]
        have g1' : md_makeRow_l22 f x1 (Int32.ofNat ln) x3 (Ms.wwv (Ms.snwv (Ms.wwt (Ms.snwt m (2 * m.nwt)) (wdI m.awt m.nwt)) (2 * m.nwt)) (wdJ m.awv m.nwt)) = addc c (md_makeRow_l64 FU x1 (Int32.ofNat ln) x3 0 (Ms.ws m N t v)) := g1
        rw [g1', addc_addc, addc_addc]
      · intro x hx
        have := g6 x hx
        have e3 : wdI m.awt m.nwt x = m.awt x := if_pos (by omega)
        have e4 : wdJ m.awv m.nwt x = m.awv x := if_pos (by omega)
        exact ⟨this.1.trans e3, this.2.trans e4⟩
theorem mr_l64 {m : Ms} {i ln wd n : Nat} (hi : i < 16) (h1 : m.ntg = 16) (h2 : m.nvl = 16) (hw : wd + ln ≤ m.nwt) (hn : m.nwt ≤ 131072) (hwv : m.nwv = m.nwt) (hwd : m.wrd = Int32.ofNat wd) (t : Nat → Int32) (v : Nat → Int64) : ∀ k j fu, j + k = ln → k < fu →
    md_makeRow_l64 fu (Int32.ofNat i) (Int32.ofNat ln) (Int32.ofNat n) (Int32.ofNat j) (Ms.wwv (Ms.wwt m (filN t wd (wd + j) 0)) (filN v wd (wd + j) 0)) = some (0, Ms.wvl (Ms.wtg (Ms.swrd (Ms.wwv (Ms.wwt m (filN t wd (wd + ln) 0)) (filN v wd (wd + ln) 0)) (Int32.ofNat (wd + ln))) (upd m.atg i (Int32.ofNat n))) (vp_updL m.avl i 0), Int32.ofNat n) := by
  intro k
  induction k with
  | zero =>
    intro j fu hj hfu
    obtain ⟨f, rfl⟩ : ∃ f, fu = f + 1 := ⟨fu - 1, by omega⟩
    have : j = ln := by omega
    subst this
    rw [md_makeRow_l64, if_pos ((q_le (by omega) (by omega)).mpr (Nat.le_refl _))]
    show bw (md_set (Ms.swrd (Ms.wwv (Ms.wwt m (filN t wd (wd + j) 0)) (filN v wd (wd + j) 0)) (m.wrd + Int32.ofNat j)) (Int32.ofNat i) (Int32.ofNat n) 0) _ = _
    rw [hwd, q_add, md_set_e (m := Ms.swrd (Ms.wwv (Ms.wwt m (filN t wd (wd + j) 0)) (filN v wd (wd + j) 0)) (Int32.ofNat (wd + j))) hi h1 h2]
    rfl
  | succ k ih =>
    intro j fu hj hfu
    obtain ⟨f, rfl⟩ : ∃ f, fu = f + 1 := ⟨fu - 1, by omega⟩
    have e1 : Int32.ofNat j + 1 = Int32.ofNat (j + 1) := q_add j 1
    rw [md_makeRow_l64, if_neg (fun c => absurd ((q_le (by omega) (by omega)).mp c) (by omega))]
    show gd (inb (m.wrd + Int32.ofNat j) m.nwt) (gd (inb (m.wrd + Int32.ofNat j) m.nwv) (md_makeRow_l64 f (Int32.ofNat i) (Int32.ofNat ln) (Int32.ofNat n) (Int32.ofNat j + 1) (Ms.wwv (Ms.wwt m (upd (filN t wd (wd + j) 0) (m.wrd + Int32.ofNat j).toNatClampNeg 0)) (vp_updL (filN v wd (wd + j) 0) (m.wrd + Int32.ofNat j).toNatClampNeg 0)))) = _
    rw [hwd, q_add, hwv, q_inb (show wd + j < m.nwt by omega) (by omega), q_nat (by omega), e1, gdT, gdT]
    have := ih (j + 1) f (by omega) (by omega)
    rw [← Nat.add_assoc, ← fl_step (show wd ≤ wd + j by omega), ← fl_step (show wd ≤ wd + j by omega)] at this
    exact this
/-- make of the reference, room being there -/
theorem RM_row {m : Ms} {q : Gm} {a : Ab} {i ln : Nat} (R : RM m q a) (A : AI a) (hi : i < 16) (hl : ln ≤ 4096) (hu : a.us + (ln + 1) ≤ a.lm) : ∃ c m2 q2, md_makeRow (Ms.susd m (Int64.ofNat (a.us + (ln + 1)))) (Int32.ofNat i) (Int32.ofNat ln) = some (c, m2, Int32.ofNat (a.md + 1)) ∧ RM m2 q2 ((newA a 2 ln 0 0 0).s_rg (updN a.rg i (.inr (a.md + 1, 0)))) ∧ m2.thr = 0 ∧ c + PM m ≤ PM m2 := by
  have Z := R.z
  have md := A.md
  have tn := A.tn
  have lm := A.lm
  have zw := Z.wl
  obtain ⟨c1, m1, K, e1, B⟩ := md_begin_e (m := Ms.sthr (Ms.susd m (Int64.ofNat (a.us + (ln + 1)))) 0) (q := q) (a := a) (kd := 2) (ln := ln) Z R.k R.s.mad R.k0 R.fl (by omega)
  obtain ⟨b1, b2, b3, b4, b5, b6, b7, b8⟩ := B.z2
  obtain ⟨w1, w2, w3, w4, w5, w6, w7⟩ := B.w
  obtain ⟨k1, k2, k3, k4, k5, k6, k7, k8, k9, k10, k11, k12⟩ := B.z1
  have bK := B.K
  -- words in use are fewer than the limit
  have hwl : q.wd + ln ≤ 131072 := by
    have h1 : q.wd ≤ sumQ a.tk a.th a.md := by
      rw [R.ws]
      have h2 : sumQ a.ln (fun n => a.th n && a.kd n == 2) a.md ≤ sumQ a.tk (fun n => a.th n && a.kd n == 2) a.md := by
        refine sumQ_mono ?_
        intro n _ _ h
        rw [Bool.and_eq_true, beq_iff_eq] at h
        unfold Ab.tk
        rw [if_pos h.2]
        omega
      have h3 : sumQ a.tk (fun n => a.th n && a.kd n == 2) a.md ≤ sumQ a.tk a.th a.md := by
        refine sumQ_le ?_
        intro n _ _ h
        rw [Bool.and_eq_true] at h
        exact h.1
      omega
    have := A.sum
    omega
  obtain ⟨j, hj⟩ := Z.wp
  have hj11 : j ≤ 11 := by
    by_cases h : j ≤ 11
    · exact h
    · have : 2 ^ 12 ≤ 2 ^ j := Nat.pow_le_pow_right (by omega) (by omega)
      have e : (2 : Nat) ^ 12 = 4096 := by decide
      omega
  have b3' : m1.nwt = m.nwt := b3
  have b4' : m1.nwv = m.nwv := b4
  have w4' : m1.wrd = m.wrd := w4
  obtain ⟨c2, N, t, v, f1, f2, f3, f4, f5, f6, f7⟩ := mr_l22 (x1 := Int32.ofNat i) (x3 := Int32.ofNat (a.md + 1)) hwl (11 - j) j FU (Ms.wsr m1 (upd m1.asr (a.md + 1) m1.wrd)) (by omega) (by unfold FU; omega) (show m1.nwt = 64 * 2 ^ j by rw [b3']; exact hj) (show m1.nwv = m1.nwt by rw [b3', b4']; exact Z.wt) (show m1.wrd = Int32.ofNat q.wd by rw [w4']; exact Z.wrd) (show q.wd ≤ m1.nwt by rw [b3']; exact zw.1)
  have L := mr_l64 (m := Ms.ws (Ms.wsr m1 (upd m1.asr (a.md + 1) m1.wrd)) N t v) (i := i) (ln := ln) (wd := q.wd) (n := a.md + 1) hi (show m1.ntg = 16 from b1.trans Z.tg) (show m1.nvl = 16 from b2.trans Z.vl) f2 f4 rfl (show m1.wrd = Int32.ofNat q.wd from w4'.trans Z.wrd) t v ln 0 FU (by omega) (by unfold FU; omega)
  have ft : ∀ {α : Type} (f : Nat → α) (x : α), filN f q.wd (q.wd + 0) x = f := by
    intro α f x
    funext y
    exact if_neg (by omega)
  rw [ft, ft] at L
  have L : md_makeRow_l64 FU (Int32.ofNat i) (Int32.ofNat ln) (Int32.ofNat (a.md + 1)) 0 (Ms.ws (Ms.wsr m1 (upd m1.asr (a.md + 1) m1.wrd)) N t v) = _ := L
  have f3 : m1.nwt ≤ N := f3
  have f7 : c2 + 4 * m1.nwt ≤ 4 * N := f7
  have hwrd : m1.wrd = Int32.ofNat q.wd := w4'.trans Z.wrd
  have hrun : md_makeRow (Ms.susd m (Int64.ofNat (a.us + (ln + 1)))) (Int32.ofNat i) (Int32.ofNat ln) = some (c1 + (c2 + 0), Ms.wvl (Ms.wtg (Ms.swrd (Ms.wwv (Ms.wwt (Ms.ws (Ms.wsr m1 (upd m1.asr (a.md + 1) m1.wrd)) N t v) (filN t q.wd (q.wd + ln) 0)) (filN v q.wd (q.wd + ln) 0)) (Int32.ofNat (q.wd + ln))) (upd m1.atg i (Int32.ofNat (a.md + 1)))) (vp_updL m1.avl i 0), Int32.ofNat (a.md + 1)) := by
    unfold md_makeRow
    rw [show (2 : Int32) = Int32.ofNat 2 from rfl, e1, PB.2.2.2.2.2.2.2.2.1, k3, q_inb (show a.md + 1 < K by omega) (by omega), gdT, q_nat (by omega), f1, L]
    rfl
  have M := RM_mk (m := m) (m2 := Ms.swrd (Ms.wwv (Ms.wwt (Ms.ws (Ms.wsr m1 (upd m1.asr (a.md + 1) m1.wrd)) N t v) (filN t q.wd (q.wd + ln) 0)) (filN v q.wd (q.wd + ln) 0)) (Int32.ofNat (q.wd + ln))) (q := q) (q2 := ((q.s_K K).s_sr (updN q.sr (a.md + 1) q.wd)).s_wd (q.wd + ln)) (a := a) (kd := 2) (ln := ln) (nk := 0) (nv := 0) (nt := 0) R A (Or.inl rfl) (fun h => by omega)
    ⟨B.S.lim, B.S.eag, B.S.gvb, B.S.old, B.S.col, B.S.tg, B.S.vl, B.S.ent, B.S.em, B.S.eo, B.S.et, B.S.ev, B.S.nem⟩
    ⟨B.O.so, B.O.si, fun n h => (show upd m1.asr (a.md + 1) m1.wrd n = m1.asr n from if_neg (by omega)).trans (B.O.sr n h), B.O.ke, B.O.va, B.O.te, B.O.ca, B.O.fi, B.O.od, B.O.th, B.O.kp, B.O.k0, B.O.fl⟩
    ⟨b1.trans Z.tg, b2.trans Z.vl, k1, k2, k3, k4, k5, k6, k7, k8, k9, k10, k11, k12, ⟨bK.1, bK.2.1⟩, rfl, ⟨f2, by have : 64 ≤ m.nwt := zw.2.1; show 64 ≤ N; omega, f4⟩, f5, ⟨show q.bc ≤ m1.nby from by rw [b5]; exact Z.by.1, show 64 ≤ m1.nby ∧ m1.nby ≤ 1048576 from by rw [b5]; exact Z.by.2⟩, (show ∃ j, m1.nby = 64 * 2 ^ j from by rw [b5]; exact Z.bp), (show m1.neo = m1.nem from by rw [b6, B.S.nem]; exact Z.eo), (show m1.net = 8 * m1.nem from by rw [b7, B.S.nem]; exact Z.et), (show m1.nev = 8 * m1.nem from by rw [b8, B.S.nem]; exact Z.ev), (show 64 ≤ m1.nem ∧ m1.nem ≤ 4096 from by rw [B.S.nem]; exact Z.el), rfl, w5.trans Z.byc⟩
    (show a.md + 1 < K by omega) w6 B.mad B.so B.si B.th (fun n h => updN_o _ _ (by omega))
    (by
      intro x hx
      have g := f6 x hx
      refine ⟨?_, ?_⟩
      · show filN t q.wd (q.wd + ln) 0 x = m.awt x
        rw [show filN t q.wd (q.wd + ln) 0 x = t x from if_neg (by omega), g.1]
        exact congrFun w1 x
      · show filN v q.wd (q.wd + ln) 0 x = m.awv x
        rw [show filN v q.wd (q.wd + ln) 0 x = v x from if_neg (by omega), g.2]
        exact congrFun w2 x)
    (fun x _ => Or.inl (congrFun w3 x)) rfl rfl
    (fun _ => ⟨updN_s _ _ _, (show upd m1.asr (a.md + 1) m1.wrd (a.md + 1) = m1.wrd from if_pos rfl).trans hwrd, fun j hj => ⟨if_pos (by omega), if_pos (by omega)⟩⟩)
    (fun h => by omega) (fun h => by omega)
  have M2 := RM_reg (i := i) (w := .inr (a.md + 1, 0)) M
  refine ⟨c1 + (c2 + 0), _, ((q.s_K K).s_sr (updN q.sr (a.md + 1) q.wd)).s_wd (q.wd + ln), hrun, ?_, ?_, ?_⟩
  · have e5 : tgW (.inr (a.md + 1, 0)) = Int32.ofNat (a.md + 1) := tgW_o (by omega)
    rw [e5] at M2
    exact M2
  · exact w7
  · have hc := B.c
    have hc : c1 + 24 * m.nso ≤ 24 * K := hc
    show c1 + (c2 + 0) + (24 * m.nso + 4 * m.nwt + 2 * m.nby + 36 * m.nem) ≤ 24 * m1.nso + 4 * N + 2 * m1.nby + 36 * m1.nem
    rw [k1, b5, B.S.nem]
    rw [b3'] at f7
    show c1 + (c2 + 0) + (24 * m.nso + 4 * m.nwt + 2 * m.nby + 36 * m.nem) ≤ 24 * K + 4 * N + 2 * m.nby + 36 * m.nem
    omega
