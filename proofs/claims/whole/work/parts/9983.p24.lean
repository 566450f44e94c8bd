/-! The reference's lists grow. -/
def Ms.dbl (m : Ms) : Ms := Ms.wev (Ms.snev (Ms.wet (Ms.snet (Ms.weo (Ms.sneo (Ms.wem (Ms.snem m (2 * m.nem)) (wdI m.aem m.nem)) (2 * m.neo)) (wdI m.aeo m.neo)) (2 * m.net)) (wdI m.aet m.net)) (2 * m.nev)) (wdJ m.aev m.nev)
theorem RM_dbl {m : Ms} {q : Gm} {a : Ab} (R : RM m q a) (A : AI a) (h : a.el.length = m.nem) : RM m.dbl q a := by
  have Z := R.z
  have tn := A.tn
  have en := A.en
  have zel := Z.el
  have h1 := Z.eo
  have h2 := Z.et
  have h3 := Z.ev
  have k88 : ∀ t, (h : t < a.el.length) → a.nk (a.el[t]).1 + a.nv (a.el[t]).1 ≤ 8 := by
    intro t ht
    obtain ⟨o1, o2⟩ := A.el _ (List.getElem_mem ht)
    have okm := A.mp o1 o2
    have := okm.nk
    have := okm.nv
    omega
  refine ⟨R.s, ⟨Z.tg, Z.vl, Z.so, Z.si, Z.sr, Z.ke, Z.va, Z.te, Z.ca, Z.fi, Z.od, Z.th, Z.kp, Z.re, Z.K, Z.wt, Z.wl, Z.wp, Z.by, Z.bp, ?_, ?_, ?_, ?_, Z.wrd, Z.byc⟩, R.k, R.rg, R.th, R.k0, R.fl, R.ob, R.sr, R.ws, R.bs, ⟨R.e.ent, ?_, ?_, ?_, ?_⟩⟩
  · show 2 * m.neo = 2 * m.nem
    omega
  · show 2 * m.net = 8 * (2 * m.nem)
    omega
  · show 2 * m.nev = 8 * (2 * m.nem)
    omega
  · show 64 ≤ 2 * m.nem ∧ 2 * m.nem ≤ 4096
    omega
  · show a.el.length ≤ 2 * m.nem
    omega
  · intro e he
    exact (if_pos (show e < m.nem by omega)).trans (R.e.mp e he)
  · intro e he
    exact (if_pos (show e < m.neo by omega)).trans (R.e.od e he)
  · intro e he i hi
    have := k88 e he
    have w := R.e.wd e he i hi
    exact ⟨(if_pos (show 8 * e + i < m.net by omega)).trans w.1, (if_pos (show 8 * e + i < m.nev by omega)).trans w.2⟩
theorem md_j92 {m : Ms} {q : Gm} {a : Ab} {n s p jr : Nat} (R : RM m q a) (A : AI a) (hj : jr < 16) (on : obj a n) (k4 : a.kd n = 4) (gj : a.rg jr = .inr (s, p)) (os : obj a s) (k2 : a.kd s = 2) (hl : p + (a.nk n + a.nv n) ≤ a.ln s) (tk : tkk a n (fun i => a.wo s (p + i))) :
    ∃ d m2, md_put_j92 (Int32.ofNat jr) (Int32.ofNat n) 1 0 m = some (d, m2, Int32.ofNat (a.no n)) ∧ RM m2 q (appA a n s p) ∧ d + PM m = PM m2 ∧ m2.thr = 0 := by
  have Z := R.z
  have zel := Z.el
  have h1 := Z.eo
  have h2 := Z.et
  have h3 := Z.ev
  have hle := R.e.le
  have R0 : RM (Ms.sthr m 0) q a := R
  by_cases he : a.el.length = m.nem
  · have RD := RM_dbl R0 A he
    obtain ⟨m2, f1, f2, f3, f4⟩ := md_j158 RD A hj on k4 gj os k2 hl tk (show a.el.length < 2 * m.nem by omega)
    refine ⟨36 * m.nem, m2, ?_, f2, ?_, f4⟩
    · unfold md_put_j92
      have wdt : ∀ n, 64 ≤ n → n ≤ 40000 → wdb n = true := by
        intro n a1 a2
        unfold wdb
        rw [decide_eq_true_eq]
        omega
      rw [if_neg ne10, R.e.ent, if_pos (by rw [he]), wdt m.nem (by omega) (by omega), wdt m.neo (by omega) (by omega), wdt m.net (by omega) (by omega), wdt m.nev (by omega) (by omega), gdT, gdT, gdT, gdT, addc_addc, addc_addc, addc_addc]
      show addc _ (md_put_j158 (Int32.ofNat jr) (Int32.ofNat n) (Ms.sthr m 0).dbl) = _
      rw [f1]
      show some (2 * m.nem + 2 * m.neo + 2 * m.net + 2 * m.nev + 0, m2, Int32.ofNat (a.no n)) = _
      rw [show 2 * m.nem + 2 * m.neo + 2 * m.net + 2 * m.nev + 0 = 36 * m.nem from by omega]
    · rw [f3]
      show 36 * m.nem + (24 * m.nso + 4 * m.nwt + 2 * m.nby + 36 * m.nem) = 24 * m.nso + 4 * m.nwt + 2 * m.nby + 36 * (2 * m.nem)
      omega
  · obtain ⟨m2, f1, f2, f3, f4⟩ := md_j158 R0 A hj on k4 gj os k2 hl tk (show a.el.length < m.nem by omega)
    refine ⟨0, m2, ?_, f2, ?_, f4⟩
    · unfold md_put_j92
      rw [if_neg ne10, R.e.ent, if_neg (q_nek _ (by omega) (by omega) he)]
      exact f1
    · rw [f3, Nat.zero_add]
      rfl
