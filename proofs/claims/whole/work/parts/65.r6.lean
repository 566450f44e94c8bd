/-! The reference collects as the abstract memory does. -/
theorem AI.kd {a : Ab} (A : AI a) {n : Nat} (h : obj a n) : a.kd n = 2 ∨ a.kd n = 3 ∨ a.kd n = 4 := by
  rcases (A.ob n h).2 with c | c | c
  · exact Or.inl c.1
  · exact Or.inr (Or.inl c.1)
  · exact Or.inr (Or.inr c.1)
theorem AI.lnl {a : Ab} (A : AI a) {n : Nat} (h : obj a n) : a.ln n ≤ 32768 := by
  rcases (A.ob n h).2 with c | c | c
  · have := c.2.1; omega
  · exact c.2.1
  · have := c.2.ln; omega
theorem coll_us {a : Ab} (A : AI a) : a.ol + sumQ a.tk (fun l => a.th l && !thR a l) a.md = a.us - (collA a).us ∧ (collA a).us ≤ a.us ∧ sumQ a.tk (thR a) a.md ≤ a.us := by
  have h1 := A.sum
  have h2 := sumQ_split a.tk a.th (thR a) a.md
  have h3 : sumQ a.tk (fun n => a.th n && thR a n) a.md = sumQ a.tk (thR a) a.md := by
    refine sumQ_congr ?_
    intro n _ _
    cases h : thR a n with
    | false => simp
    | true => rw [(thR_iff.mp h).1.2.2]; rfl
  have h4 : (collA a).us = sumQ a.tk (thR a) a.md := rfl
  rw [h4]
  omega
theorem RM_col {m : Ms} {q : Gm} {a : Ab} (R : RM m q a) (A : AI a) : ∃ m2 q2, md_collect m = some (m2, Int32.ofNat (a.us - (collA a).us)) ∧ RM m2 q2 (collA a) ∧ m2.thr = 0 ∧ PM m2 = PM m := by
  obtain ⟨r, e1, hr⟩ := md_findReached_e (m := Ms.sthr m 0) (q := q) (a := a) R A
  have Z := R.z
  have zk := Z.K
  have hK := R.k
  obtain ⟨t, e2, ht, ht2⟩ := co_l16 (m := Ms.sthr m 0) (q := q) (a := a) R A hr a.md 1 FU m.ath (by omega) (by omega) (by unfold FU; omega) (by
    intro l g1 g2
    rw [if_neg (show ¬ l < 1 by omega)]
    exact R.th l g1 g2)
  obtain ⟨cu1, cu2, cu3⟩ := coll_us A
  have bth : ∀ n, obj (a.s_th (thR a)) n → obj a n := fun n h => (thR_iff.mp h.2.2).1
  have P : Pre (Ms.wth (Ms.wre (Ms.sthr m 0) r) t) q (a.s_th (thR a)) := by
    refine ⟨Z, hK, R.s.mad, ht, fun n h => A.kd (bth n h), fun n h => (R.ob n (bth n h)).so, fun n h => (R.ob n (bth n h)).si, fun n h => A.lnl (bth n h), fun n l h1 h2 => R.sr n l (bth n h1) (bth l h2), fun n h k => ((R.ob n (bth n h)).rw k).2.1, fun n h k => ((R.ob n (bth n h)).tx k).2.1⟩
  obtain ⟨s2, t2, v2, b2, e3, U⟩ := pu_l6 P a.md 1 FU m.asr m.awt m.awv m.aby (show 1 + a.md = a.md + 1 by omega) (by omega) (by unfold FU; omega) (by
    refine ⟨?_, ?_⟩
    · intro l ol kl
      have om := (R.ob l (bth l ol)).rw kl
      exact ⟨q.sr l, by rw [if_neg (by have := ol.1; omega)], om.1, om.2.2⟩
    · intro l ol kl
      have om := (R.ob l (bth l ol)).tx kl
      exact ⟨q.sr l, by rw [if_neg (by have := ol.1; omega)], om.1, om.2.2⟩)
  have zel := Z.el
  have kv8 : ∀ x, x ∈ a.el → a.nk x.1 + a.nv x.1 ≤ 8 := by
    intro x hx
    obtain ⟨on, k4⟩ := A.el x hx
    have okm := A.mp on k4
    have n1 := okm.nk
    have n2 := okm.nv
    omega
  obtain ⟨em, eo, et, ev, e4, En4⟩ := pu_l173 (m := Ms.sbyc (Ms.swrd (Ms.pw (Ms.wth (Ms.wre (Ms.sthr m 0) r) t) s2 t2 v2 b2) (Int32.ofNat (pre (a.s_th (thR a)) 2 a.md))) (Int32.ofNat (pre (a.s_th (thR a)) 3 a.md))) (a := a) (p := thR a) (ne := a.el.length) R.e.ent R.e.le (show m.nem ≤ 4096 by omega) Z.eo Z.et Z.ev (show m.nth ≤ 4096 by rw [Z.th]; omega) a.el [] 0 FU m.aem m.aeo m.aet m.aev (by simp) (by omega) (by have := R.e.le; unfold FU; omega) (by
      intro x hx
      obtain ⟨on, k4⟩ := A.el x hx
      exact ⟨show x.1 < m.nth by rw [Z.th]; have := on.2.1; omega, ht x.1 on.1 on.2.1, kv8 x hx⟩) (fun x hx => by cases hx) (fun t ht => by simp at ht) (by
      intro j hj
      rw [Nat.zero_add]
      exact ⟨R.e.mp j hj, R.e.od j hj, R.e.wd j hj⟩)
  have hpw : pre (a.s_th (thR a)) 2 a.md ≤ q.wd := by
    rw [R.ws]
    refine sumQ_le ?_
    intro n _ _ h
    have h : (thR a n && a.kd n == 2) = true := h
    rw [Bool.and_eq_true] at h
    rw [(thR_iff.mp h.1).1.2.2, h.2]
    rfl
  have hpb : pre (a.s_th (thR a)) 3 a.md ≤ q.bc := by
    rw [R.bs]
    refine sumQ_le ?_
    intro n _ _ h
    have h : (thR a n && a.kd n == 3) = true := h
    rw [Bool.and_eq_true] at h
    rw [(thR_iff.mp h.1).1.2.2, h.2]
    rfl
  have zw := Z.wl
  have zb := Z.by
  have preS : ∀ k n, obj (a.s_th (thR a)) n → a.kd n = k → pre (a.s_th (thR a)) k (n - 1) + a.ln n = pre (a.s_th (thR a)) k n := by
    intro k n on kn
    have hn1 : n - 1 + 1 = n := by have := on.1; omega
    have := pre_in (a := a.s_th (thR a)) (k := k) (n := n - 1) (by rw [hn1]; exact on.2.2) (by rw [hn1]; exact kn)
    rw [hn1] at this
    exact this.symm
  refine ⟨Ms.scol (Ms.sold (Ms.sgvb (Ms.susd (Ms.sent (Ms.ew (Ms.sbyc (Ms.swrd (Ms.pw (Ms.wth (Ms.wre (Ms.sthr m 0) r) t) s2 t2 v2 b2) (Int32.ofNat (pre (a.s_th (thR a)) 2 a.md))) (Int32.ofNat (pre (a.s_th (thR a)) 3 a.md))) em eo et ev) (Int32.ofNat (a.el.filter (fun (x : Nat × (Nat × (Nat → Wrd))) => thR a x.1)).length)) (m.usd - Int64.ofNat (a.us - (collA a).us))) (m.gvb + Int64.ofNat (a.us - (collA a).us))) 0) (m.col + 1), ((q.s_sr (fun n => if a.kd n = 2 then pre (a.s_th (thR a)) 2 (n - 1) else pre (a.s_th (thR a)) 3 (n - 1))).s_wd (pre (a.s_th (thR a)) 2 a.md)).s_bc (pre (a.s_th (thR a)) 3 a.md), ?_, ?_, ?_, ?_⟩
  · unfold md_collect
    rw [e1, PB.2.2.2.2.1]
    show md_collect_l16 FU m.old 1 (Ms.wth (Ms.wre (Ms.sthr m 0) r) m.ath) = _
    have e2' := e2
    rw [show sumQ a.tk (fun l => a.th l && !thR a l) (1 - 1) = 0 from rfl, Nat.add_zero, ← R.s.old] at e2'
    rw [show (1 : Int32) = Int32.ofNat 1 from rfl, e2']
    unfold md_push
    have e3' : md_push_l6 FU 0 0 1 (Ms.wth (Ms.wre (Ms.sthr m 0) r) t) = _ := e3
    rw [e3']
    have e4' : md_push_l173 FU 0 0 (Ms.sbyc (Ms.swrd (Ms.pw (Ms.wth (Ms.wre (Ms.sthr m 0) r) t) s2 t2 v2 b2) (Int32.ofNat (pre (a.s_th (thR a)) 2 a.md))) (Int32.ofNat (pre (a.s_th (thR a)) 3 a.md))) = _ := e4
    have hmd : (a.s_th (thR a)).md = a.md := rfl
    rw [hmd, e4', PB.2.2.2.2.1, cu1, q_32]
    rfl
  · refine ⟨⟨R.s.lim, R.s.eag, ?_, ?_, rfl, ?_, R.s.mad⟩, ⟨Z.tg, Z.vl, Z.so, Z.si, Z.sr, Z.ke, Z.va, Z.te, Z.ca, Z.fi, Z.od, Z.th, Z.kp, Z.re, Z.K, Z.wt, ⟨show pre (a.s_th (thR a)) 2 a.md ≤ m.nwt by omega, zw.2⟩, Z.wp, ⟨show pre (a.s_th (thR a)) 3 a.md ≤ m.nby by omega, zb.2⟩, Z.bp, Z.eo, Z.et, Z.ev, Z.el, rfl, rfl⟩, hK, R.rg, ht, R.k0, ?_, ?_, ?_, rfl, rfl, ?_⟩
    · show m.usd - Int64.ofNat (a.us - (collA a).us) = Int64.ofNat (collA a).us
      rw [R.s.usd, l_sub (by omega)]
      congr 1
      omega
    · show m.gvb + Int64.ofNat (a.us - (collA a).us) = Int64.ofNat (a.gb + (a.us - (collA a).us))
      rw [R.s.gvb, l_add]
    · show m.col + 1 = a.co + 1
      rw [R.s.col]
    · intro n
      refine ⟨(R.fl n).1, ?_⟩
      rcases ht2 n with c | c
      · exact Or.inl c
      · show t n = 0 ∨ t n = 1
        rw [c]; exact (R.fl n).2
    · intro n hn
      have on := bth n hn
      have om := R.ob n on
      have hlt : n < a.md + 1 := by have := on.2.1; omega
      refine ⟨om.so, om.si, om.kp, ?_, ?_, om.mp⟩
      · intro k
        obtain ⟨x, hx, h1, h2⟩ := U.rw n hn k
        rw [if_pos (show n < (a.s_th (thR a)).md + 1 from hlt)] at hx
        subst hx
        show s2 n = Int32.ofNat (if a.kd n = 2 then _ else _) ∧ (if a.kd n = 2 then _ else _) + a.ln n ≤ pre (a.s_th (thR a)) 2 a.md ∧ ∀ i, i < a.ln n → t2 ((if a.kd n = 2 then _ else _) + i) = _ ∧ v2 ((if a.kd n = 2 then _ else _) + i) = _
        have k : a.kd n = 2 := k
        rw [if_pos k]
        refine ⟨h1, ?_, h2⟩
        rw [preS 2 n hn k]
        exact pre_mono on.2.1
      · intro k
        obtain ⟨x, hx, h1, h2⟩ := U.tx n hn k
        rw [if_pos (show n < (a.s_th (thR a)).md + 1 from hlt)] at hx
        subst hx
        show s2 n = Int32.ofNat (if a.kd n = 2 then _ else _) ∧ (if a.kd n = 2 then _ else _) + a.ln n ≤ pre (a.s_th (thR a)) 3 a.md ∧ ∀ i, i < a.ln n → b2 ((if a.kd n = 2 then _ else _) + i) = _
        have k : a.kd n = 3 := k
        rw [if_neg (by omega)]
        refine ⟨h1, ?_, h2⟩
        rw [preS 3 n hn k]
        exact pre_mono on.2.1
    · intro n l on ol hl hk h4
      show (if a.kd n = 2 then pre (a.s_th (thR a)) 2 (n - 1) else pre (a.s_th (thR a)) 3 (n - 1)) + a.ln n ≤ (if a.kd l = 2 then pre (a.s_th (thR a)) 2 (l - 1) else pre (a.s_th (thR a)) 3 (l - 1))
      have hk : a.kd n = a.kd l := hk
      have h4 : a.kd n ≠ 4 := h4
      rcases A.kd (bth n on) with c | c | c
      · rw [if_pos c, if_pos (by omega), preS 2 n on c]
        exact pre_mono (by omega)
      · rw [if_neg (by omega), if_neg (by omega), preS 3 n on c]
        exact pre_mono (by omega)
      · exact absurd c h4
    · have hle : (a.el.filter (fun x => thR a x.1)).length ≤ a.el.length := List.length_filter_le _ _
      have := R.e.le
      refine ⟨rfl, show (a.el.filter (fun x => thR a x.1)).length ≤ m.nem by omega, ?_, ?_, ?_⟩
      · intro e he; exact (En4 e he).1
      · intro e he; exact (En4 e he).2.1
      · intro e he; exact (En4 e he).2.2
  · rfl
  · rfl
