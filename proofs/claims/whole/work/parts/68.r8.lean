/-! The reference's new objects. -/
def Old (m m2 : Ms) (a : Ab) : Prop :=
  (∀ n, n ≤ a.md → m2.aso n = m.aso n) ∧
  (∀ n, n ≤ a.md → m2.asi n = m.asi n) ∧
  (∀ n, n ≤ a.md → m2.asr n = m.asr n) ∧
  (∀ n, n ≤ a.md → m2.ake n = m.ake n) ∧
  (∀ n, n ≤ a.md → m2.ava n = m.ava n) ∧
  (∀ n, n ≤ a.md → m2.ate n = m.ate n) ∧
  (∀ n, n ≤ a.md → m2.aca n = m.aca n) ∧
  (∀ n, n ≤ a.md → m2.afi n = m.afi n) ∧
  (∀ n, n ≤ a.md → m2.aod n = m.aod n) ∧
  (∀ n, n ≤ a.md → m2.ath n = m.ath n) ∧
  (∀ n, n ≤ a.md → m2.akp n = m.akp n) ∧
  (∀ n, a.md < n → m2.akp n = 0) ∧
  (∀ n, (m2.akp n = 0 ∨ m2.akp n = 1) ∧ (m2.ath n = 0 ∨ m2.ath n = 1))
theorem Old.so {m m2 : Ms} {a : Ab} (hyp : Old m m2 a) : ∀ n, n ≤ a.md → m2.aso n = m.aso n := hyp.1
theorem Old.si {m m2 : Ms} {a : Ab} (hyp : Old m m2 a) : ∀ n, n ≤ a.md → m2.asi n = m.asi n := hyp.2.1
theorem Old.sr {m m2 : Ms} {a : Ab} (hyp : Old m m2 a) : ∀ n, n ≤ a.md → m2.asr n = m.asr n := hyp.2.2.1
theorem Old.ke {m m2 : Ms} {a : Ab} (hyp : Old m m2 a) : ∀ n, n ≤ a.md → m2.ake n = m.ake n := hyp.2.2.2.1
theorem Old.va {m m2 : Ms} {a : Ab} (hyp : Old m m2 a) : ∀ n, n ≤ a.md → m2.ava n = m.ava n := hyp.2.2.2.2.1
theorem Old.te {m m2 : Ms} {a : Ab} (hyp : Old m m2 a) : ∀ n, n ≤ a.md → m2.ate n = m.ate n := hyp.2.2.2.2.2.1
theorem Old.ca {m m2 : Ms} {a : Ab} (hyp : Old m m2 a) : ∀ n, n ≤ a.md → m2.aca n = m.aca n := hyp.2.2.2.2.2.2.1
theorem Old.fi {m m2 : Ms} {a : Ab} (hyp : Old m m2 a) : ∀ n, n ≤ a.md → m2.afi n = m.afi n := hyp.2.2.2.2.2.2.2.1
theorem Old.od {m m2 : Ms} {a : Ab} (hyp : Old m m2 a) : ∀ n, n ≤ a.md → m2.aod n = m.aod n := hyp.2.2.2.2.2.2.2.2.1
theorem Old.th {m m2 : Ms} {a : Ab} (hyp : Old m m2 a) : ∀ n, n ≤ a.md → m2.ath n = m.ath n := hyp.2.2.2.2.2.2.2.2.2.1
theorem Old.kp {m m2 : Ms} {a : Ab} (hyp : Old m m2 a) : ∀ n, n ≤ a.md → m2.akp n = m.akp n := hyp.2.2.2.2.2.2.2.2.2.2.1
theorem Old.k0 {m m2 : Ms} {a : Ab} (hyp : Old m m2 a) : ∀ n, a.md < n → m2.akp n = 0 := hyp.2.2.2.2.2.2.2.2.2.2.2.1
theorem Old.fl {m m2 : Ms} {a : Ab} (hyp : Old m m2 a) : ∀ n, (m2.akp n = 0 ∨ m2.akp n = 1) ∧ (m2.ath n = 0 ∨ m2.ath n = 1) := hyp.2.2.2.2.2.2.2.2.2.2.2.2

def Scl (m m2 : Ms) : Prop :=
  (m2.lim = m.lim) ∧
  (m2.eag = m.eag) ∧
  (m2.gvb = m.gvb) ∧
  (m2.old = m.old) ∧
  (m2.col = m.col) ∧
  (m2.atg = m.atg) ∧
  (m2.avl = m.avl) ∧
  (m2.ent = m.ent) ∧
  (m2.aem = m.aem) ∧
  (m2.aeo = m.aeo) ∧
  (m2.aet = m.aet) ∧
  (m2.aev = m.aev) ∧
  (m2.nem = m.nem)
theorem Scl.lim {m m2 : Ms} (hyp : Scl m m2) : m2.lim = m.lim := hyp.1
theorem Scl.eag {m m2 : Ms} (hyp : Scl m m2) : m2.eag = m.eag := hyp.2.1
theorem Scl.gvb {m m2 : Ms} (hyp : Scl m m2) : m2.gvb = m.gvb := hyp.2.2.1
theorem Scl.old {m m2 : Ms} (hyp : Scl m m2) : m2.old = m.old := hyp.2.2.2.1
theorem Scl.col {m m2 : Ms} (hyp : Scl m m2) : m2.col = m.col := hyp.2.2.2.2.1
theorem Scl.tg {m m2 : Ms} (hyp : Scl m m2) : m2.atg = m.atg := hyp.2.2.2.2.2.1
theorem Scl.vl {m m2 : Ms} (hyp : Scl m m2) : m2.avl = m.avl := hyp.2.2.2.2.2.2.1
theorem Scl.ent {m m2 : Ms} (hyp : Scl m m2) : m2.ent = m.ent := hyp.2.2.2.2.2.2.2.1
theorem Scl.em {m m2 : Ms} (hyp : Scl m m2) : m2.aem = m.aem := hyp.2.2.2.2.2.2.2.2.1
theorem Scl.eo {m m2 : Ms} (hyp : Scl m m2) : m2.aeo = m.aeo := hyp.2.2.2.2.2.2.2.2.2.1
theorem Scl.et {m m2 : Ms} (hyp : Scl m m2) : m2.aet = m.aet := hyp.2.2.2.2.2.2.2.2.2.2.1
theorem Scl.ev {m m2 : Ms} (hyp : Scl m m2) : m2.aev = m.aev := hyp.2.2.2.2.2.2.2.2.2.2.2.1
theorem Scl.nem {m m2 : Ms} (hyp : Scl m m2) : m2.nem = m.nem := hyp.2.2.2.2.2.2.2.2.2.2.2.2

theorem RM_mk {m m2 : Ms} {q q2 : Gm} {a : Ab} {kd ln nk nv nt : Nat} (R : RM m q a) (A : AI a) (hk2 : kd = 2 ∨ kd = 3 ∨ kd = 4) (h4 : kd = 4 → ln = 0) (S : Scl m m2) (O : Old m m2 a) (Z2 : RMz m2 q2) (hK : a.md + 1 < q2.K) (husd : m2.usd = Int64.ofNat (a.us + tkN kd ln nk nv)) (hmad : m2.mad = Int32.ofNat (a.md + 1))
    (hso : m2.aso (a.md + 1) = Int32.ofNat kd) (hsi : m2.asi (a.md + 1) = Int32.ofNat ln) (hth : m2.ath (a.md + 1) = 1) (hsr : ∀ n, n ≤ a.md → q2.sr n = q.sr n) (hw : ∀ x, x < q.wd → m2.awt x = m.awt x ∧ m2.awv x = m.awv x) (hb : ∀ x, x < q.bc → m2.aby x = m.aby x ∨ m2.aby x = vp_nar .byte (m.aby x))
    (hwd : q2.wd = q.wd + (if kd = 2 then ln else 0)) (hbc : q2.bc = q.bc + (if kd = 3 then ln else 0))
    (h2 : kd = 2 → q2.sr (a.md + 1) = q.wd ∧ m2.asr (a.md + 1) = Int32.ofNat q.wd ∧ ∀ i, i < ln → m2.awt (q.wd + i) = 0 ∧ m2.awv (q.wd + i) = 0)
    (h3 : kd = 3 → q2.sr (a.md + 1) = q.bc ∧ m2.asr (a.md + 1) = Int32.ofNat q.bc ∧ ∀ i, i < ln → m2.aby (q.bc + i) = 0)
    (h44 : kd = 4 → m2.ake (a.md + 1) = Int32.ofNat nk ∧ m2.ava (a.md + 1) = Int32.ofNat nv ∧ m2.ate (a.md + 1) = Int32.ofNat nt ∧ m2.aca (a.md + 1) = 8 ∧ m2.afi (a.md + 1) = 0 ∧ m2.aod (a.md + 1) = 0) : RM m2 q2 (newA a kd ln nk nv nt) := by
  obtain ⟨n1, n2, n3, n4, n5, n6, n7, n8, n9, n10, n11, n12⟩ := newA_n (a := a) (kd := kd) (ln := ln) (nk := nk) (nv := nv) (nt := nt)
  have Eo := fun n (h : n ≤ a.md) => newA_o (a := a) (kd := kd) (ln := ln) (nk := nk) (nv := nv) (nt := nt) h
  have oold : ∀ n, obj (newA a kd ln nk nv nt) n → n ≤ a.md → obj a n := fun n h hn => ⟨h.1, hn, by rw [← (Eo n hn).2]; exact h.2.2⟩
  have onew : ∀ n, obj (newA a kd ln nk nv nt) n → ¬ n ≤ a.md → n = a.md + 1 := fun n h hn => by have : n ≤ a.md + 1 := h.2.1; omega
  have hpre : ∀ k, sumQ (newA a kd ln nk nv nt).ln (fun n => (newA a kd ln nk nv nt).th n && (newA a kd ln nk nv nt).kd n == k) (a.md + 1) = sumQ a.ln (fun n => a.th n && a.kd n == k) a.md + (if kd = k then ln else 0) := by
    intro k
    show sumQ (newA a kd ln nk nv nt).ln (fun n => (newA a kd ln nk nv nt).th n && (newA a kd ln nk nv nt).kd n == k) a.md + (if ((newA a kd ln nk nv nt).th (a.md + 1) && (newA a kd ln nk nv nt).kd (a.md + 1) == k) = true then (newA a kd ln nk nv nt).ln (a.md + 1) else 0) = _
    rw [n1, n2, n3, Bool.true_and]
    have e1 : sumQ (newA a kd ln nk nv nt).ln (fun n => (newA a kd ln nk nv nt).th n && (newA a kd ln nk nv nt).kd n == k) a.md = sumQ a.ln (fun n => a.th n && a.kd n == k) a.md := by
      rw [sumQ_f (f' := a.ln) (fun n _ h2 => (Eo n h2).1.ln)]
      refine sumQ_congr ?_
      intro n _ h2
      show ((newA a kd ln nk nv nt).th n && (newA a kd ln nk nv nt).kd n == k) = _
      rw [(Eo n h2).2, (Eo n h2).1.kd]
    rw [e1]
    congr 1
    by_cases hkk : kd = k
    · rw [if_pos hkk, if_pos (by simp [hkk])]
    · rw [if_neg hkk, if_neg (by simp [hkk])]
  have nb0 : vp_nar .byte (Int32.ofNat 0) = 0 := by decide
  refine ⟨⟨S.lim.trans R.s.lim, S.eag.trans R.s.eag, ?_, S.gvb.trans R.s.gvb, S.old.trans R.s.old, S.col.trans R.s.col, hmad⟩, Z2, hK, ?_, ?_, ?_, O.fl, ?_, ?_, ?_, ?_, ?_⟩
  · rw [newA_us]; exact husd
  · intro i hi
    rw [S.tg, S.vl]
    exact R.rg i hi
  · intro n h1 hn
    by_cases hnm : n ≤ a.md
    · rw [O.th n hnm, (Eo n hnm).2]
      exact R.th n h1 hnm
    · have hle : n ≤ a.md + 1 := hn
      have : n = a.md + 1 := by omega
      subst this
      rw [n1, if_pos rfl]
      exact hth
  · intro n hn
    have hn : a.md + 1 < n := hn
    exact O.k0 n (by omega)
  · intro n hn
    by_cases hnm : n ≤ a.md
    · have om := R.ob n (oold n hn hnm)
      have E := (Eo n hnm).1
      refine ⟨by rw [O.so n hnm, E.kd]; exact om.so, by rw [O.si n hnm, E.ln]; exact om.si, by rw [O.kp n hnm, E.fz]; exact om.kp, ?_, ?_, ?_⟩
      · rw [E.kd, E.ln, E.wo, O.sr n hnm, hsr n hnm]
        intro k
        obtain ⟨g1, g2, g3⟩ := om.rw k
        refine ⟨g1, by omega, ?_⟩
        intro i hi
        have := hw (q.sr n + i) (by omega)
        rw [this.1, this.2]
        exact g3 i hi
      · rw [E.kd, E.ln, E.bs, O.sr n hnm, hsr n hnm]
        intro k
        obtain ⟨g1, g2, g3⟩ := om.tx k
        refine ⟨g1, by omega, ?_⟩
        intro i hi
        rcases hb (q.sr n + i) (by omega) with c | c
        · rw [c]; exact g3 i hi
        · rw [c, g3 i hi]; exact narb _
      · rw [E.kd, E.nk, E.nv, E.nt, E.nc, E.sl, E.no, O.ke n hnm, O.va n hnm, O.te n hnm, O.ca n hnm, O.fi n hnm, O.od n hnm]
        exact om.mp
    · have := onew n hn hnm
      subst this
      refine ⟨by rw [n2]; exact hso, by rw [n3]; exact hsi, by rw [n4]; exact O.k0 _ (by omega), ?_, ?_, ?_⟩
      · rw [n2, n3, n5]
        intro k
        obtain ⟨g1, g2, g3⟩ := h2 k
        rw [if_pos k] at hwd
        rw [g1]
        exact ⟨g2, by omega, g3⟩
      · rw [n2, n3, n6]
        intro k
        obtain ⟨g1, g2, g3⟩ := h3 k
        rw [if_pos k] at hbc
        rw [g1]
        refine ⟨g2, by omega, ?_⟩
        intro i hi
        rw [nb0]
        exact g3 i hi
      · rw [n2, n7, n8, n9, n10, n11, n12]
        exact h44
  · intro n l hn hl hlt hkk h4'
    by_cases hlm : l ≤ a.md
    · have hnm : n ≤ a.md := by omega
      rw [hsr n hnm, hsr l hlm, (Eo n hnm).1.ln]
      rw [(Eo n hnm).1.kd, (Eo l hlm).1.kd] at hkk
      rw [(Eo n hnm).1.kd] at h4'
      exact R.sr n l (oold n hn hnm) (oold l hl hlm) hlt hkk h4'
    · have hll := onew l hl hlm
      subst hll
      have hnm : n ≤ a.md := by omega
      have om := R.ob n (oold n hn hnm)
      rw [hsr n hnm, (Eo n hnm).1.ln]
      rw [(Eo n hnm).1.kd, n2] at hkk
      rw [(Eo n hnm).1.kd] at h4'
      rcases hk2 with c | c | c
      · rw [(h2 c).1]
        exact (om.rw (by omega)).2.1
      · rw [(h3 c).1]
        exact (om.tx (by omega)).2.1
      · omega
  · show q2.wd = sumQ (newA a kd ln nk nv nt).ln (fun n => (newA a kd ln nk nv nt).th n && (newA a kd ln nk nv nt).kd n == 2) (a.md + 1)
    rw [hpre 2, hwd, R.ws]
  · show q2.bc = sumQ (newA a kd ln nk nv nt).ln (fun n => (newA a kd ln nk nv nt).th n && (newA a kd ln nk nv nt).kd n == 3) (a.md + 1)
    rw [hpre 3, hbc, R.bs]
  · have e := R.e
    refine ⟨S.ent.trans e.ent, by rw [S.nem]; exact e.le, ?_, ?_, ?_⟩
    · rw [S.em]; exact e.mp
    · rw [S.eo]; exact e.od
    · rw [S.et, S.ev]
      intro j hj i hi
      have hj2 : j < a.el.length := hj
      have hm := (A.el _ (List.getElem_mem hj2)).1.2.1
      have hi : i < (newA a kd ln nk nv nt).nk (a.el[j]'hj2).1 + (newA a kd ln nk nv nt).nv (a.el[j]'hj2).1 := hi
      rw [(Eo _ hm).1.nk, (Eo _ hm).1.nv] at hi
      exact e.wd j hj2 i hi
theorem wdbT {n : Nat} (h : 64 ≤ n ∧ n ≤ 4096) : wdb n = true := by
  unfold wdb
  rw [decide_eq_true_eq]
  omega
theorem wdIe {f : Nat → Int32} {n j : Nat} (h : j < n) : wdI f n j = f j := if_pos h
theorem wdZe {f : Nat → Int32} {n j : Nat} (h : j < n) (hf : f j = 0 ∨ f j = 1) : wdZ f n j = f j := (if_pos h).trans (narf hf)
theorem wdZf {f : Nat → Int32} {n j : Nat} (hf : ∀ j, f j = 0 ∨ f j = 1) : wdZ f n j = 0 ∨ wdZ f n j = 1 := by
  unfold wdZ
  split
  · rw [narf (hf j)]; exact hf j
  · exact Or.inl rfl
/-- begin: the object's number, its sort and size -/
def Bg (m m2 : Ms) (a : Ab) (kd ln c K : Nat) : Prop :=
  (Old m m2 a) ∧
  (Scl m m2) ∧
  (m2.nso = K ∧ m2.nsi = K ∧ m2.nsr = K ∧ m2.nke = K ∧ m2.nva = K ∧ m2.nte = K ∧ m2.nca = K ∧ m2.nfi = K ∧ m2.nod = K ∧ m2.nth = K ∧ m2.nkp = K ∧ m2.nre = K) ∧
  (64 ≤ K ∧ K ≤ 4096 ∧ a.md + 1 < K) ∧
  (m2.ntg = m.ntg ∧ m2.nvl = m.nvl ∧ m2.nwt = m.nwt ∧ m2.nwv = m.nwv ∧ m2.nby = m.nby ∧ m2.neo = m.neo ∧ m2.net = m.net ∧ m2.nev = m.nev) ∧
  (m2.awt = m.awt ∧ m2.awv = m.awv ∧ m2.aby = m.aby ∧ m2.wrd = m.wrd ∧ m2.byc = m.byc ∧ m2.usd = m.usd ∧ m2.thr = m.thr) ∧
  (m2.mad = Int32.ofNat (a.md + 1)) ∧
  (m2.aso (a.md + 1) = Int32.ofNat kd) ∧
  (m2.asi (a.md + 1) = Int32.ofNat ln) ∧
  (m2.ath (a.md + 1) = 1) ∧
  (c + 24 * m.nso ≤ 24 * K)
theorem Bg.O {m m2 : Ms} {a : Ab} {kd ln c K : Nat} (hyp : Bg m m2 a kd ln c K) : Old m m2 a := hyp.1
theorem Bg.S {m m2 : Ms} {a : Ab} {kd ln c K : Nat} (hyp : Bg m m2 a kd ln c K) : Scl m m2 := hyp.2.1
theorem Bg.z1 {m m2 : Ms} {a : Ab} {kd ln c K : Nat} (hyp : Bg m m2 a kd ln c K) : m2.nso = K ∧ m2.nsi = K ∧ m2.nsr = K ∧ m2.nke = K ∧ m2.nva = K ∧ m2.nte = K ∧ m2.nca = K ∧ m2.nfi = K ∧ m2.nod = K ∧ m2.nth = K ∧ m2.nkp = K ∧ m2.nre = K := hyp.2.2.1
theorem Bg.K {m m2 : Ms} {a : Ab} {kd ln c K : Nat} (hyp : Bg m m2 a kd ln c K) : 64 ≤ K ∧ K ≤ 4096 ∧ a.md + 1 < K := hyp.2.2.2.1
theorem Bg.z2 {m m2 : Ms} {a : Ab} {kd ln c K : Nat} (hyp : Bg m m2 a kd ln c K) : m2.ntg = m.ntg ∧ m2.nvl = m.nvl ∧ m2.nwt = m.nwt ∧ m2.nwv = m.nwv ∧ m2.nby = m.nby ∧ m2.neo = m.neo ∧ m2.net = m.net ∧ m2.nev = m.nev := hyp.2.2.2.2.1
theorem Bg.w {m m2 : Ms} {a : Ab} {kd ln c K : Nat} (hyp : Bg m m2 a kd ln c K) : m2.awt = m.awt ∧ m2.awv = m.awv ∧ m2.aby = m.aby ∧ m2.wrd = m.wrd ∧ m2.byc = m.byc ∧ m2.usd = m.usd ∧ m2.thr = m.thr := hyp.2.2.2.2.2.1
theorem Bg.mad {m m2 : Ms} {a : Ab} {kd ln c K : Nat} (hyp : Bg m m2 a kd ln c K) : m2.mad = Int32.ofNat (a.md + 1) := hyp.2.2.2.2.2.2.1
theorem Bg.so {m m2 : Ms} {a : Ab} {kd ln c K : Nat} (hyp : Bg m m2 a kd ln c K) : m2.aso (a.md + 1) = Int32.ofNat kd := hyp.2.2.2.2.2.2.2.1
theorem Bg.si {m m2 : Ms} {a : Ab} {kd ln c K : Nat} (hyp : Bg m m2 a kd ln c K) : m2.asi (a.md + 1) = Int32.ofNat ln := hyp.2.2.2.2.2.2.2.2.1
theorem Bg.th {m m2 : Ms} {a : Ab} {kd ln c K : Nat} (hyp : Bg m m2 a kd ln c K) : m2.ath (a.md + 1) = 1 := hyp.2.2.2.2.2.2.2.2.2.1
theorem Bg.c {m m2 : Ms} {a : Ab} {kd ln c K : Nat} (hyp : Bg m m2 a kd ln c K) : c + 24 * m.nso ≤ 24 * K := hyp.2.2.2.2.2.2.2.2.2.2

theorem md_begin_e {m : Ms} {q : Gm} {a : Ab} {kd ln : Nat} (Z : RMz m q) (hK : a.md < q.K) (hmad : m.mad = Int32.ofNat a.md) (k0 : ∀ n, a.md < n → m.akp n = 0) (fl : ∀ n, (m.akp n = 0 ∨ m.akp n = 1) ∧ (m.ath n = 0 ∨ m.ath n = 1)) (md : a.md ≤ 1000) : ∃ c m2 K, md_begin m (Int32.ofNat kd) (Int32.ofNat ln) = some (c, m2, Int32.ofNat (a.md + 1)) ∧ Bg m m2 a kd ln c K := by
  have zk := Z.K
  have e1 : Int32.ofNat a.md + 1 = Int32.ofNat (a.md + 1) := q_add a.md 1
  have j154 : ∀ (z : Ms) (K : Nat), z.mad = Int32.ofNat (a.md + 1) → z.nso = K → z.nsi = K → z.nth = K → a.md + 1 < K → K ≤ 4096 → md_begin_j154 (Int32.ofNat kd) (Int32.ofNat ln) z = some (0, Ms.wth (Ms.wsi (Ms.wso z (upd z.aso (a.md + 1) (Int32.ofNat kd))) (upd z.asi (a.md + 1) (Int32.ofNat ln))) (upd z.ath (a.md + 1) 1), Int32.ofNat (a.md + 1)) := by
    intro z K h1 h2 h3 h4 h5 h6
    unfold md_begin_j154
    rw [h1, h2, h3, h4, q_inb h5 (by omega), q_nat (by omega), nar1, gdT, gdT, gdT]
  have hne : ∀ n, n ≤ a.md → n ≠ a.md + 1 := fun n h => by omega
  have hth : ∀ n, m.ath n = 0 ∨ m.ath n = 1 := fun n => (fl n).2
  have hkp : ∀ n, m.akp n = 0 ∨ m.akp n = 1 := fun n => (fl n).1
  unfold md_begin
  rw [hmad, e1, Z.so]
  by_cases hc : a.md + 1 = q.K
  · rw [if_pos ((q_eq (by omega) (by omega)).mpr hc)]
    rw [Z.si, Z.sr, Z.ke, Z.va, Z.te, Z.ca, Z.fi, Z.od, Z.th, Z.kp, Z.re, wdbT zk]
    rw [j154 _ (2 * q.K) rfl rfl rfl rfl (by omega) (by omega)]
    simp only [PB]
    refine ⟨_, _, 2 * q.K, rfl, ?_⟩
    have hlt : ∀ n, n ≤ a.md → n < q.K := fun n h => by omega
    refine ⟨⟨fun n h => (if_neg (hne n h)).trans (wdIe (hlt n h)), fun n h => (if_neg (hne n h)).trans (wdIe (hlt n h)), fun n h => wdIe (hlt n h), fun n h => wdIe (hlt n h), fun n h => wdIe (hlt n h), fun n h => wdIe (hlt n h), fun n h => wdIe (hlt n h), fun n h => wdIe (hlt n h), fun n h => wdIe (hlt n h), fun n h => (if_neg (hne n h)).trans (wdZe (hlt n h) (hth n)), fun n h => wdZe (hlt n h) (hkp n), ?_, ?_⟩, ⟨rfl, rfl, rfl, rfl, rfl, rfl, rfl, rfl, rfl, rfl, rfl, rfl, rfl⟩, ⟨rfl, rfl, rfl, rfl, rfl, rfl, rfl, rfl, rfl, rfl, rfl, rfl⟩, by omega, ⟨rfl, rfl, rfl, rfl, rfl, rfl, rfl, rfl⟩, ⟨rfl, rfl, rfl, rfl, rfl, rfl, rfl⟩, rfl, if_pos rfl, if_pos rfl, if_pos rfl, ?_⟩
    · intro n h
      show wdZ m.akp q.K n = 0
      exact if_neg (by omega)
    · intro n
      refine ⟨wdZf hkp, ?_⟩
      show upd (wdZ m.ath q.K) (a.md + 1) 1 n = 0 ∨ upd (wdZ m.ath q.K) (a.md + 1) 1 n = 1
      unfold upd
      split
      · exact Or.inr rfl
      · exact wdZf hth
    · rw [Z.so]; omega
  · rw [if_neg (fun c => hc ((q_eq (by omega) (by omega)).mp c))]
    refine ⟨0, _, q.K, j154 (Ms.smad m (Int32.ofNat (a.md + 1))) q.K rfl Z.so Z.si Z.th (by omega) (by omega), ⟨⟨fun n h => if_neg (hne n h), fun n h => if_neg (hne n h), fun _ _ => rfl, fun _ _ => rfl, fun _ _ => rfl, fun _ _ => rfl, fun _ _ => rfl, fun _ _ => rfl, fun _ _ => rfl, fun n h => if_neg (hne n h), fun _ _ => rfl, k0, ?_⟩, ⟨rfl, rfl, rfl, rfl, rfl, rfl, rfl, rfl, rfl, rfl, rfl, rfl, rfl⟩, ⟨Z.so, Z.si, Z.sr, Z.ke, Z.va, Z.te, Z.ca, Z.fi, Z.od, Z.th, Z.kp, Z.re⟩, by omega, ⟨rfl, rfl, rfl, rfl, rfl, rfl, rfl, rfl⟩, ⟨rfl, rfl, rfl, rfl, rfl, rfl, rfl⟩, rfl, if_pos rfl, if_pos rfl, if_pos rfl, ?_⟩⟩
    · intro n
      refine ⟨(fl n).1, ?_⟩
      show upd m.ath (a.md + 1) 1 n = 0 ∨ upd m.ath (a.md + 1) 1 n = 1
      unfold upd
      split
      · exact Or.inr rfl
      · exact hth n
    · show 0 + 24 * m.nso ≤ 24 * q.K
      rw [Z.so]; omega
