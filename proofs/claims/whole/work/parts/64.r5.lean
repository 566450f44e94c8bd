/-! Entries pushed together; the reference's collection. -/
def Ms.ew (m : Ms) (em eo et : Nat → Int32) (ev : Nat → Int64) : Ms := Ms.wev (Ms.wet (Ms.weo (Ms.wem m em) eo) et) ev
theorem me_l26 {m : Ms} {e t : Nat} (h : t ≤ e) (he : e < m.nem) (hn : m.nem ≤ 4096) (h1 : m.net = 8 * m.nem) (h2 : m.nev = 8 * m.nem) (f : Nat → Int32) (v : Nat → Int64) : ∀ k i fu, i + k = 8 → k < fu →
    md_moveEntry_l26 fu (Int32.ofNat e) (Int32.ofNat t) (Int32.ofNat i) (Ms.wev (Ms.wet m (va_cpy f f (8 * e) (8 * t) i)) (va_cpy v v (8 * e) (8 * t) i)) = some (Ms.wev (Ms.wet m (va_cpy f f (8 * e) (8 * t) 8)) (va_cpy v v (8 * e) (8 * t) 8), ()) := by
  have e8 : ∀ x y, 8 * Int32.ofNat x + Int32.ofNat y = Int32.ofNat (8 * x + y) := by
    intro x y
    have := q_mul 8 x
    rw [show (8 : Int32) = Int32.ofNat 8 from rfl, this, q_add]
  intro k
  induction k with
  | zero =>
    intro i fu hi hfu
    obtain ⟨g, rfl⟩ : ∃ g, fu = g + 1 := ⟨fu - 1, by omega⟩
    have : i = 8 := by omega
    subst this
    rw [md_moveEntry_l26, if_pos (by decide)]
  | succ k ih =>
    intro i fu hi hfu
    obtain ⟨g, rfl⟩ : ∃ g, fu = g + 1 := ⟨fu - 1, by omega⟩
    have e1 : Int32.ofNat i + 1 = Int32.ofNat (i + 1) := q_add i 1
    have c8 : ¬ ((8 : Int32) ≤ Int32.ofNat i) := fun c => absurd ((q_le (a := 8) (by omega) (by omega)).mp c) (by omega)
    rw [md_moveEntry_l26, if_neg c8, e8, e8]
    show gd (inb (Int32.ofNat (8 * e + i)) m.net) (gd (inb (Int32.ofNat (8 * t + i)) m.net) (gd (inb (Int32.ofNat (8 * e + i)) m.nev) (gd (inb (Int32.ofNat (8 * t + i)) m.nev) (md_moveEntry_l26 g (Int32.ofNat e) (Int32.ofNat t) (Int32.ofNat i + 1) (Ms.wev (Ms.wet m (upd (va_cpy f f (8 * e) (8 * t) i) (Int32.ofNat (8 * t + i)).toNatClampNeg (va_cpy f f (8 * e) (8 * t) i (Int32.ofNat (8 * e + i)).toNatClampNeg))) (vp_updL (va_cpy v v (8 * e) (8 * t) i) (Int32.ofNat (8 * t + i)).toNatClampNeg (va_cpy v v (8 * e) (8 * t) i (Int32.ofNat (8 * e + i)).toNatClampNeg))))))) = _
    rw [h1, h2, q_inb (show 8 * e + i < 8 * m.nem by omega) (by omega), q_inb (show 8 * t + i < 8 * m.nem by omega) (by omega), q_nat (show 8 * e + i < 2147483648 by omega), q_nat (show 8 * t + i < 2147483648 by omega), e1]
    have := ih (i + 1) g (by omega) (by omega)
    rw [← cpy_stepG (show 8 * t ≤ 8 * e by omega), ← cpy_stepG (show 8 * t ≤ 8 * e by omega)] at this
    exact this
theorem md_moveEntry_e {m : Ms} {e t : Nat} (h : t ≤ e) (he : e < m.nem) (hn : m.nem ≤ 4096) (h0 : m.neo = m.nem) (h1 : m.net = 8 * m.nem) (h2 : m.nev = 8 * m.nem) :
    md_moveEntry m (Int32.ofNat e) (Int32.ofNat t) = some (Ms.ew m (upd m.aem t (m.aem e)) (upd m.aeo t (m.aeo e)) (va_cpy m.aet m.aet (8 * e) (8 * t) 8) (va_cpy m.aev m.aev (8 * e) (8 * t) 8), ()) := by
  unfold md_moveEntry
  rw [h0, q_inb he (by omega), q_inb (show t < m.nem by omega) (by omega), q_nat (show e < 2147483648 by omega), q_nat (show t < 2147483648 by omega), gdT, gdT, gdT, gdT]
  have := me_l26 (m := Ms.weo (Ms.wem m (upd m.aem t (m.aem e))) (upd m.aeo t (m.aeo e))) h he hn h1 h2 m.aet m.aev 8 0 FU (by omega) (by unfold FU; omega)
  rw [cpy0, cpy0] at this
  exact this
/-- entry x stands at e -/
def En (a : Ab) (em eo et : Nat → Int32) (ev : Nat → Int64) (e : Nat) (x : Nat × (Nat × (Nat → Wrd))) : Prop := em e = Int32.ofNat x.1 ∧ eo e = Int32.ofNat x.2.1 ∧ ∀ i, i < a.nk x.1 + a.nv x.1 → et (8 * e + i) = tgW (x.2.2 i) ∧ ev (8 * e + i) = vlW (x.2.2 i)
theorem pu_l173 {m : Ms} {a : Ab} {p : Nat → Bool} {ne : Nat} (hent : m.ent = Int32.ofNat ne) (hne : ne ≤ m.nem) (hn : m.nem ≤ 4096) (h0 : m.neo = m.nem) (h1 : m.net = 8 * m.nem) (h2 : m.nev = 8 * m.nem) (hth : m.nth ≤ 4096) : ∀ (suf d : List (Nat × (Nat × (Nat → Wrd)))) (e fu : Nat) (em eo et : Nat → Int32) (ev : Nat → Int64), d.length ≤ e → e + suf.length = ne → suf.length < fu →
    (∀ x, x ∈ suf → x.1 < m.nth ∧ m.ath x.1 = (if p x.1 = true then 1 else 0) ∧ a.nk x.1 + a.nv x.1 ≤ 8) → (∀ x, x ∈ d → a.nk x.1 + a.nv x.1 ≤ 8) → (∀ t, (h : t < d.length) → En a em eo et ev t (d[t])) → (∀ j, (h : j < suf.length) → En a em eo et ev (e + j) (suf[j])) →
    ∃ em2 eo2 et2 ev2, md_push_l173 fu (Int32.ofNat d.length) (Int32.ofNat e) (Ms.ew m em eo et ev) = some (Ms.sent (Ms.ew m em2 eo2 et2 ev2) (Int32.ofNat (d ++ suf.filter (fun x => p x.1)).length), ()) ∧ ∀ t, (h : t < (d ++ suf.filter (fun x => p x.1)).length) → En a em2 eo2 et2 ev2 t ((d ++ suf.filter (fun x => p x.1))[t]) := by
  intro suf
  induction suf with
  | nil =>
    intro d e fu em eo et ev hd he hfu hs hk hD hS
    obtain ⟨f, rfl⟩ : ∃ f, fu = f + 1 := ⟨fu - 1, by simp at hfu; omega⟩
    rw [List.length_nil] at he
    refine ⟨em, eo, et, ev, ?_, ?_⟩
    · rw [md_push_l173]
      show (if m.ent ≤ Int32.ofNat e then _ else _) = _
      rw [hent, if_pos ((q_le (by omega) (by omega)).mpr (by omega)), List.filter_nil, List.append_nil]
    · rw [List.filter_nil, List.append_nil]
      exact hD
  | cons x suf ih =>
    intro d e fu em eo et ev hd he hfu hs hk hD hS
    obtain ⟨f, rfl⟩ : ∃ f, fu = f + 1 := ⟨fu - 1, by simp at hfu; omega⟩
    rw [List.length_cons] at he hfu
    obtain ⟨x1, x2, x3⟩ := hs x (List.mem_cons_self ..)
    have S0 := hS 0 (by rw [List.length_cons]; omega)
    rw [Nat.add_zero] at S0
    have S0 : En a em eo et ev e x := S0
    have Sn : ∀ j, (h : j < suf.length) → En a em eo et ev (e + 1 + j) (suf[j]) := by
      intro j hj
      have := hS (j + 1) (by rw [List.length_cons]; omega)
      rw [show e + (j + 1) = e + 1 + j from by omega] at this
      exact this
    have e1 : Int32.ofNat e + 1 = Int32.ofNat (e + 1) := q_add e 1
    have hdd : md_push_l173 (f + 1) (Int32.ofNat d.length) (Int32.ofNat e) (Ms.ew m em eo et ev) = if m.ath x.1 = 0 then md_push_l173 f (Int32.ofNat d.length) (Int32.ofNat (e + 1)) (Ms.ew m em eo et ev) else bw (md_moveEntry (Ms.ew m em eo et ev) (Int32.ofNat e) (Int32.ofNat d.length)) (fun z15 _ => md_push_l173 f (Int32.ofNat (d.length + 1)) (Int32.ofNat (e + 1)) z15) := by
      rw [md_push_l173]
      show (if m.ent ≤ Int32.ofNat e then _ else gd (inb (Int32.ofNat e) m.nem) (gd (inb (em (Int32.ofNat e).toNatClampNeg) m.nth) (if m.ath (em (Int32.ofNat e).toNatClampNeg).toNatClampNeg = 0 then _ else _))) = _
      rw [hent, if_neg (fun c => absurd ((q_le (by omega) (by omega)).mp c) (by omega)), q_inb (show e < m.nem by omega) (by omega), q_nat (show e < 2147483648 by omega), S0.1, q_inb x1 (by omega), q_nat (show x.1 < 2147483648 by omega), e1]
      have e2 : Int32.ofNat d.length + 1 = Int32.ofNat (d.length + 1) := q_add d.length 1
      rw [e2]
      rfl
    by_cases hp : p x.1 = true
    · rw [x2, if_pos hp, if_neg ne10, md_moveEntry_e (m := Ms.ew m em eo et ev) hd (show e < m.nem by omega) hn h0 h1 h2, PB.2.2.2.2.1] at hdd
      have hdl : (d ++ [x]).length = d.length + 1 := by rw [List.length_append, List.length_singleton]
      obtain ⟨em2, eo2, et2, ev2, E, F⟩ := ih (d ++ [x]) (e + 1) f (upd em d.length (em e)) (upd eo d.length (eo e)) (va_cpy et et (8 * e) (8 * d.length) 8) (va_cpy ev ev (8 * e) (8 * d.length) 8) (by omega) (by omega) (by omega) (fun y hy => hs y (List.mem_cons_of_mem _ hy)) (by
        intro y hy
        rcases List.mem_append.mp hy with c | c
        · exact hk y c
        · rw [List.mem_singleton] at c; rw [c]; exact x3) (by
        intro t ht
        rw [hdl] at ht
        by_cases htd : t = d.length
        · subst htd
          have : (d ++ [x])[d.length] = x := by simp
          rw [this]
          refine ⟨(if_pos rfl).trans S0.1, (if_pos rfl).trans S0.2.1, ?_⟩
          intro i hi
          have := S0.2.2 i hi
          unfold va_cpy
          rw [if_pos (by omega), if_pos (by omega), show 8 * e + (8 * d.length + i - 8 * d.length) = 8 * e + i from by omega]
          exact this
        · have hlt : t < d.length := by omega
          rw [List.getElem_append_left hlt]
          have D := hD t hlt
          have hk2 := hk _ (List.getElem_mem hlt)
          refine ⟨(if_neg htd).trans D.1, (if_neg htd).trans D.2.1, ?_⟩
          intro i hi
          have := D.2.2 i hi
          unfold va_cpy
          rw [if_neg (by omega), if_neg (by omega)]
          exact this) (by
        intro j hj
        have D := Sn j hj
        have hk2 := (hs _ (List.mem_cons_of_mem _ (List.getElem_mem hj))).2.2
        refine ⟨(if_neg (by omega)).trans D.1, (if_neg (by omega)).trans D.2.1, ?_⟩
        intro i hi
        have := D.2.2 i hi
        unfold va_cpy
        rw [if_neg (by omega), if_neg (by omega)]
        exact this)
      rw [hdl] at E
      rw [List.append_assoc, List.singleton_append] at E
      have hfl : List.filter (fun x => p x.1) (x :: suf) = x :: List.filter (fun x => p x.1) suf := List.filter_cons_of_pos hp
      refine ⟨em2, eo2, et2, ev2, ?_, ?_⟩
      · rw [hfl]
        exact hdd.trans E
      · rw [hfl]
        intro t ht
        have ht2 : t < (d ++ [x] ++ List.filter (fun x => p x.1) suf).length := by
          rw [List.append_assoc, List.singleton_append]; exact ht
        have := F t ht2
        have ee : (d ++ [x] ++ List.filter (fun x => p x.1) suf)[t] = (d ++ x :: List.filter (fun x => p x.1) suf)[t] := by
          congr 1
          rw [List.append_assoc, List.singleton_append]
        rw [ee] at this
        exact this
    · rw [x2, if_neg hp, if_pos rfl] at hdd
      obtain ⟨em2, eo2, et2, ev2, E, F⟩ := ih d (e + 1) f em eo et ev (by omega) (by omega) (by omega) (fun y hy => hs y (List.mem_cons_of_mem _ hy)) hk hD Sn
      have hfl : List.filter (fun x => p x.1) (x :: suf) = List.filter (fun x => p x.1) suf := List.filter_cons_of_neg hp
      refine ⟨em2, eo2, et2, ev2, ?_, ?_⟩
      · rw [hfl]; exact hdd.trans E
      · rw [hfl]; exact F
theorem q_div {a b : Nat} (ha : a < 2147483648) (hb : b < 2147483648) : Int32.ofNat a / Int32.ofNat b = Int32.ofNat (a / b) := (Int32.ofNat_div ha hb).symm
theorem md_tableOf_e {m : Ms} {q : Gm} {a : Ab} (R : RM m q a) (A : AI a) {n c : Nat} (on : obj a n) (k : a.kd n = 4) (hc : c ≤ 262144) : md_tableOf m (Int32.ofNat n) (Int64.ofNat c) = some (Int64.ofNat (c * (3 + a.nk n + a.nv n) + 1)) := by
  have om := (R.ob n on).mp k
  have okm := A.mp on k
  have Z := R.z
  have hK := R.k
  have zk := Z.K
  have n1 := okm.nk
  have n2 := okm.nv
  have hn := on.2.1
  unfold md_tableOf
  rw [Z.ke, Z.va, q_inb (by omega) (by omega), q_nat (by omega), om.1, om.2.1]
  have e3 : (3 : Int32) + Int32.ofNat (a.nk n) = Int32.ofNat (3 + a.nk n) := q_add 3 _
  rw [e3, q_add, q_64 (by omega), l_mul]
  exact congrArg some (l_add _ 1)
theorem md_takes_e {m : Ms} {q : Gm} {a : Ab} (R : RM m q a) (A : AI a) {n : Nat} (on : obj a n) : md_takes m (Int32.ofNat n) = some (Int64.ofNat (a.tk n)) := by
  have om := R.ob n on
  have Z := R.z
  have hK := R.k
  have zk := Z.K
  have hn := on.2.1
  unfold md_takes Ab.tk
  rw [Z.so, Z.si, Z.ca, q_inb (show n < q.K by omega) (by omega), q_nat (show n < 2147483648 by omega), om.so, om.si]
  rcases (A.ob n on).2 with ⟨kd, ok⟩ | ⟨kd, ok⟩ | ⟨kd, ok⟩
  · have hl := ok.1
    rw [kd, if_pos c22, if_pos rfl, q_64 (by omega)]
    exact congrArg some (l_add _ 1)
  · have hl := ok.1
    have n32 : ¬ (Int32.ofNat 3 = 2) := by decide
    rw [kd, if_neg n32, if_pos c33, if_neg (show ¬ (3 : Nat) = 2 by omega), if_pos rfl]
    have e7 : Int32.ofNat (a.ln n) + 7 = Int32.ofNat (a.ln n + 7) := q_add _ 7
    have e8 : Int32.ofNat (a.ln n + 7) / 8 = Int32.ofNat ((a.ln n + 7) / 8) := q_div (b := 8) (by omega) (by omega)
    rw [e7, e8, q_64 (by omega)]
    exact congrArg some (l_add _ 1)
  · have n42 : ¬ (Int32.ofNat 4 = 2) := by decide
    have n43 : ¬ (Int32.ofNat 4 = 3) := by decide
    have om4 := om.mp kd
    have h1 := ok.tb
    have h2 := ok.nk
    have hnc : a.nc n ≤ 131072 := by
      have : a.nc n * 1 ≤ a.nc n * (3 + a.nk n + a.nv n) := Nat.mul_le_mul_left _ (by omega)
      omega
    rw [kd, if_neg n42, if_neg n43, if_neg (show ¬ (4 : Nat) = 2 by omega), if_neg (show ¬ (4 : Nat) = 3 by omega), om4.2.2.2.1, q_64 (by omega), md_tableOf_e R A on kd (by omega)]
    exact congrArg some (l_add 6 _)
theorem sumQ_split (f : Nat → Nat) (P Q : Nat → Bool) : ∀ m, sumQ f P m = sumQ f (fun n => P n && Q n) m + sumQ f (fun n => P n && !Q n) m := by
  intro m
  induction m with
  | zero => rfl
  | succ m ih =>
    unfold sumQ
    rw [ih]
    cases P (m + 1) <;> cases Q (m + 1) <;> simp <;> omega
/-- the loop that counts what is given back; t: what is there, with what was not reached taken out up to n -/
theorem co_l16 {m : Ms} {q : Gm} {a : Ab} (R : RM m q a) (A : AI a) {r : Nat → Int32} (hr : ∀ n, 1 ≤ n → n ≤ a.md → (r n = 0 ∨ r n = 1) ∧ (r n = 1 ↔ reaA a n)) : ∀ k n fu t, n + k = a.md + 1 → 1 ≤ n → k < fu → (∀ l, 1 ≤ l → l ≤ a.md → t l = if (if l < n then thR a l else a.th l) = true then 1 else 0) →
    ∃ t2, md_collect_l16 fu (Int64.ofNat (a.ol + sumQ a.tk (fun l => a.th l && !thR a l) (n - 1))) (Int32.ofNat n) (Ms.wth (Ms.wre m r) t) = bw (md_push (Ms.wth (Ms.wre m r) t2)) (fun z3 _ => some (Ms.scol (Ms.sold (Ms.sgvb (Ms.susd z3 (z3.usd - Int64.ofNat (a.ol + sumQ a.tk (fun l => a.th l && !thR a l) a.md))) (z3.gvb + Int64.ofNat (a.ol + sumQ a.tk (fun l => a.th l && !thR a l) a.md))) 0) (z3.col + 1), (Int64.ofNat (a.ol + sumQ a.tk (fun l => a.th l && !thR a l) a.md)).toInt32)) ∧ (∀ l, 1 ≤ l → l ≤ a.md → t2 l = if thR a l = true then 1 else 0) ∧ ∀ l, t2 l = 0 ∨ t2 l = t l := by
  have Z := R.z
  have hK := R.k
  have zk := Z.K
  intro k
  induction k with
  | zero =>
    intro n fu t hi h1 hfu ht
    obtain ⟨f, rfl⟩ : ∃ f, fu = f + 1 := ⟨fu - 1, by omega⟩
    have hn : n = a.md + 1 := by omega
    subst hn
    refine ⟨t, ?_, ?_, fun l => Or.inr rfl⟩
    · rw [md_collect_l16]
      show (if m.mad < Int32.ofNat (a.md + 1) then _ else _) = _
      rw [R.s.mad, if_pos ((q_lt (by omega) (by omega)).mpr (by omega)), show a.md + 1 - 1 = a.md from by omega]
    · intro l g1 g2
      have := ht l g1 g2
      rw [if_pos (show l < a.md + 1 by omega)] at this
      exact this
  | succ k ih =>
    intro n fu t hi h1 hfu ht
    obtain ⟨f, rfl⟩ : ∃ f, fu = f + 1 := ⟨fu - 1, by omega⟩
    have e1 : Int32.ofNat n + 1 = Int32.ofNat (n + 1) := q_add n 1
    obtain ⟨hr1, hr2⟩ := hr n h1 (by omega)
    have htn := ht n h1 (by omega)
    rw [if_neg (show ¬ n < n by omega)] at htn
    have hsum : sumQ a.tk (fun l => a.th l && !thR a l) n = sumQ a.tk (fun l => a.th l && !thR a l) (n - 1) + (if (a.th n && !thR a n) = true then a.tk n else 0) := by
      obtain ⟨j, rfl⟩ : ∃ j, n = j + 1 := ⟨n - 1, by omega⟩
      rw [show j + 1 - 1 = j from by omega]
      rfl
    have hd : md_collect_l16 (f + 1) (Int64.ofNat (a.ol + sumQ a.tk (fun l => a.th l && !thR a l) (n - 1))) (Int32.ofNat n) (Ms.wth (Ms.wre m r) t) = if t n = 0 then md_collect_l16 f (Int64.ofNat (a.ol + sumQ a.tk (fun l => a.th l && !thR a l) (n - 1))) (Int32.ofNat (n + 1)) (Ms.wth (Ms.wre m r) t) else if r n = 0 then b0 (md_takes (Ms.wth (Ms.wre m r) t) (Int32.ofNat n)) (fun r8 => md_collect_l16 f (Int64.ofNat (a.ol + sumQ a.tk (fun l => a.th l && !thR a l) (n - 1)) + r8) (Int32.ofNat (n + 1)) (Ms.wth (Ms.wre m r) (upd t n 0))) else md_collect_l16 f (Int64.ofNat (a.ol + sumQ a.tk (fun l => a.th l && !thR a l) (n - 1))) (Int32.ofNat (n + 1)) (Ms.wth (Ms.wre m r) t) := by
      rw [md_collect_l16]
      show (if m.mad < Int32.ofNat n then _ else gd (inb (Int32.ofNat n) m.nth) (if t (Int32.ofNat n).toNatClampNeg = 0 then _ else gd (inb (Int32.ofNat n) m.nre) (if r (Int32.ofNat n).toNatClampNeg = 0 then b0 (md_takes (Ms.wth (Ms.wre m r) t) (Int32.ofNat n)) (fun r8 => gd (inb (Int32.ofNat n) m.nth) (md_collect_l16 f (Int64.ofNat (a.ol + sumQ a.tk (fun l => a.th l && !thR a l) (n - 1)) + r8) (Int32.ofNat n + 1) (Ms.wth (Ms.wre m r) (upd t (Int32.ofNat n).toNatClampNeg (vp_nar .boolean 0))))) else _))) = _
      rw [R.s.mad, if_neg (fun c => absurd ((q_lt (by omega) (by omega)).mp c) (by omega)), Z.th, Z.re, q_inb (show n < q.K by omega) (by omega), q_nat (show n < 2147483648 by omega), e1, nar0]
      rfl
    by_cases hth : a.th n = true
    · have on : obj a n := ⟨h1, by omega, hth⟩
      rw [if_pos hth] at htn
      rw [htn, if_neg ne10] at hd
      by_cases hre : thR a n = true
      · have h5 : r n = 1 := hr2.mpr (thR_iff.mp hre).2
        rw [h5, if_neg ne10] at hd
        rw [if_neg (by rw [hth, hre]; decide), Nat.add_zero] at hsum
        obtain ⟨t2, E, F, G⟩ := ih (n + 1) f t (by omega) (by omega) (by omega) (by
          intro l g1 g2
          rw [ht l g1 g2]
          by_cases hl : l = n
          · subst hl
            rw [if_neg (show ¬ l < l by omega), if_pos (show l < l + 1 by omega), hth, hre]
          · by_cases hl2 : l < n
            · rw [if_pos hl2, if_pos (show l < n + 1 by omega)]
            · rw [if_neg hl2, if_neg (show ¬ l < n + 1 by omega)])
        rw [show n + 1 - 1 = n from by omega, hsum] at E
        exact ⟨t2, hd.trans E, F, G⟩
      · have h5 : r n = 0 := by
          rcases hr1 with c | c
          · exact c
          · exact absurd (thR_iff.mpr ⟨on, hr2.mp c⟩) hre
        have hre2 : thR a n = false := by simpa using hre
        have tk := md_takes_e R A on
        have tk2 : md_takes (Ms.wth (Ms.wre m r) t) (Int32.ofNat n) = some (Int64.ofNat (a.tk n)) := tk
        rw [h5, if_pos rfl, tk2, PB.2.1, l_add] at hd
        rw [if_pos (by rw [hth, hre2]; rfl)] at hsum
        obtain ⟨t2, E, F, G⟩ := ih (n + 1) f (upd t n 0) (by omega) (by omega) (by omega) (by
          intro l g1 g2
          by_cases hl : l = n
          · subst hl
            rw [if_pos (show l < l + 1 by omega), hre2, if_neg (by decide)]
            exact if_pos rfl
          · rw [show upd t n 0 l = t l from if_neg hl, ht l g1 g2]
            by_cases hl2 : l < n
            · rw [if_pos hl2, if_pos (show l < n + 1 by omega)]
            · rw [if_neg hl2, if_neg (show ¬ l < n + 1 by omega)])
        rw [show n + 1 - 1 = n from by omega, hsum, ← Nat.add_assoc] at E
        refine ⟨t2, hd.trans E, F, ?_⟩
        intro l
        rcases G l with c | c
        · exact Or.inl c
        · by_cases hl : l = n
          · rw [c, hl]; exact Or.inl (if_pos rfl)
          · rw [c]; exact Or.inr (if_neg hl)
    · rw [if_neg hth] at htn
      rw [htn, if_pos rfl] at hd
      have hth2 : a.th n = false := by simpa using hth
      have hre2 : thR a n = false := by
        cases h : thR a n with
        | false => rfl
        | true => exact absurd (thR_iff.mp h).1.2.2 hth
      rw [if_neg (by rw [hth2]; simp), Nat.add_zero] at hsum
      obtain ⟨t2, E, F, G⟩ := ih (n + 1) f t (by omega) (by omega) (by omega) (by
        intro l g1 g2
        rw [ht l g1 g2]
        by_cases hl : l = n
        · subst hl
          rw [if_neg (show ¬ l < l by omega), if_pos (show l < l + 1 by omega), hth2, hre2]
        · by_cases hl2 : l < n
          · rw [if_pos hl2, if_pos (show l < n + 1 by omega)]
          · rw [if_neg hl2, if_neg (show ¬ l < n + 1 by omega)])
      rw [show n + 1 - 1 = n from by omega, hsum] at E
      exact ⟨t2, hd.trans E, F, G⟩
