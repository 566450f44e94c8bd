/-! The new table in its place. -/
theorem sum_upd {t : Nat} {f f' : Nat → Nat} : ∀ {l : List Nat}, l.Nodup → t ∈ l → (∀ h, h ∈ l → h ≠ t → f' h = f h) → (l.map f').sum + f t = (l.map f).sum + f' t := by
  intro l
  induction l with
  | nil => intro _ h; cases h
  | cons x r ih =>
    intro nd m hh
    rw [List.nodup_cons] at nd
    rw [List.map_cons, List.map_cons, List.sum_cons, List.sum_cons]
    by_cases hx : x = t
    · subst hx
      have : r.map f' = r.map f := List.map_congr_left (fun h hm => hh h (List.mem_cons_of_mem _ hm) (fun e => nd.1 (e ▸ hm)))
      rw [this]
      omega
    · have mr : t ∈ r := by
        rcases List.mem_cons.mp m with h | h
        · exact absurd h.symm hx
        · exact h
      have := ih nd.2 mr (fun h hm => hh h (List.mem_cons_of_mem _ hm))
      rw [hh x (List.mem_cons_self ..) hx]
      omega
theorem sumQ_upd {f f' : Nat → Nat} {P : Nat → Bool} {n : Nat} : ∀ {md : Nat}, 1 ≤ n → n ≤ md → (∀ k, k ≠ n → f' k = f k) → sumQ f' P md + (if P n = true then f n else 0) = sumQ f P md + (if P n = true then f' n else 0) := by
  intro md
  induction md with
  | zero => intro h1 h2; omega
  | succ md ih =>
    intro h1 h2 hh
    unfold sumQ
    by_cases hn : n = md + 1
    · subst hn
      have : sumQ f' P md = sumQ f P md := sumQ_f (fun k k1 k2 => hh k (by omega))
      rw [this]
      omega
    · have := ih h1 (by omega) hh
      rw [hh (md + 1) (by omega)]
      omega
def useA (a : Ab) (n cap ol2 : Nat) : Ab :=
  (a.lm, a.eg, a.us, a.gb, a.co, a.md, ol2, a.tn, a.rg, a.th, a.kd, a.ln, a.fz, a.wo, a.bs, a.nk, a.nv, a.nt, updN a.nc n cap, a.no, updN a.sl n ((ens (a.sl n)).map some), a.el)
def ouse (o : Go) (n t : Nat) : Go := (o.ho, updN o.ta n t, updN (updN o.ow (o.ta n) 0) t n)
theorem ens_ms (l : List (Nat × (Nat → Wrd))) : ens (l.map some : List Slo) = l := by
  unfold ens
  rw [List.filterMap_map]
  show l.filterMap some = l
  exact List.filterMap_some
theorem RC_use {z : Hs} {g : Gh} {o : Go} {a : Ab} {n t cap ol2 : Nat} (c : RC z g o a) (A : AI a) (on : obj a n) (k4 : a.kd n = 4) (mt : t ∈ g.hs) (ow : o.ow t = 0) (kd5 : g.kd t = 5) (nu0 : g.nu t = 0) (lnt : g.ln t = cap * (3 + a.nk n + a.nv n)) (hcap : cap ≤ 65536) (hol : ol2 + (1 + cap * (3 + a.nk n + a.nv n)) = a.ol + (1 + a.nc n * (3 + a.nk n + a.nv n)))
    (sl : ∀ j, j < cap → SlR z o (g.st t + 1 + j * (3 + a.nk n + a.nv n)) (a.nk n + a.nv n) ((ens (a.sl n)).map some : List Slo)[j]?) :
    ∃ z8, (bw (mp_useTable z (Int32.ofNat (o.ho n)) (Int32.ofNat t) (Int32.ofNat cap)) (fun z6 _ => (b0 (mp_entries z6 (Int32.ofNat (o.ho n))) (fun r7 => (bw (mp_setField z6 (Int32.ofNat (o.ho n)) 4 r7) (fun z8 _ => some (z8, ()))))))) = some (z8, ()) ∧ RC z8 g (ouse o n t) (useA a n cap ol2) ∧ z8.nst = z.nst ∧ z8.nbt = z.nbt := by
  have okm := A.mp on k4
  have ncl := nc_le okm
  have nk := okm.nk
  have nv := okm.nv
  have nt := nt_lt okm
  have hsl := okm.sl
  have hcnt : (ens (a.sl n)).length ≤ (a.sl n).length := by unfold ens; exact List.length_filterMap_le _ _
  have ob := c.ob n on
  obtain ⟨M, T⟩ := ob.mp k4
  have F := c.mf on k4
  have n1 := on.1
  have sz : g.sz (o.ho n) = 6 := by unfold Gh.sz; rw [ob.kd, k4, M.ln]; rfl
  have szt : g.sz t = 1 + cap * (3 + a.nk n + a.nv n) := by unfold Gh.sz; rw [kd5, lnt]; rfl
  have szo : g.sz (o.ta n) = 1 + a.nc n * (3 + a.nk n + a.nv n) := by unfold Gh.sz; rw [T.kd, T.ln]; rfl
  obtain ⟨st, hst⟩ : ∃ st, st = g.st (o.ho n) := ⟨_, rfl⟩
  have tne : o.ta n ≠ t := by
    intro e
    have := T.ow
    rw [e, ow] at this
    omega
  have tnh : o.ho n ≠ t := by
    intro e
    have := ob.ow
    rw [e, ow] at this
    omega
  have hth : o.ho n ≠ o.ta n := by
    intro e
    have h1 := ob.kd
    have h2 := T.kd
    rw [← e] at h2
    omega
  have mne : ∀ j, 1 ≤ j → j < 6 → ∀ h, hv g h → g.st h ≠ st + j := by
    intro j h1 h2
    exact (c.i.wd_ne (a := st + j) (Or.inr ⟨o.ho n, ob.m, by omega, by omega⟩)).2.2
  have tlt := (c.i.hok (Or.inr mt)).2.2.2.2
  have shl := shp_lt okm
  have hFb := F.b
  rw [← hst] at hFb
  -- the run
  have r1 := useTable_e (cap := cap) (sh := shp a n) (ht := t) c.i F.v (by rw [← hst]; exact hFb 1 (by omega)) (by rw [← hst]; exact mne 1 (by omega) (by omega)) (by have := M.w1.2; rw [← hst] at this ⊢; exact this) (by omega) (by omega) hcap
  rw [← hst] at r1
  obtain ⟨b6, hb6⟩ : ∃ b6, b6 = vp_updL (vp_updL z.abt (st + 1) (Int64.ofNat (t * 8192))) (st + 1 + 1) (Int64.ofNat (shp a n % 1024 + cap * 1024)) := ⟨_, rfl⟩
  obtain ⟨f6, hf6⟩ : ∃ f6, f6 = upd (upd z.arf (st + 1) 1) (st + 1 + 1) 0 := ⟨_, rfl⟩
  rw [← hb6, ← hf6] at r1
  have o6 : ∀ x, x ≠ st + 1 → x ≠ st + 2 → b6 x = z.abt x ∧ f6 x = z.arf x := by
    intro x hx1 hx2
    rw [hb6, hf6]
    exact ⟨(if_neg hx2).trans (if_neg hx1), (if_neg hx2).trans (if_neg hx1)⟩
  have o61 : b6 (st + 1) = Int64.ofNat (t * 8192) ∧ f6 (st + 1) = 1 := by
    rw [hb6, hf6]
    exact ⟨(if_neg (by omega)).trans (if_pos rfl), (if_neg (by omega)).trans (if_pos rfl)⟩
  have o62 : b6 (st + 2) = Int64.ofNat (shp a n % 1024 + cap * 1024) ∧ f6 (st + 2) = 0 := by
    rw [hb6, hf6]
    exact ⟨if_pos rfl, if_pos rfl⟩
  have ff6 : ∀ x, f6 x = 0 ∨ f6 x = 1 := by
    intro x
    by_cases h1 : x = st + 1
    · rw [h1]; exact Or.inr o61.2
    · by_cases h2 : x = st + 2
      · rw [h2]; exact Or.inl o62.2
      · rw [(o6 x h1 h2).2]; exact c.i.fl x
  have r2 : mp_entries (Hs.wm z b6 f6) (Int32.ofNat (o.ho n)) = some (Int32.ofNat (ens (a.sl n)).length) := by
    unfold mp_entries
    rw [show mp_field (Hs.wm z b6 f6) (Int32.ofNat (o.ho n)) 2 = some (Int32.ofNat (ens (a.sl n)).length) from field_w (j := 2) c.i ff6 F.v (by rw [← hst]; exact hFb 2 (by omega)) (by
      rw [← hst, (o6 (st + 1 + 2) (by omega) (by omega)).1, hst]
      exact M.w2.2), PB.2.1]
  have r3 : mp_setField (Hs.wm z b6 f6) (Int32.ofNat (o.ho n)) 4 (Int32.ofNat (ens (a.sl n)).length) = _ := setField_w (j := 4) (x := (ens (a.sl n)).length) (b := b6) (f := f6) c.i ff6 F.v (by rw [← hst]; exact hFb 4 (by omega)) (by omega)
  rw [← hst] at r3
  obtain ⟨b8, hb8⟩ : ∃ b8, b8 = vp_updL b6 (st + 5) (Int64.ofNat (ens (a.sl n)).length) := ⟨_, rfl⟩
  obtain ⟨f8, hf8⟩ : ∃ f8, f8 = upd f6 (st + 5) 0 := ⟨_, rfl⟩
  have r3 : mp_setField (Hs.wm z b6 f6) (Int32.ofNat (o.ho n)) 4 (Int32.ofNat (ens (a.sl n)).length) = some (Hs.wm z b8 f8, ()) := by
    rw [hb8, hf8]
    exact r3
  have o8 : ∀ x, x ≠ st + 5 → b8 x = b6 x ∧ f8 x = f6 x := by
    intro x hx
    rw [hb8, hf8]
    exact ⟨if_neg hx, if_neg hx⟩
  have i8 : b8 (st + 5) = Int64.ofNat (ens (a.sl n)).length ∧ f8 (st + 5) = 0 := by
    rw [hb8, hf8]
    exact ⟨if_pos rfl, if_pos rfl⟩
  have ff8 : ∀ x, f8 x = 0 ∨ f8 x = 1 := by
    intro x
    by_cases h : x = st + 5
    · rw [h]; exact Or.inl i8.2
    · rw [(o8 x h).2]; exact ff6 x
  have oo : ∀ x, (∀ j, 1 ≤ j → j < 6 → x ≠ st + j) → b8 x = z.abt x ∧ f8 x = z.arf x := by
    intro x hx
    have q1 := o8 x (hx 5 (by omega) (by omega))
    have q2 := o6 x (hx 1 (by omega) (by omega)) (hx 2 (by omega) (by omega))
    exact ⟨q1.1.trans q2.1, q1.2.trans q2.2⟩
  have blk : ∀ h, h ∈ g.hs → h ≠ o.ho n → ∀ j, j < g.sz h → b8 (g.st h + j) = z.abt (g.st h + j) ∧ f8 (g.st h + j) = z.arf (g.st h + j) := by
    intro h m hne j hj
    refine oo _ ?_
    intro l l1 l2 e
    rw [hst] at e
    exact hne (c.i.adr m ob.m hj (by omega) e).1
  refine ⟨Hs.wm z b8 f8, ?_, ?_, rfl, rfl⟩
  · rw [r1, PB.2.2.2.2.1, r2, PB.2.1, r3, PB.2.2.2.2.1]
  · have tak : ∀ k, k ≠ n → (ouse o n t).ta k = o.ta k := fun k hk => updN_o _ _ hk
    have tan : (ouse o n t).ta n = t := updN_s _ _ _
    have owo : ∀ h, h ≠ t → h ≠ o.ta n → (ouse o n t).ow h = o.ow h := fun h h1 h2 => (updN_o _ _ h1).trans (updN_o _ _ h2)
    have owt : (ouse o n t).ow t = n := updN_s _ _ _
    have owu : (ouse o n t).ow (o.ta n) = 0 := (updN_o _ _ tne).trans (updN_s _ _ _)
    have s1 : (useA a n cap ol2).sl n = (ens (a.sl n)).map some := updN_s _ _ _
    have s2 : (useA a n cap ol2).nc n = cap := updN_s _ _ _
    have sk : ∀ k, k ≠ n → (useA a n cap ol2).sl k = a.sl k := fun k hk => updN_o _ _ hk
    have ck : ∀ k, k ≠ n → (useA a n cap ol2).nc k = a.nc k := fun k hk => updN_o _ _ hk
    refine ⟨⟨c.i.wm ff8 ?_, c.hi.2.1, c.hi.2.2⟩, c.md, c.co, c.gb, c.al, c.lm, c.e, c.h0, ?_, ?_, ?_, ?_⟩
    · intro h v
      exact (oo _ (fun j h1 h2 => mne j h1 h2 h v)).1
    · intro i hi
      have l1 := c.lt on
      rw [← hst] at l1
      have := oo i (fun j h1 h2 => by omega)
      exact ⟨this.2.trans (c.rg i hi).1, this.1.trans (c.rg i hi).2⟩
    · intro k hk
      have ok : obj a k := hk
      have obk := c.ob k ok
      by_cases hkn : k = n
      · subst hkn
        have h3 := oo
        refine ⟨obk.m, obk.nu, obk.kd, obk.fr, (owo _ tnh hth).trans obk.ow, fun h => absurd (show a.kd k = 2 from h) (by omega), fun h => absurd (show a.kd k = 3 from h) (by omega), fun _ => ⟨⟨M.ln, ?_, ?_, ?_, ?_, ?_⟩, ⟨?_, ?_, ?_, ?_, ?_, ?_⟩⟩⟩
        · rw [tan]
          show f8 (g.st (o.ho k) + 1) = 1 ∧ b8 (g.st (o.ho k) + 1) = Int64.ofNat (t * 8192)
          rw [← hst]
          have q := o8 (st + 1) (by omega)
          exact ⟨q.2.trans o61.2, q.1.trans o61.1⟩
        · show f8 (g.st (o.ho k) + 2) = 0 ∧ b8 (g.st (o.ho k) + 2) = Int64.ofNat (shp (useA a k cap ol2) k)
          rw [← hst]
          have q := o8 (st + 2) (by omega)
          have es : shp (useA a k cap ol2) k = shp a k % 1024 + cap * 1024 := by
            unfold shp
            rw [s2]
            show a.nk k + a.nv k * 8 + a.nt k * 64 + cap * 1024 = (a.nk k + a.nv k * 8 + a.nt k * 64 + a.nc k * 1024) % 1024 + cap * 1024
            omega
          rw [es]
          exact ⟨q.2.trans o62.2, q.1.trans o62.1⟩
        · rw [s1, ens_ms]
          show f8 (g.st (o.ho k) + 3) = 0 ∧ b8 (g.st (o.ho k) + 3) = _
          rw [← hst]
          have q := o8 (st + 3) (by omega)
          have q2 := o6 (st + 3) (by omega) (by omega)
          have w := M.w2
          rw [← hst] at w
          exact ⟨q.2.trans (q2.2.trans w.1), q.1.trans (q2.1.trans w.2)⟩
        · show f8 (g.st (o.ho k) + 4) = 0 ∧ b8 (g.st (o.ho k) + 4) = Int64.ofNat (a.no k)
          rw [← hst]
          have q := o8 (st + 4) (by omega)
          have q2 := o6 (st + 4) (by omega) (by omega)
          have w := M.w3
          rw [← hst] at w
          exact ⟨q.2.trans (q2.2.trans w.1), q.1.trans (q2.1.trans w.2)⟩
        · rw [s1, List.length_map]
          show f8 (g.st (o.ho k) + 5) = 0 ∧ b8 (g.st (o.ho k) + 5) = _
          rw [← hst]
          exact ⟨i8.2, i8.1⟩
        · rw [tan]; exact mt
        · rw [tan]; exact kd5
        · rw [tan]; exact nu0
        · rw [tan]; exact owt
        · rw [tan, s2]; exact lnt
        · rw [tan, s1, s2]
          intro j hj
          have hjw : j * (3 + a.nk k + a.nv k) + (3 + a.nk k + a.nv k) ≤ cap * (3 + a.nk k + a.nv k) := by
            rw [← Nat.succ_mul]
            exact Nat.mul_le_mul_right _ hj
          have S := sl j hj
          show SlR (Hs.wm z b8 f8) (ouse o k t) (g.st t + 1 + j * (3 + a.nk k + a.nv k)) (a.nk k + a.nv k) _
          refine SlR_m (z := z) (x := g.st t + 1 + j * (3 + a.nk k + a.nv k)) S ?_
          intro i hi
          have := blk t mt (fun e => tnh e.symm) (1 + j * (3 + a.nk k + a.nv k) + i) (by omega)
          rw [show g.st t + (1 + j * (3 + a.nk k + a.nv k) + i) = g.st t + 1 + j * (3 + a.nk k + a.nv k) + i from by omega] at this
          exact this
      · have h1 : o.ho k ≠ t := fun e => by
          have := obk.ow
          rw [e, ow] at this
          have := ok.1
          omega
        have h2 : o.ho k ≠ o.ta n := fun e => by
          have := obk.ow
          rw [e, T.ow] at this
          exact hkn this.symm
        have h3 : o.ho k ≠ o.ho n := fun e => by
          have := obk.ow
          rw [e, ob.ow] at this
          exact hkn this.symm
        refine ObR_s obk (A.ob k ok) ⟨rfl, rfl, rfl, rfl, rfl, rfl, rfl, rfl, ck k hkn, rfl, sk k hkn⟩ (fun _ _ => rfl) ok.2.1 (tak k hkn) ((owo _ h1 h2).trans obk.ow) ?_ ⟨obk.m, rfl, rfl, rfl, rfl, fun j _ hj => blk _ obk.m h3 j hj⟩ ?_
        · intro kk
          have Tk := (obk.mp kk).2
          have h4 : o.ta k ≠ t := fun e => by
            have := Tk.ow
            rw [e, ow] at this
            have := ok.1
            omega
          have h5 : o.ta k ≠ o.ta n := fun e => by
            have := Tk.ow
            rw [e, T.ow] at this
            exact hkn this.symm
          exact (owo _ h4 h5).trans Tk.ow
        · intro kk
          have Tk := (obk.mp kk).2
          have h6 : o.ta k ≠ o.ho n := fun e => by
            have := Tk.ow
            rw [e, ob.ow] at this
            exact hkn this.symm
          exact ⟨Tk.m, rfl, rfl, rfl, rfl, fun j _ hj => blk _ Tk.m h6 j hj⟩
    · intro h m
      by_cases h1 : h = t
      · rw [h1, owt]
        exact Or.inr ⟨on, Or.inr ⟨k4, tan.symm⟩⟩
      · by_cases h2 : h = o.ta n
        · rw [h2]
          exact Or.inl owu
        · rw [owo h h1 h2]
          rcases c.ow h m with e | ⟨e1, e2⟩
          · exact Or.inl e
          · refine Or.inr ⟨e1, ?_⟩
            rcases e2 with e2 | ⟨e2, e3⟩
            · exact Or.inl e2
            · refine Or.inr ⟨e2, ?_⟩
              by_cases h3 : o.ow h = n
              · rw [h3] at e3
                exact absurd e3 h2
              · rw [tak _ h3]
                exact e3
    · intro Q
      have nd : g.hs.Nodup := (List.nodup_append.mp c.i.nd).1
      have c0 := c.sum Q
      have u1 := sum_upd (t := t) (f := fun h => if Q (o.ow h) = true then g.sz h else 0) (f' := fun h => if Q (updN o.ow t n h) = true then g.sz h else 0) nd mt (fun h _ hne => by show (if Q (updN o.ow t n h) = true then g.sz h else 0) = _; rw [updN_o _ _ hne])
      have u2 := sum_upd (t := o.ta n) (f := fun h => if Q (updN o.ow t n h) = true then g.sz h else 0) (f' := fun h => if Q ((ouse o n t).ow h) = true then g.sz h else 0) nd T.m (fun h _ hne => by
        show (if Q ((ouse o n t).ow h) = true then g.sz h else 0) = (if Q (updN o.ow t n h) = true then g.sz h else 0)
        by_cases h1 : h = t
        · rw [h1, owt, updN_s]
        · rw [owo h h1 hne, updN_o _ _ h1])
      have e1 : updN o.ow t n t = n := updN_s _ _ _
      have e2 : updN o.ow t n (o.ta n) = n := (updN_o _ _ tne).trans T.ow
      simp only [ow, e1, e2, owu, szt, szo] at u1 u2
      have tkn : a.tk n = 6 + (a.nc n * (3 + a.nk n + a.nv n) + 1) := by
        unfold Ab.tk
        rw [if_neg (by omega), if_neg (by omega)]
      have tkn2 : (useA a n cap ol2).tk n = 6 + (cap * (3 + a.nk n + a.nv n) + 1) := by
        unfold Ab.tk
        rw [s2]
        show (if a.kd n = 2 then _ else if a.kd n = 3 then _ else 6 + (cap * (3 + a.nk n + a.nv n) + 1)) = _
        rw [if_neg (by omega), if_neg (by omega)]
      have u3 := sumQ_upd (f := a.tk) (f' := (useA a n cap ol2).tk) (P := fun k => a.th k && Q k) (n := n) (md := a.md) on.1 on.2.1 (fun k hk => by
        unfold Ab.tk
        rw [ck k hk]
        rfl)
      rw [on.2.2, Bool.true_and, tkn, tkn2] at u3
      show (g.hs.map (fun h => if Q ((ouse o n t).ow h) = true then g.sz h else 0)).sum = sumQ (useA a n cap ol2).tk (fun k => a.th k && Q k) a.md + (if Q 0 = true then ol2 else 0)
      by_cases q0 : Q 0 = true
      · by_cases qn : Q n = true
        · simp only [if_pos q0, if_pos qn] at c0 u1 u2 u3 ⊢
          omega
        · simp only [if_pos q0, if_neg qn] at c0 u1 u2 u3 ⊢
          omega
      · by_cases qn : Q n = true
        · simp only [if_neg q0, if_pos qn] at c0 u1 u2 u3 ⊢
          omega
        · simp only [if_neg q0, if_neg qn] at c0 u1 u2 u3 ⊢
          omega
