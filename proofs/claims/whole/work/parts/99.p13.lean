/-! A map's slots changed. -/
def mset (a : Ab) (n : Nat) (l2 : List Slo) (no2 : Nat) (el2 : List (Nat × (Nat × (Nat → Wrd)))) (tn2 : Nat) : Ab :=
  (a.lm, a.eg, a.us, a.gb, a.co, a.md, a.ol, tn2, a.rg, a.th, a.kd, a.ln, a.fz, a.wo, a.bs, a.nk, a.nv, a.nt, a.nc, updN a.no n no2, updN a.sl n l2, el2)
theorem mset_x {a : Ab} {n no2 tn2 : Nat} {l2 : List Slo} {el2 : List (Nat × (Nat × (Nat → Wrd)))} : AbX a (mset a n l2 no2 el2 tn2) := ⟨Nat.le_refl _, fun _ _ => ⟨rfl, rfl, rfl⟩⟩
theorem mset_e {a : Ab} {n no2 tn2 k : Nat} {l2 : List Slo} {el2 : List (Nat × (Nat × (Nat → Wrd)))} (h : k ≠ n) : AbE a (mset a n l2 no2 el2 tn2) k := ⟨rfl, rfl, rfl, rfl, rfl, rfl, rfl, rfl, rfl, updN_o _ _ h, updN_o _ _ h⟩
theorem AI_mset {a : Ab} {n no2 tn2 : Nat} {l2 : List Slo} {el2 : List (Nat × (Nat × (Nat → Wrd)))} (A : AI a) (on : obj a n) (k4 : a.kd n = 4) (hl : l2.length ≤ a.nc n) (t1 : a.tn ≤ tn2) (t2 : tn2 ≤ 1000) (ho : no2 ≤ tn2) (srt : (ens l2).Pairwise (fun x y => x.1 < y.1)) (lt : ∀ e, e ∈ ens l2 → e.1 < no2) (wd : ∀ e, e ∈ ens l2 → ∀ i, i < a.nk n + a.nv n → okW a (e.2 i)) (mk : ∀ e, e ∈ ens l2 → ∀ i, a.nk n + a.nv n ≤ i → e.2 i = .inl 0) (tx : ∀ e, e ∈ ens l2 → ∀ i, i < a.nk n → (a.nt n).testBit i = true → isTx a (e.2 i)) (el : ∀ t, t ∈ el2 → obj a t.1 ∧ a.kd t.1 = 4) (en : el2.length ≤ tn2) (cn : ens l2 = (el2.filter (fun t => t.1 == n)).map (fun t => t.2)) (cn2 : ∀ k, k ≠ n → el2.filter (fun t => t.1 == k) = a.el.filter (fun t => t.1 == k)) : AI (mset a n l2 no2 el2 tn2) := by
  have X := mset_x (a := a) (n := n) (no2 := no2) (tn2 := tn2) (l2 := l2) (el2 := el2)
  have md := A.md
  have s1 : (mset a n l2 no2 el2 tn2).sl n = l2 := updN_s _ _ _
  have s2 : (mset a n l2 no2 el2 tn2).no n = no2 := updN_s _ _ _
  refine ⟨A.lm, A.eg, A.us, show a.md ≤ tn2 by omega, t2, fun i hi => okW_x X (A.rg i hi), ?_, A.sum, el, en, ?_⟩
  · intro k hk
    by_cases hkn : k = n
    · subst hkn
      have okm := A.mp on k4
      refine ⟨(A.ob k on).1, Or.inr (Or.inr ⟨k4, ?_⟩)⟩
      exact ⟨okm.ln, okm.nk, okm.nv, okm.nt, okm.nc, okm.tb, by rw [s1]; exact hl, by rw [s2]; exact ho, by rw [s1]; exact srt, by rw [s1, s2]; exact lt, by rw [s1]; exact fun e he i hi => okW_x X (wd e he i hi), by rw [s1]; exact mk, by rw [s1]; exact fun e he i hi ht => isTx_x X (tx e he i hi ht) (wd e he i (Nat.lt_of_lt_of_le hi (Nat.le_add_right _ _)))⟩
    · exact okO_x X t1 (A.ob k hk) hk.2.1 (mset_e hkn)
  · intro k hk kk
    by_cases hkn : k = n
    · subst hkn
      rw [s1]
      exact cn
    · rw [(mset_e hkn).sl]
      show _ = (el2.filter (fun t => t.1 == k)).map (fun t => t.2)
      rw [cn2 k hkn]
      exact A.cn k hk kk
theorem SlR_w {z : Hs} {o : Go} {x k : Nat} {s : Option Slo} {b : Nat → Int64} {f : Nat → Int32} (h : SlR z o x k s) (e : ∀ i, i < 3 + k → b (x + i) = z.abt (x + i) ∧ f (x + i) = z.arf (x + i)) : SlR (Hs.wm z b f) o x k s := by
  have e0 := e 0 (by omega)
  rw [Nat.add_zero] at e0
  match s, h with
  | some (some en), h =>
    refine ⟨e0.2.trans h.1, e0.1.trans h.2.1, (e 1 (by omega)).2.trans h.2.2.1, (e 2 (by omega)).2.trans h.2.2.2.1, ?_⟩
    intro i hi
    have := e (3 + i) (by omega)
    rw [← Nat.add_assoc] at this
    have hw := h.2.2.2.2 i hi
    exact ⟨this.2.trans hw.1, this.1.trans hw.2⟩
  | some none, h => exact ⟨e0.1.trans h.1, fun i hi => (e i hi).2.trans (h.2 i hi)⟩
  | none, h => exact fun i hi => (e i hi).2.trans (h i hi)
theorem RC_mset {z : Hs} {g : Gh} {o : Go} {a : Ab} {n no2 tn2 : Nat} {l2 : List Slo} {el2 : List (Nat × (Nat × (Nat → Wrd)))} {b : Nat → Int64} {f : Nat → Int32} (c : RC z g o a) (A : AI a) (on : obj a n) (k4 : a.kd n = 4) (ff : ∀ x, f x = 0 ∨ f x = 1)
    (un : ∀ x, (∀ j, 3 ≤ j → j < 6 → x ≠ g.st (o.ho n) + j) → (∀ j, 1 ≤ j → j < g.sz (o.ta n) → x ≠ g.st (o.ta n) + j) → b x = z.abt x ∧ f x = z.arf x)
    (w2 : f (g.st (o.ho n) + 3) = 0 ∧ b (g.st (o.ho n) + 3) = Int64.ofNat (ens l2).length) (w3 : f (g.st (o.ho n) + 4) = 0 ∧ b (g.st (o.ho n) + 4) = Int64.ofNat no2) (w4 : f (g.st (o.ho n) + 5) = 0 ∧ b (g.st (o.ho n) + 5) = Int64.ofNat l2.length)
    (sl : ∀ j, j < a.nc n → SlR (Hs.wm z b f) o (g.st (o.ta n) + 1 + j * (3 + a.nk n + a.nv n)) (a.nk n + a.nv n) l2[j]?) : RC (Hs.wm z b f) g o (mset a n l2 no2 el2 tn2) := by
  have ob := c.ob n on
  obtain ⟨M, T⟩ := ob.mp k4
  have sz : g.sz (o.ho n) = 6 := by unfold Gh.sz; rw [ob.kd, k4, M.ln]; rfl
  have hne : o.ho n ≠ o.ta n := by
    intro e
    have h1 := ob.kd
    have h2 := T.kd
    rw [← e] at h2
    omega
  have dis : ∀ x, x < 6 → ∀ j, 1 ≤ j → j < g.sz (o.ta n) → g.st (o.ho n) + x ≠ g.st (o.ta n) + j := by
    intro x hx j h1 h2 e
    exact hne (c.i.adr ob.m T.m (by omega) h2 e).1
  have u1 := un (g.st (o.ho n) + 1) (fun j h1 h2 => by omega) (dis 1 (by omega))
  have u2 := un (g.st (o.ho n) + 2) (fun j h1 h2 => by omega) (dis 2 (by omega))
  have s1 : (mset a n l2 no2 el2 tn2).sl n = l2 := updN_s _ _ _
  have s2 : (mset a n l2 no2 el2 tn2).no n = no2 := updN_s _ _ _
  refine RC_blk c A ⟨rfl, rfl, rfl, rfl, rfl, rfl, rfl, rfl, rfl, rfl, rfl, rfl, rfl, rfl⟩ rfl on (fun k hk => mset_e hk) ff ?_ ?_
  · intro x h1 h2
    exact un x (fun j j1 j2 => h1 j (by omega) (by omega)) (h2 k4)
  · refine ⟨ob.m, ob.nu, ob.kd, ob.fr, ob.ow, fun k => absurd (show a.kd n = 2 from k) (by omega), fun k => absurd (show a.kd n = 3 from k) (by omega), fun _ => ⟨⟨M.ln, ?_, ?_, ?_, ?_, ?_⟩, ⟨T.m, T.kd, T.nu, T.ow, T.ln, ?_⟩⟩⟩
    · exact ⟨u1.2.trans M.w0.1, u1.1.trans M.w0.2⟩
    · exact ⟨u2.2.trans M.w1.1, u2.1.trans M.w1.2⟩
    · rw [s1]; exact w2
    · rw [s2]; exact w3
    · rw [s1]; exact w4
    · rw [s1]; exact sl
/-! Lists with an entry taken out, or another in its place. -/
theorem ens_none (l : List Slo) : ens (none :: l) = ens l := rfl
theorem ens_some (e : Nat × (Nat → Wrd)) (l : List Slo) : ens (some e :: l) = e :: ens l := rfl
theorem ens_del {e : Nat × (Nat → Wrd)} : ∀ {l : List Slo} {j : Nat}, (ens l).Pairwise (fun x y => x.1 < y.1) → l[j]? = some (some e) → ens (l.set j none) = (ens l).filter (fun x => x.1 != e.1) := by
  intro l
  induction l with
  | nil => intro j _ h; cases h
  | cons s t ih =>
    intro j hp h
    cases j with
    | zero =>
      have : s = some e := by simpa using h
      subst this
      rw [List.set_cons_zero, ens_none, ens_some]
      rw [ens_some, List.pairwise_cons] at hp
      rw [List.filter_cons_of_neg (by simp), List.filter_eq_self.mpr]
      intro x hx
      have := hp.1 x hx
      simp
      omega
    | succ j =>
      have h' : t[j]? = some (some e) := by simpa using h
      rw [List.set_cons_succ]
      cases s with
      | none =>
        rw [ens_none, ens_none]
        exact ih hp h'
      | some e0 =>
        rw [ens_some, ens_some]
        rw [ens_some, List.pairwise_cons] at hp
        have := hp.1 e (ens_mem h')
        rw [List.filter_cons_of_pos (by simp; omega), ih hp.2 h']
theorem ens_dell {e : Nat × (Nat → Wrd)} : ∀ {l : List Slo} {j : Nat}, l[j]? = some (some e) → (ens (l.set j none)).length + 1 = (ens l).length := by
  intro l
  induction l with
  | nil => intro j h; cases h
  | cons s t ih =>
    intro j h
    cases j with
    | zero =>
      have : s = some e := by simpa using h
      subst this
      rw [List.set_cons_zero, ens_none, ens_some, List.length_cons]
    | succ j =>
      have h' : t[j]? = some (some e) := by simpa using h
      rw [List.set_cons_succ]
      cases s with
      | none => exact ih h'
      | some e0 =>
        rw [ens_some, ens_some, List.length_cons, List.length_cons, ih h']
theorem ens_put {e e' : Nat × (Nat → Wrd)} : ∀ {l : List Slo} {j : Nat}, (ens l).Pairwise (fun x y => x.1 < y.1) → l[j]? = some (some e) → ens (l.set j (some e')) = (ens l).map (fun x => if x.1 = e.1 then e' else x) := by
  intro l
  induction l with
  | nil => intro j _ h; cases h
  | cons s t ih =>
    intro j hp h
    cases j with
    | zero =>
      have : s = some e := by simpa using h
      subst this
      rw [List.set_cons_zero, ens_some, ens_some]
      rw [ens_some, List.pairwise_cons] at hp
      rw [List.map_cons, if_pos rfl]
      congr 1
      have : (ens t).map (fun x => if x.1 = e.1 then e' else x) = (ens t).map id := List.map_congr_left (fun x hx => if_neg (by have := hp.1 x hx; omega))
      rw [this, List.map_id]
    | succ j =>
      have h' : t[j]? = some (some e) := by simpa using h
      rw [List.set_cons_succ]
      cases s with
      | none =>
        rw [ens_none, ens_none]
        exact ih hp h'
      | some e0 =>
        rw [ens_some, ens_some]
        rw [ens_some, List.pairwise_cons] at hp
        have := hp.1 e (ens_mem h')
        rw [List.map_cons, if_neg (by omega), ih hp.2 h']
abbrev Ent : Type := Nat × (Nat × (Nat → Wrd))
def eln (l : List Ent) (n : Nat) : List (Nat × (Nat → Wrd)) := (l.filter (fun t => t.1 == n)).map (fun t => t.2)
theorem eln_y {n : Nat} {t : Ent} {l : List Ent} (h : t.1 = n) : eln (t :: l) n = t.2 :: eln l n := by
  unfold eln
  rw [List.filter_cons_of_pos (by simp [h]), List.map_cons]
theorem eln_n {n : Nat} {t : Ent} {l : List Ent} (h : t.1 ≠ n) : eln (t :: l) n = eln l n := by
  unfold eln
  rw [List.filter_cons_of_neg (by simp [h])]
theorem eln_mem {n : Nat} {t : Ent} {l : List Ent} (h : t ∈ l) (e : t.1 = n) : t.2 ∈ eln l n := by
  unfold eln
  rw [List.mem_map]
  exact ⟨t, List.mem_filter.mpr ⟨h, by simp [e]⟩, rfl⟩
theorem eln_del {n : Nat} {t : Ent} (ht : t.1 = n) : ∀ {l : List Ent} {b : Nat}, (eln l n).Pairwise (fun x y => x.1 < y.1) → l[b]? = some t → eln (l.eraseIdx b) n = (eln l n).filter (fun x => x.1 != t.2.1) := by
  intro l
  induction l with
  | nil => intro j _ h; cases h
  | cons s r ih =>
    intro b hp h
    cases b with
    | zero =>
      have : s = t := by simpa using h
      subst this
      rw [eln_y ht, List.pairwise_cons] at hp
      rw [List.eraseIdx_cons_zero, eln_y ht, List.filter_cons_of_neg (by simp), List.filter_eq_self.mpr]
      intro x hx
      have := hp.1 x hx
      simp
      omega
    | succ b =>
      have h' : r[b]? = some t := by simpa using h
      rw [List.eraseIdx_cons_succ]
      by_cases hs : s.1 = n
      · rw [eln_y hs, List.pairwise_cons] at hp
        have := hp.1 t.2 (eln_mem (List.mem_of_getElem? h') ht)
        rw [eln_y hs, eln_y hs, List.filter_cons_of_pos (by simp; omega), ih hp.2 h']
      · rw [eln_n hs] at hp
        rw [eln_n hs, eln_n hs]
        exact ih hp h'
theorem el_delo {n k : Nat} {t : Ent} (ht : t.1 = n) (hk : k ≠ n) : ∀ {l : List Ent} {b : Nat}, l[b]? = some t → (l.eraseIdx b).filter (fun t => t.1 == k) = l.filter (fun t => t.1 == k) := by
  intro l
  induction l with
  | nil => intro j h; cases h
  | cons s r ih =>
    intro b h
    cases b with
    | zero =>
      have : s = t := by simpa using h
      subst this
      rw [List.eraseIdx_cons_zero, List.filter_cons_of_neg (by simp; omega)]
    | succ b =>
      have h' : r[b]? = some t := by simpa using h
      rw [List.eraseIdx_cons_succ]
      by_cases hs : s.1 = k
      · rw [List.filter_cons_of_pos (by simp [hs]), List.filter_cons_of_pos (by simp [hs]), ih h']
      · rw [List.filter_cons_of_neg (by simp [hs]), List.filter_cons_of_neg (by simp [hs]), ih h']
theorem eln_put {n : Nat} {t : Ent} {e' : Nat × (Nat → Wrd)} (ht : t.1 = n) : ∀ {l : List Ent} {b : Nat}, (eln l n).Pairwise (fun x y => x.1 < y.1) → l[b]? = some t → eln (l.set b (n, e')) n = (eln l n).map (fun x => if x.1 = t.2.1 then e' else x) := by
  intro l
  induction l with
  | nil => intro j _ h; cases h
  | cons s r ih =>
    intro b hp h
    cases b with
    | zero =>
      have : s = t := by simpa using h
      subst this
      rw [eln_y ht, List.pairwise_cons] at hp
      rw [List.set_cons_zero, eln_y ht, eln_y (t := (n, e')) rfl, List.map_cons, if_pos rfl]
      congr 1
      have : (eln r n).map (fun x => if x.1 = s.2.1 then e' else x) = (eln r n).map id := List.map_congr_left (fun x hx => if_neg (by have := hp.1 x hx; omega))
      rw [this, List.map_id]
    | succ b =>
      have h' : r[b]? = some t := by simpa using h
      rw [List.set_cons_succ]
      by_cases hs : s.1 = n
      · rw [eln_y hs, List.pairwise_cons] at hp
        have := hp.1 t.2 (eln_mem (List.mem_of_getElem? h') ht)
        rw [eln_y hs, eln_y hs, List.map_cons, if_neg (by omega), ih hp.2 h']
      · rw [eln_n hs] at hp
        rw [eln_n hs, eln_n hs]
        exact ih hp h'
theorem el_puto {n k : Nat} {t : Ent} {e' : Nat × (Nat → Wrd)} (ht : t.1 = n) (hk : k ≠ n) : ∀ {l : List Ent} {b : Nat}, l[b]? = some t → (l.set b (n, e')).filter (fun t => t.1 == k) = l.filter (fun t => t.1 == k) := by
  intro l
  induction l with
  | nil => intro j h; cases h
  | cons s r ih =>
    intro b h
    cases b with
    | zero =>
      have : s = t := by simpa using h
      subst this
      rw [List.set_cons_zero, List.filter_cons_of_neg (by simp; omega), List.filter_cons_of_neg (by simp; omega)]
    | succ b =>
      have h' : r[b]? = some t := by simpa using h
      rw [List.set_cons_succ]
      by_cases hs : s.1 = k
      · rw [List.filter_cons_of_pos (by simp [hs]), List.filter_cons_of_pos (by simp [hs]), ih h']
      · rw [List.filter_cons_of_neg (by simp [hs]), List.filter_cons_of_neg (by simp [hs]), ih h']
