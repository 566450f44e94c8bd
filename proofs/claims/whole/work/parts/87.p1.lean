/-! A new map of the class. -/
theorem qsl_amt : ∀ k, k < 32 → (Int32.ofNat k &&& 31) = Int32.ofNat k := by decide
theorem qsl_mod : ∀ k, k < 32 → ((Int32.ofNat k).toBitVec.smod 32).toNat = k := by decide
theorem q_shl {a k : Nat} (hk : k < 32) : (Int32.ofNat a <<< (Int32.ofNat k &&& 31)) = Int32.ofNat (a * 2 ^ k) := by
  rw [qsl_amt k hk]
  apply Int32.toBitVec_inj.mp
  rw [Int32.toBitVec_shiftLeft]
  apply BitVec.eq_of_toNat_eq
  rw [BitVec.shiftLeft_eq', qsl_mod k hk, BitVec.toNat_shiftLeft]
  simp [Nat.shiftLeft_eq]
theorem m1023i (a : Nat) : Int32.ofNat a &&& 1023 = Int32.ofNat (a % 1024) := q_mask a 10
theorem setField_e {z : Hs} {g : Gh} {h j x : Nat} (i : HI0 z g) (v : hv g h) (hb : g.st h + 1 + j < z.nbt) (hx : x < 2147483648) : mp_setField z (Int32.ofNat h) (Int32.ofNat j) (Int32.ofNat x) = some (Hs.wm z (vp_updL z.abt (g.st h + 1 + j) (Int64.ofNat x)) (upd z.arf (g.st h + 1 + j) 0), ()) := by
  unfold mp_setField
  rw [i.first v, PB.2.1, q_add, q_64 hx, hp_setNumber_e i.hb hb, PB.2.2.2.2.1]
theorem field_e {z : Hs} {g : Gh} {h j x : Nat} (i : HI0 z g) (v : hv g h) (hb : g.st h + 1 + j < z.nbt) (hx : z.abt (g.st h + 1 + j) = Int64.ofNat x) : mp_field z (Int32.ofNat h) (Int32.ofNat j) = some (Int32.ofNat x) := by
  unfold mp_field
  rw [i.first v, PB.2.1, q_add, hp_bitsAt_e i.hb hb, PB.2.1, hx, q_32]
theorem useTable_e {z : Hs} {g : Gh} {h ht cap sh : Nat} (i : HI0 z g) (v : hv g h) (hb : g.st h + 1 + 1 < z.nbt) (hh : ∀ k, hv g k → g.st k ≠ g.st h + 1) (hx : z.abt (g.st h + 1 + 1) = Int64.ofNat sh) (ht2 : ht < 262144) (hs : sh < 67108864) (hcap : cap ≤ 65536) : mp_useTable z (Int32.ofNat h) (Int32.ofNat ht) (Int32.ofNat cap) = some (Hs.wm z (vp_updL (vp_updL z.abt (g.st h + 1) (Int64.ofNat (ht * 8192))) (g.st h + 1 + 1) (Int64.ofNat (sh % 1024 + cap * 1024))) (upd (upd z.arf (g.st h + 1) 1) (g.st h + 1 + 1) 0), ()) := by
  unfold mp_useTable
  have e0 : Int32.ofNat (g.st h + 1) + 0 = Int32.ofNat (g.st h + 1) := q_add _ 0
  have b := i.hb
  have i2 : HI0 (Hs.wm z (vp_updL z.abt (g.st h + 1) (Int64.ofNat (ht * 8192 + 0))) (upd z.arf (g.st h + 1) 1)) g := by
    refine i.wm ?_ ?_
    · intro x
      unfold upd
      split
      · exact Or.inr rfl
      · exact i.fl x
    · intro k vk
      exact if_neg (hh k vk)
  rw [i.first v, PB.2.1, e0, show hp_setReference z (Int32.ofNat (g.st h + 1)) (Int32.ofNat ht) 0 = _ from hp_setReference_e (p := 0) b (by omega) ht2 (by omega), PB.2.2.2.2.1]
  have hb2 : g.st h + 1 + 1 < (Hs.wm z (vp_updL z.abt (g.st h + 1) (Int64.ofNat (ht * 8192 + 0))) (upd z.arf (g.st h + 1) 1)).nbt := hb
  rw [show mp_field (Hs.wm z (vp_updL z.abt (g.st h + 1) (Int64.ofNat (ht * 8192 + 0))) (upd z.arf (g.st h + 1) 1)) (Int32.ofNat h) 1 = some (Int32.ofNat sh) from field_e (j := 1) i2 v hb2 (by show vp_updL z.abt (g.st h + 1) _ (g.st h + 1 + 1) = _; rw [show vp_updL z.abt (g.st h + 1) (Int64.ofNat (ht * 8192 + 0)) (g.st h + 1 + 1) = z.abt (g.st h + 1 + 1) from if_neg (by omega)]; exact hx), PB.2.1, m1023i]
  have e10 : Int32.ofNat cap <<< ((10 : Int32) &&& 31) = Int32.ofNat (cap * 1024) := q_shl (k := 10) (by omega)
  have eor : sh % 1024 ||| cap * 1024 = sh % 1024 + cap * 1024 := by
    rw [Nat.or_comm, show cap * 1024 = cap * 2 ^ 10 from rfl, n_or (k := 10) (by omega), Nat.add_comm]
  rw [e10, q_or, eor]
  rw [show mp_setField (Hs.wm z (vp_updL z.abt (g.st h + 1) (Int64.ofNat (ht * 8192 + 0))) (upd z.arf (g.st h + 1) 1)) (Int32.ofNat h) 1 (Int32.ofNat (sh % 1024 + cap * 1024)) = _ from setField_e (j := 1) i2 v hb2 (by omega), PB.2.2.2.2.1, Nat.add_zero]
  simp only [HsM, Nat.add_zero]
def omap (o : Go) (n h t : Nat) : Go := (updN o.ho n h, updN o.ta n t, updN (updN o.ow h n) t n)
theorem RC_newmap {z : Hs} {g : Gh} {o : Go} {a : Ab} {k v tx : Nat} (c : RC z g o a) (A : AI a) (hk : 1 ≤ k ∧ k ≤ 4) (hv4 : v ≤ 4) (htx : tx < 16) (room : a.us + (6 + (8 * (3 + k + v) + 1)) ≤ a.lm) :
    ∃ c1 z6 g6 o6, (bcw (hp_place z 4 5) (fun z2 r2 => (bw (mp_setField z2 r2 1 (Int32.ofNat (k + v * 8 + tx * 64))) (fun z3 _ => (bcw (hp_place z3 5 (Int32.ofNat (8 * (3 + k + v)))) (fun z4 r4 => (bw (mp_useTable z4 r2 r4 8) (fun z5 _ => some (0, (z5, (Sum.inr r2 : String ⊕ Int32))))))))))) = some (c1, z6, .inr (Int32.ofNat (o6.ho (a.md + 1)))) ∧ RC z6 g6 o6 (newA a 4 0 k v tx) ∧ c1 + HP z g ≤ HP z6 g6 := by
  have md := A.md
  have tn := A.tn
  have lm := A.lm
  have ce := c.e
  have clm := c.lm
  obtain ⟨c1, z2, h, fl, lh, e1, P1⟩ := pl_e (kd := 4) (ln := 5) (md := a.md) (nu := a.md + 1) c.hi (by omega) (by omega) (by rw [if_neg (by omega)]; omega) c.md (by omega) (by rw [if_neg (by omega)])
  have hlo := Til_le c.i.til
  have i2 := P1.i.1
  obtain ⟨g2, hg2⟩ : ∃ g2, g2 = gnew g h 4 5 (a.md + 1) fl lh := ⟨_, rfl⟩
  have P1i := P1.i
  have P1c := P1.c
  rw [← hg2] at i2 P1i P1c
  have e2 : g2.e = g.e + 6 := by rw [hg2]; rfl
  have l2 : g2.lm = g.lm := by rw [hg2]; rfl
  have hs2 : g2.hs = g.hs ++ [h] := by rw [hg2]; rfl
  have st2 : g2.st = updN g.st h g.e := by rw [hg2]; rfl
  have kd2 : g2.kd = updN g.kd h 4 := by rw [hg2]; rfl
  have ln2 : g2.ln = updN g.ln h 5 := by rw [hg2]; rfl
  have fr2 : g2.fr = updN g.fr h 0 := by rw [hg2]; rfl
  have nu2 : g2.nu = updN g.nu h (a.md + 1) := by rw [hg2]; rfl
  have sth : g2.st h = g.e := by rw [st2]; exact updN_s _ _ _
  have mh : h ∈ g2.hs := by rw [hs2]; simp
  have eb2 := i2.eb
  have szh2 : g2.sz h = 6 := by
    unfold Gh.sz
    rw [kd2, ln2, updN_s, updN_s]
    rfl
  have ne2 : ∀ x, 1 ≤ x → x < 6 → ∀ k, hv g2 k → g2.st k ≠ g.e + x := by
    intro x hx1 hx2 k vk
    have := (i2.wd_ne (a := g.e + x) (Or.inr ⟨h, mh, by omega, by omega⟩)).2.2 k vk
    exact this
  -- the shape
  have hsf : mp_setField z2 (Int32.ofNat h) 1 (Int32.ofNat (k + v * 8 + tx * 64)) = some (Hs.wm z2 (vp_updL z2.abt (g.e + 2) (Int64.ofNat (k + v * 8 + tx * 64))) (upd z2.arf (g.e + 2) 0), ()) := by
    have := setField_e (j := 1) (x := k + v * 8 + tx * 64) i2 (Or.inr mh) (by omega) (by omega)
    rw [sth] at this
    exact this
  obtain ⟨z3, hz3⟩ : ∃ z3, z3 = Hs.wm z2 (vp_updL z2.abt (g.e + 2) (Int64.ofNat (k + v * 8 + tx * 64))) (upd z2.arf (g.e + 2) 0) := ⟨_, rfl⟩
  have I3 : HI z3 g2 := by
    rw [hz3]
    refine ⟨i2.wm ?_ ?_, P1i.2.1, P1i.2.2⟩
    · intro x
      unfold upd
      split
      · exact Or.inl rfl
      · exact i2.fl x
    · intro k vk
      exact if_neg (ne2 2 (by omega) (by omega) k vk)
  have md3 : z3.md = Int32.ofNat (a.md + 1) := by
    rw [hz3]
    show z2.md = _
    rw [P1.md, if_neg (by omega), c.md]
    exact q_add a.md 1
  obtain ⟨c2, z4, t, fl2, lh2, e4, P2⟩ := pl_e (kd := 5) (ln := 8 * (3 + k + v)) (md := a.md + 1) (nu := 0) I3 (by omega) (by omega) (by rw [if_neg (by omega)]; omega) md3 (by omega) (by rw [if_pos rfl])
  obtain ⟨g4, hg4⟩ : ∃ g4, g4 = gnew g2 t 5 (8 * (3 + k + v)) 0 fl2 lh2 := ⟨_, rfl⟩
  have P2i := P2.i
  have P2c := P2.c
  rw [← hg4] at P2i P2c
  have i4 := P2i.1
  have e4' : g4.e = g2.e + (1 + 8 * (3 + k + v)) := by rw [hg4]; rfl
  have l4 : g4.lm = g2.lm := by rw [hg4]; rfl
  have hs4 : g4.hs = g2.hs ++ [t] := by rw [hg4]; rfl
  have st4 : g4.st = updN g2.st t g2.e := by rw [hg4]; rfl
  have kd4 : g4.kd = updN g2.kd t 5 := by rw [hg4]; rfl
  have ln4 : g4.ln = updN g2.ln t (8 * (3 + k + v)) := by rw [hg4]; rfl
  have fr4 : g4.fr = updN g2.fr t 0 := by rw [hg4]; rfl
  have nu4 : g4.nu = updN g2.nu t 0 := by rw [hg4]; rfl
  have tnh : ¬ t ∈ g2.hs := P2.nh
  have hth : h ≠ t := fun e => tnh (e ▸ mh)
  have tg : ∀ x, x ∈ g.hs → x ≠ h ∧ x ≠ t := by
    intro x hx
    refine ⟨fun e => P1.nh (e ▸ hx), fun e => tnh ?_⟩
    rw [hs2, ← e]
    exact List.mem_append_left _ hx
  have st4h : g4.st h = g.e := by rw [st4, updN_o _ _ hth]; exact sth
  have st4t : g4.st t = g.e + 6 := by rw [st4, updN_s]; exact e2
  have m4h : h ∈ g4.hs := by rw [hs4]; exact List.mem_append_left _ mh
  have m4t : t ∈ g4.hs := by rw [hs4]; simp
  have eb4 := i4.eb
  have kd4h : g4.kd h = 4 := by rw [kd4, updN_o _ _ hth, kd2, updN_s]
  have kd4t : g4.kd t = 5 := by rw [kd4, updN_s]
  have ln4h : g4.ln h = 5 := by rw [ln4, updN_o _ _ hth, ln2, updN_s]
  have ln4t : g4.ln t = 8 * (3 + k + v) := by rw [ln4, updN_s]
  have sz4h : g4.sz h = 6 := by unfold Gh.sz; rw [kd4h, ln4h]; rfl
  have sz4t : g4.sz t = 1 + 8 * (3 + k + v) := by unfold Gh.sz; rw [kd4t, ln4t]; rfl
  have ne4 : ∀ x, 1 ≤ x → x < 6 → ∀ k, hv g4 k → g4.st k ≠ g.e + x := by
    intro x hx1 hx2 k vk
    exact (i4.wd_ne (a := g.e + x) (Or.inr ⟨h, m4h, by omega, by omega⟩)).2.2 k vk
  have tlt := (i4.hok (Or.inr m4t)).2.2.2.2
  -- words of the map before the table is used
  have w3 : ∀ x, g.e < x → x < g.e + 6 → z4.abt x = z3.abt x ∧ z4.arf x = z3.arf x := fun x h1 h2 => P2.lo x (by omega)
  have z3o : ∀ x, x ≠ g.e + 2 → z3.abt x = z2.abt x ∧ z3.arf x = z2.arf x := by
    intro x hx
    rw [hz3]
    exact ⟨if_neg hx, if_neg hx⟩
  have z32 : z3.abt (g.e + 2) = Int64.ofNat (k + v * 8 + tx * 64) ∧ z3.arf (g.e + 2) = 0 := by
    rw [hz3]
    exact ⟨if_pos rfl, if_pos rfl⟩
  have hut := useTable_e (cap := 8) (sh := k + v * 8 + tx * 64) (ht := t) i4 (Or.inr m4h) (by rw [st4h]; omega) (by rw [st4h]; exact ne4 1 (by omega) (by omega)) (by rw [st4h]; exact (w3 (g.e + 2) (by omega) (by omega)).1.trans z32.1) (by omega) (by omega) (by omega)
  rw [st4h, show (k + v * 8 + tx * 64) % 1024 + 8 * 1024 = k + v * 8 + tx * 64 + 8 * 1024 from by omega] at hut
  obtain ⟨b6, hb6⟩ : ∃ b6, b6 = vp_updL (vp_updL z4.abt (g.e + 1) (Int64.ofNat (t * 8192))) (g.e + 1 + 1) (Int64.ofNat (k + v * 8 + tx * 64 + 8 * 1024)) := ⟨_, rfl⟩
  obtain ⟨f6, hf6⟩ : ∃ f6, f6 = upd (upd z4.arf (g.e + 1) 1) (g.e + 1 + 1) 0 := ⟨_, rfl⟩
  rw [← hb6, ← hf6] at hut
  have o6 : ∀ x, x ≠ g.e + 1 → x ≠ g.e + 2 → b6 x = z4.abt x ∧ f6 x = z4.arf x := by
    intro x hx1 hx2
    rw [hb6, hf6]
    exact ⟨(if_neg hx2).trans (if_neg hx1), (if_neg hx2).trans (if_neg hx1)⟩
  have o61 : b6 (g.e + 1) = Int64.ofNat (t * 8192) ∧ f6 (g.e + 1) = 1 := by
    rw [hb6, hf6]
    exact ⟨(if_neg (by omega)).trans (if_pos rfl), (if_neg (by omega)).trans (if_pos rfl)⟩
  have o62 : b6 (g.e + 2) = Int64.ofNat (k + v * 8 + tx * 64 + 8 * 1024) ∧ f6 (g.e + 2) = 0 := by
    rw [hb6, hf6]
    exact ⟨if_pos rfl, if_pos rfl⟩
  have o63 : ∀ x, g.e + 2 < x → x < g.e + 6 → b6 x = 0 ∧ f6 x = 0 := by
    intro x h1 h2
    have q1 := o6 x (by omega) (by omega)
    have q2 := w3 x (by omega) h2
    have q3 := z3o x (by omega)
    have q4 := P1.hi x (by omega) (by rw [if_neg (by omega)]; omega)
    exact ⟨q1.1.trans (q2.1.trans (q3.1.trans q4.1)), q1.2.trans (q2.2.trans (q3.2.trans q4.2))⟩
  have olo : ∀ x, x < g.e → b6 x = z.abt x ∧ f6 x = z.arf x := by
    intro x hx
    have q1 := o6 x (by omega) (by omega)
    have q2 := P2.lo x (by omega)
    have q3 := z3o x (by omega)
    have q4 := P1.lo x hx
    exact ⟨q1.1.trans (q2.1.trans (q3.1.trans q4.1)), q1.2.trans (q2.2.trans (q3.2.trans q4.2))⟩
  have ohi : ∀ x, g.e + 6 < x → x < g.e + 6 + (1 + 8 * (3 + k + v)) → f6 x = 0 := by
    intro x h1 h2
    have q1 := o6 x (by omega) (by omega)
    have q2 := P2.hi x (by omega) (by rw [if_neg (by omega)]; omega)
    exact q1.2.trans q2.2
  have nn := newA_n (a := a) (kd := 4) (ln := 0) (nk := k) (nv := v) (nt := tx)
  obtain ⟨n1, n2, n3, n4, n5, n6, n7, n8, n9, n10, n11, n12⟩ := nn
  have X := newA_x (a := a) (kd := 4) (ln := 0) (nk := k) (nv := v) (nt := tx)
  have hho : ∀ m, m ≤ a.md → (omap o (a.md + 1) h t).ho m = o.ho m := fun m hm => updN_o _ _ (by omega)
  have hhn : (omap o (a.md + 1) h t).ho (a.md + 1) = h := updN_s _ _ _
  have htn : (omap o (a.md + 1) h t).ta (a.md + 1) = t := updN_s _ _ _
  have hta : ∀ m, m ≤ a.md → (omap o (a.md + 1) h t).ta m = o.ta m := fun m hm => updN_o _ _ (by omega)
  have how : ∀ x, x ∈ g.hs → (omap o (a.md + 1) h t).ow x = o.ow x := fun x hx => (updN_o _ _ (tg x hx).2).trans (updN_o _ _ (tg x hx).1)
  have howh : (omap o (a.md + 1) h t).ow h = a.md + 1 := (updN_o _ _ hth).trans (updN_s _ _ _)
  have howt : (omap o (a.md + 1) h t).ow t = a.md + 1 := updN_s _ _ _
  have bk : ∀ x, x ∈ g.hs → BkE z (Hs.wm z4 b6 f6) g g4 x := by
    intro x hx
    obtain ⟨x1, x2⟩ := tg x hx
    have tm := Til_mem c.i.til hx
    refine ⟨by rw [hs4, hs2]; exact List.mem_append_left _ (List.mem_append_left _ hx), ?_, ?_, ?_, ?_, ?_⟩
    · rw [kd4, updN_o _ _ x2, kd2, updN_o _ _ x1]
    · rw [ln4, updN_o _ _ x2, ln2, updN_o _ _ x1]
    · rw [fr4, updN_o _ _ x2, fr2, updN_o _ _ x1]
    · rw [nu4, updN_o _ _ x2, nu2, updN_o _ _ x1]
    · intro j _ hj
      rw [st4, updN_o _ _ x2, st2, updN_o _ _ x1]
      exact olo _ (by omega)
  refine ⟨c1 + (c2 + 0), Hs.wm z4 b6 f6, g4, omap o (a.md + 1) h t, ?_, ?_, ?_⟩
  · rw [show hp_place z 4 5 = _ from e1, PB.2.2.2.2.2.2.2.2.1, hsf, PB.2.2.2.2.1, ← hz3, show hp_place z3 5 (Int32.ofNat (8 * (3 + k + v))) = _ from e4, PB.2.2.2.2.2.2.2.2.1, show mp_useTable z4 (Int32.ofNat h) (Int32.ofNat t) 8 = _ from hut, PB.2.2.2.2.1, hhn]
    rfl
  · refine ⟨⟨i4.wm ?_ ?_, P2i.2.1, P2i.2.2⟩, ?_, ?_, ?_, ?_, ?_, ?_, ?_, ?_, ?_, ?_, ?_⟩
    · intro x
      by_cases h1 : x = g.e + 1
      · rw [h1]; exact Or.inr o61.2
      · by_cases h2 : x = g.e + 2
        · rw [h2]; exact Or.inl o62.2
        · rw [(o6 x h1 h2).2]; exact i4.fl x
    · intro x vx
      exact (o6 _ (ne4 1 (by omega) (by omega) x vx) (ne4 2 (by omega) (by omega) x vx)).1
    · show z4.md = _
      rw [P2.md, if_pos rfl, md3]
      rfl
    · show z4.co = _
      rw [P2.sc.1]
      show z3.co = a.co
      rw [hz3]
      show z2.co = a.co
      rw [P1.sc.1]; exact c.co
    · show z4.gb = _
      rw [P2.sc.2.1]
      show z3.gb = Int32.ofNat a.gb
      rw [hz3]
      show z2.gb = Int32.ofNat a.gb
      rw [P1.sc.2.1]; exact c.gb
    · show z4.al = _
      rw [P2.sc.2.2]
      show z3.al = a.eg
      rw [hz3]
      show z2.al = a.eg
      rw [P1.sc.2.2]; exact c.al
    · rw [l4, l2]; exact c.lm
    · rw [newA_us, e4', e2, ce]
      unfold tkN
      rw [if_neg (by omega), if_neg (by omega)]
      omega
    · rw [hho 0 (Nat.zero_le _)]; exact c.h0
    · intro i hi
      exact wat_s (c.rg i hi) (A.rg i hi) hho (olo i (by omega))
    · intro n hn
      by_cases hnm : n ≤ a.md
      · have on : obj a n := ⟨hn.1, hnm, by rw [← (newA_o hnm).2]; exact hn.2.2⟩
        have ob := c.ob n on
        exact ObR_s ob (A.ob n on) (newA_o hnm).1 hho hnm (hta n hnm) (by rw [how _ ob.m]; exact ob.ow) (fun k => by rw [how _ (ob.mp k).2.m]; exact (ob.mp k).2.ow) (bk _ ob.m) (fun k => bk _ (ob.mp k).2.m)
      · have hle : n ≤ a.md + 1 := hn.2.1
        have : n = a.md + 1 := by omega
        subst this
        refine ⟨by rw [hhn]; exact m4h, by rw [hhn, nu4, updN_o _ _ hth, nu2, updN_s], by rw [hhn, n2]; exact kd4h, by rw [hhn, n4, fr4, updN_o _ _ hth, fr2, updN_s], by rw [hhn]; exact howh, ?_, ?_, ?_⟩
        · intro k2
          rw [n2] at k2
          omega
        · intro k2
          rw [n2] at k2
          omega
        · intro _
          refine ⟨⟨by rw [hhn]; exact ln4h, ?_, ?_, ?_, ?_, ?_⟩, ⟨by rw [htn]; exact m4t, by rw [htn]; exact kd4t, by rw [htn, nu4, updN_s], by rw [htn]; exact howt, by rw [htn, n10, n7, n8]; exact ln4t, ?_⟩⟩
          · rw [hhn, htn, st4h]
            exact ⟨o61.2, o61.1⟩
          · rw [hhn, st4h]
            refine ⟨o62.2, o62.1.trans ?_⟩
            unfold shp
            rw [n7, n8, n9, n10]
          · rw [hhn, st4h, n12]
            exact ⟨(o63 (g.e + 3) (by omega) (by omega)).2, (o63 (g.e + 3) (by omega) (by omega)).1⟩
          · rw [hhn, st4h, n11]
            exact ⟨(o63 (g.e + 4) (by omega) (by omega)).2, (o63 (g.e + 4) (by omega) (by omega)).1⟩
          · rw [hhn, st4h, n12]
            exact ⟨(o63 (g.e + 5) (by omega) (by omega)).2, (o63 (g.e + 5) (by omega) (by omega)).1⟩
          · intro j hj
            rw [n10] at hj
            rw [htn, st4t, n7, n8, n12]
            show ∀ i, i < 3 + (k + v) → f6 (g.e + 6 + 1 + j * (3 + k + v) + i) = 0
            intro i hi
            have hjk : j * (3 + k + v) + (3 + k + v) ≤ 8 * (3 + k + v) := by
              rw [← Nat.succ_mul]
              exact Nat.mul_le_mul_right _ hj
            exact ohi _ (by omega) (by omega)
    · intro x mx
      rw [hs4, hs2] at mx
      rcases List.mem_append.mp mx with mx | mx
      · rcases List.mem_append.mp mx with mx | mx
        · rw [how x mx]
          rcases c.ow x mx with e | ⟨q1, q2⟩
          · exact Or.inl e
          · refine Or.inr ⟨X.ob q1, ?_⟩
            have q3 := q1.2.1
            rw [hho _ q3, hta _ q3, (X.2 _ q3).2.1]
            exact q2
        · rw [List.mem_singleton] at mx
          subst mx
          rw [howh]
          exact Or.inr ⟨newA_obj, Or.inl hhn.symm⟩
      · rw [List.mem_singleton] at mx
        subst mx
        rw [howt]
        exact Or.inr ⟨newA_obj, Or.inr ⟨n2, htn.symm⟩⟩
    · intro Q
      rw [hs4, hs2, List.map_append, List.map_append, List.sum_append, List.sum_append, List.map_singleton, List.map_singleton, List.sum_singleton, List.sum_singleton, howh, howt, sz4h, sz4t]
      have q1 : (g.hs.map (fun x => if Q ((omap o (a.md + 1) h t).ow x) = true then g4.sz x else 0)).sum = (g.hs.map (fun x => if Q (o.ow x) = true then g.sz x else 0)).sum := by
        refine map_sum_congr ?_
        intro x hx
        obtain ⟨x1, x2⟩ := tg x hx
        rw [how x hx]
        have : g4.sz x = g.sz x := by
          unfold Gh.sz
          rw [(bk x hx).kd, (bk x hx).ln]
        rw [this]
      rw [q1, c.sum Q]
      have q2 := newA_sum (a := a) (kd := 4) (ln := 0) (nk := k) (nv := v) (nt := tx) Q
      show _ = sumQ (newA a 4 0 k v tx).tk (fun n => (newA a 4 0 k v tx).th n && Q n) (a.md + 1) + (if Q 0 = true then a.ol else 0)
      rw [q2]
      have q3 : tkN 4 0 k v = 6 + (8 * (3 + k + v) + 1) := rfl
      rw [q3]
      by_cases hQ : Q (a.md + 1) = true
      · rw [if_pos hQ, if_pos hQ, if_pos hQ]; omega
      · rw [if_neg hQ, if_neg hQ, if_neg hQ]; omega
  · have q1 : HP z3 g2 = HP z2 g2 := by rw [hz3]; rfl
    have q2 : HP (Hs.wm z4 b6 f6) g4 = HP z4 g4 := rfl
    rw [q2]
    omega
