/-! The class's words read, and what leaves objects alone. -/
def kW (a : Ab) (w : Wrd) : Nat := match w with
  | .inl _ => 0
  | .inr p => if p.1 = 0 then 1 else a.kd p.1
def hW (o : Go) (w : Wrd) : Nat := match w with
  | .inl _ => 0
  | .inr p => o.ho p.1
def pW (w : Wrd) : Nat := match w with
  | .inl _ => 0
  | .inr p => p.2
theorem RC.i {z : Hs} {g : Gh} {o : Go} {a : Ab} (c : RC z g o a) : HI0 z g := c.hi.1
theorem RC.hw {z : Hs} {g : Gh} {o : Go} {a : Ab} (c : RC z g o a) {w : Wrd} (k : okW a w) : hv g (hW o w) ∧ hW o w < 131073 ∧ pW w ≤ 4096 ∧ g.kd (hW o w) = (if kW a w = 0 then 1 else kW a w) := by
  have h0 : hv g 0 ∧ 0 < 131073 ∧ g.kd 0 = 1 := ⟨Or.inl rfl, by omega, c.i.h0.2.1⟩
  cases w with
  | inl v => exact ⟨h0.1, h0.2.1, by show 0 ≤ 4096; omega, h0.2.2⟩
  | inr p =>
    rcases k with ⟨k1, k2⟩ | ⟨k1, k2, k3⟩
    · have e : hW o (.inr p) = 0 := by show o.ho p.1 = 0; rw [k1]; exact c.h0
      have e2 : kW a (.inr p) = 1 := if_pos k1
      rw [e, e2]
      exact ⟨h0.1, h0.2.1, by show p.2 ≤ 4096; omega, h0.2.2⟩
    · have ob := c.ob p.1 k1
      have v : hv g (o.ho p.1) := Or.inr ob.m
      have hk := (c.i.hok v).2.2.2.2
      have d := (c.i.hd _ v).k1
      have e2 : kW a (.inr p) = a.kd p.1 := if_neg (by have := k1.1; omega)
      refine ⟨v, hk, k2, ?_⟩
      rw [e2, if_neg (by rw [← ob.kd]; omega)]
      exact ob.kd
theorem RC.handleAt {z : Hs} {g : Gh} {o : Go} {a : Ab} (c : RC z g o a) {x : Nat} {w : Wrd} (hx : x < z.nbt) (h : wat z o x w) (k : okW a w) : hp_handleAt z (Int32.ofNat x) = some (Int32.ofNat (hW o w)) := by
  have hk := c.hw k
  cases w with
  | inl v => exact hp_handleAt_0 c.i.hb hx h.1
  | inr p => exact hp_handleAt_1 c.i.hb hx h.1 h.2 (by have := hk.2.1; show o.ho p.1 < _; have e : hW o (.inr p) = o.ho p.1 := rfl; omega) (by have := hk.2.2.1; have e : pW (.inr p) = p.2 := rfl; omega)
theorem RC.placeAt {z : Hs} {g : Gh} {o : Go} {a : Ab} (c : RC z g o a) {x : Nat} {w : Wrd} (hx : x < z.nbt) (h : wat z o x w) (k : okW a w) : hp_placeAt z (Int32.ofNat x) = some (Int32.ofNat (pW w)) := by
  have hk := c.hw k
  cases w with
  | inl v => exact hp_placeAt_0 c.i.hb hx h.1
  | inr p => exact hp_placeAt_1 c.i.hb hx h.1 h.2 (by have := hk.2.2.1; have e : pW (.inr p) = p.2 := rfl; omega)
theorem RC.kindAt {z : Hs} {g : Gh} {o : Go} {a : Ab} (c : RC z g o a) {x : Nat} {w : Wrd} (hx : x < z.nbt) (h : wat z o x w) (k : okW a w) : hp_kindAt z (Int32.ofNat x) = some (Int32.ofNat (kW a w)) := by
  have hk := c.hw k
  cases w with
  | inl v => exact c.i.kindAt_0 hx h.1
  | inr p =>
    have e := c.i.kindAt_1 hx h.1 h.2 hk.1 (by have := hk.2.2.1; have e : pW (.inr p) = p.2 := rfl; omega)
    have e3 : ¬ kW a (.inr p) = 0 := by
      intro c0
      have e4 := hk.2.2.2
      rw [if_pos c0] at e4
      rcases k with ⟨k1, k2⟩ | ⟨k1, k2, k3⟩
      · have : kW a (.inr p) = 1 := if_pos k1
        omega
      · have h1 : kW a (.inr p) = a.kd p.1 := if_neg (by have := k1.1; omega)
        have ob := c.ob p.1 k1
        have h2 : g.kd (o.ho p.1) = 1 := e4
        rw [ob.kd] at h2
        omega
    have e4 := hk.2.2.2
    rw [if_neg e3] at e4
    rw [e]
    exact congrArg (fun t => some (Int32.ofNat t)) e4
/-- two words are the same -/
theorem RC.same {z : Hs} {g : Gh} {o : Go} {a : Ab} (c : RC z g o a) {w v : Wrd} (k : okW a w) (l : okW a v) : (fW w = fW v ∧ bW o.ho w = bW o.ho v) ↔ w = v := by
  constructor
  · intro ⟨h1, h2⟩
    have hw := c.hw k
    have hv2 := c.hw l
    cases w with
    | inl x =>
      cases v with
      | inl y => exact congrArg Sum.inl h2
      | inr q => exact absurd (show (0 : Int32) = 1 from h1) (by decide)
    | inr p =>
      cases v with
      | inl y => exact absurd (show (1 : Int32) = 0 from h1) (by decide)
      | inr q =>
        have e1 : hW o (.inr p) = o.ho p.1 := rfl
        have e2 : hW o (.inr q) = o.ho q.1 := rfl
        have e3 : pW (.inr p) = p.2 := rfl
        have e4 : pW (.inr q) = q.2 := rfl
        rw [e1, e3] at hw
        rw [e2, e4] at hv2
        have h3 : Int64.ofNat (o.ho p.1 * 8192 + p.2) = Int64.ofNat (o.ho q.1 * 8192 + q.2) := h2
        have h4 := (l_eq (by omega) (by omega)).mp h3
        have h5 : o.ho p.1 = o.ho q.1 ∧ p.2 = q.2 := by omega
        have inj : p.1 = q.1 := by
          rcases k with ⟨k1, k2⟩ | ⟨k1, k2, k3⟩
          · rcases l with ⟨l1, l2⟩ | ⟨l1, l2, l3⟩
            · omega
            · have om := (c.ob q.1 l1).m
              rw [← h5.1, k1, c.h0] at om
              have := c.i.rg 0 (List.mem_append_left _ om)
              omega
          · have obp := c.ob p.1 k1
            rcases l with ⟨l1, l2⟩ | ⟨l1, l2, l3⟩
            · have om := obp.m
              rw [h5.1, l1, c.h0] at om
              have := c.i.rg 0 (List.mem_append_left _ om)
              omega
            · have obq := c.ob q.1 l1
              have := obp.nu
              rw [h5.1] at this
              exact this.symm.trans obq.nu
        exact congrArg Sum.inr (Prod.ext inj h5.2)
  · intro h
    rw [h]
    exact ⟨rfl, rfl⟩
theorem HI0.adr {z : Hs} {g : Gh} (i : HI0 z g) {h k j l : Nat} (mh : h ∈ g.hs) (mk : k ∈ g.hs) (hj : j < g.sz h) (hl : l < g.sz k) (e : g.st h + j = g.st k + l) : h = k ∧ j = l := by
  by_cases hk : h = k
  · subst hk; exact ⟨rfl, by omega⟩
  · have := Til_dis i.til mh mk hk
    omega
theorem bW_s {a : Ab} {o o' : Go} {w : Wrd} (k : okW a w) (ho : ∀ m, m ≤ a.md → o'.ho m = o.ho m) : bW o'.ho w = bW o.ho w := by
  cases w with
  | inl v => rfl
  | inr p =>
    have : p.1 ≤ a.md := by
      rcases k with ⟨k1, k2⟩ | ⟨k1, k2, k3⟩
      · omega
      · exact k1.2.1
    show Int64.ofNat (o'.ho p.1 * 8192 + p.2) = Int64.ofNat (o.ho p.1 * 8192 + p.2)
    rw [ho _ this]
theorem wat_s {z z' : Hs} {a : Ab} {o o' : Go} {x y : Nat} {w : Wrd} (h : wat z o x w) (k : okW a w) (ho : ∀ m, m ≤ a.md → o'.ho m = o.ho m) (e : z'.abt y = z.abt x ∧ z'.arf y = z.arf x) : wat z' o' y w :=
  ⟨e.2.trans h.1, e.1.trans (h.2.trans (bW_s k ho).symm)⟩
def BkE (z z2 : Hs) (g g2 : Gh) (h : Nat) : Prop :=
  (h ∈ g2.hs) ∧
  (g2.kd h = g.kd h) ∧
  (g2.ln h = g.ln h) ∧
  (g2.fr h = g.fr h) ∧
  (g2.nu h = g.nu h) ∧
  (∀ j, 1 ≤ j → j < g.sz h → z2.abt (g2.st h + j) = z.abt (g.st h + j) ∧ z2.arf (g2.st h + j) = z.arf (g.st h + j))
theorem BkE.m {z z2 : Hs} {g g2 : Gh} {h : Nat} (hyp : BkE z z2 g g2 h) : h ∈ g2.hs := hyp.1
theorem BkE.kd {z z2 : Hs} {g g2 : Gh} {h : Nat} (hyp : BkE z z2 g g2 h) : g2.kd h = g.kd h := hyp.2.1
theorem BkE.ln {z z2 : Hs} {g g2 : Gh} {h : Nat} (hyp : BkE z z2 g g2 h) : g2.ln h = g.ln h := hyp.2.2.1
theorem BkE.fr {z z2 : Hs} {g g2 : Gh} {h : Nat} (hyp : BkE z z2 g g2 h) : g2.fr h = g.fr h := hyp.2.2.2.1
theorem BkE.nu {z z2 : Hs} {g g2 : Gh} {h : Nat} (hyp : BkE z z2 g g2 h) : g2.nu h = g.nu h := hyp.2.2.2.2.1
theorem BkE.wd {z z2 : Hs} {g g2 : Gh} {h : Nat} (hyp : BkE z z2 g g2 h) : ∀ j, 1 ≤ j → j < g.sz h → z2.abt (g2.st h + j) = z.abt (g.st h + j) ∧ z2.arf (g2.st h + j) = z.arf (g.st h + j) := hyp.2.2.2.2.2

def AbE (a a2 : Ab) (n : Nat) : Prop :=
  (a2.kd n = a.kd n) ∧
  (a2.ln n = a.ln n) ∧
  (a2.fz n = a.fz n) ∧
  (a2.wo n = a.wo n) ∧
  (a2.bs n = a.bs n) ∧
  (a2.nk n = a.nk n) ∧
  (a2.nv n = a.nv n) ∧
  (a2.nt n = a.nt n) ∧
  (a2.nc n = a.nc n) ∧
  (a2.no n = a.no n) ∧
  (a2.sl n = a.sl n)
theorem AbE.kd {a a2 : Ab} {n : Nat} (hyp : AbE a a2 n) : a2.kd n = a.kd n := hyp.1
theorem AbE.ln {a a2 : Ab} {n : Nat} (hyp : AbE a a2 n) : a2.ln n = a.ln n := hyp.2.1
theorem AbE.fz {a a2 : Ab} {n : Nat} (hyp : AbE a a2 n) : a2.fz n = a.fz n := hyp.2.2.1
theorem AbE.wo {a a2 : Ab} {n : Nat} (hyp : AbE a a2 n) : a2.wo n = a.wo n := hyp.2.2.2.1
theorem AbE.bs {a a2 : Ab} {n : Nat} (hyp : AbE a a2 n) : a2.bs n = a.bs n := hyp.2.2.2.2.1
theorem AbE.nk {a a2 : Ab} {n : Nat} (hyp : AbE a a2 n) : a2.nk n = a.nk n := hyp.2.2.2.2.2.1
theorem AbE.nv {a a2 : Ab} {n : Nat} (hyp : AbE a a2 n) : a2.nv n = a.nv n := hyp.2.2.2.2.2.2.1
theorem AbE.nt {a a2 : Ab} {n : Nat} (hyp : AbE a a2 n) : a2.nt n = a.nt n := hyp.2.2.2.2.2.2.2.1
theorem AbE.nc {a a2 : Ab} {n : Nat} (hyp : AbE a a2 n) : a2.nc n = a.nc n := hyp.2.2.2.2.2.2.2.2.1
theorem AbE.no {a a2 : Ab} {n : Nat} (hyp : AbE a a2 n) : a2.no n = a.no n := hyp.2.2.2.2.2.2.2.2.2.1
theorem AbE.sl {a a2 : Ab} {n : Nat} (hyp : AbE a a2 n) : a2.sl n = a.sl n := hyp.2.2.2.2.2.2.2.2.2.2

theorem AbE.refl (a : Ab) (n : Nat) : AbE a a n := ⟨rfl, rfl, rfl, rfl, rfl, rfl, rfl, rfl, rfl, rfl, rfl⟩
theorem ens_mem {l : List Slo} {j : Nat} {e : Nat × (Nat → Wrd)} (h : l[j]? = some (some e)) : e ∈ ens l := by
  unfold ens
  rw [List.mem_filterMap]
  exact ⟨some e, List.mem_of_getElem? h, rfl⟩
theorem ObR_s {z z2 : Hs} {g g2 : Gh} {o o2 : Go} {a a2 : Ab} {n : Nat} (ob : ObR z g o a n) (ok : okO a n) (E : AbE a a2 n) (ho : ∀ m, m ≤ a.md → o2.ho m = o.ho m) (hn : n ≤ a.md) (ta : o2.ta n = o.ta n) (ow1 : o2.ow (o.ho n) = n) (ow2 : a.kd n = 4 → o2.ow (o.ta n) = n)
    (b1 : BkE z z2 g g2 (o.ho n)) (b2 : a.kd n = 4 → BkE z z2 g g2 (o.ta n)) : ObR z2 g2 o2 a2 n := by
  have hh := ho n hn
  refine ⟨by rw [hh]; exact b1.m, by rw [hh]; exact b1.nu.trans ob.nu, by rw [hh, E.kd]; exact b1.kd.trans ob.kd, by rw [hh, E.fz]; exact b1.fr.trans ob.fr, by rw [hh]; exact ow1, ?_, ?_, ?_⟩
  · intro k
    rw [E.kd] at k
    have R := ob.rw k
    have okr : okR a n := by
      rcases ok.2 with c | c | c
      · exact c.2
      · omega
      · omega
    have sz : g.sz (o.ho n) = 1 + a.ln n := by unfold Gh.sz; rw [ob.kd, k, R.1]; rfl
    refine ⟨by rw [hh, E.ln]; exact b1.ln.trans R.1, ?_⟩
    intro i hi
    rw [E.ln] at hi
    rw [hh, E.wo]
    have := b1.wd (1 + i) (by omega) (by omega)
    rw [← Nat.add_assoc, ← Nat.add_assoc] at this
    exact wat_s (R.2 i hi) (okr.2 i hi) ho this
  · intro k
    rw [E.kd] at k
    have T := ob.tx k
    have sz : g.sz (o.ho n) = 1 + (a.ln n + 7) / 8 := by unfold Gh.sz; rw [ob.kd, k, T.1]; rfl
    refine ⟨by rw [hh, E.ln]; exact b1.ln.trans T.1, ?_⟩
    intro i hi
    rw [E.ln] at hi
    rw [hh, E.bs]
    have := b1.wd (1 + i) (by omega) (by omega)
    rw [← Nat.add_assoc, ← Nat.add_assoc] at this
    exact this.1.trans (T.2 i hi)
  · intro k
    rw [E.kd] at k
    obtain ⟨M, T⟩ := ob.mp k
    have b2 := b2 k
    have okm : okM a n := by
      rcases ok.2 with c | c | c
      · omega
      · omega
      · exact c.2
    have sz : g.sz (o.ho n) = 6 := by unfold Gh.sz; rw [ob.kd, k, M.ln]; rfl
    have szt : g.sz (o.ta n) = 1 + a.nc n * (3 + a.nk n + a.nv n) := by unfold Gh.sz; rw [T.kd, T.ln]; rfl
    have shp_e : shp a2 n = shp a n := by unfold shp; rw [E.nk, E.nv, E.nt, E.nc]
    have W1 := b1.wd 1 (by omega) (by omega)
    have W2 := b1.wd 2 (by omega) (by omega)
    have W3 := b1.wd 3 (by omega) (by omega)
    have W4 := b1.wd 4 (by omega) (by omega)
    have W5 := b1.wd 5 (by omega) (by omega)
    refine ⟨⟨by rw [hh]; exact b1.ln.trans M.ln, ?_, ?_, ?_, ?_, ?_⟩, ⟨by rw [ta]; exact b2.m, by rw [ta]; exact b2.kd.trans T.kd, by rw [ta]; exact b2.nu.trans T.nu, by rw [ta]; exact ow2 k, by rw [ta, E.nc, E.nk, E.nv]; exact b2.ln.trans T.ln, ?_⟩⟩
    · rw [hh, ta]; exact ⟨W1.2.trans M.w0.1, W1.1.trans M.w0.2⟩
    · rw [hh, shp_e]; exact ⟨W2.2.trans M.w1.1, W2.1.trans M.w1.2⟩
    · rw [hh, E.sl]; exact ⟨W3.2.trans M.w2.1, W3.1.trans M.w2.2⟩
    · rw [hh, E.no]; exact ⟨W4.2.trans M.w3.1, W4.1.trans M.w3.2⟩
    · rw [hh, E.sl]; exact ⟨W5.2.trans M.w4.1, W5.1.trans M.w4.2⟩
    · intro j hj
      rw [E.nc] at hj
      rw [ta, E.nk, E.nv, E.sl]
      have S := T.sl j hj
      have hjk : j * (3 + a.nk n + a.nv n) + (3 + a.nk n + a.nv n) ≤ a.nc n * (3 + a.nk n + a.nv n) := by
        rw [← Nat.succ_mul]
        exact Nat.mul_le_mul_right _ hj
      have hwd : ∀ i, i < 3 + (a.nk n + a.nv n) → z2.abt (g2.st (o.ta n) + 1 + j * (3 + a.nk n + a.nv n) + i) = z.abt (g.st (o.ta n) + 1 + j * (3 + a.nk n + a.nv n) + i) ∧ z2.arf (g2.st (o.ta n) + 1 + j * (3 + a.nk n + a.nv n) + i) = z.arf (g.st (o.ta n) + 1 + j * (3 + a.nk n + a.nv n) + i) := by
        intro i hi
        have := b2.wd (1 + j * (3 + a.nk n + a.nv n) + i) (by omega) (by omega)
        rw [← Nat.add_assoc, ← Nat.add_assoc, ← Nat.add_assoc, ← Nat.add_assoc] at this
        exact this
      have h0 := hwd 0 (by omega)
      rw [Nat.add_zero, Nat.add_zero] at h0
      have h1 := hwd 1 (by omega)
      have h2 := hwd 2 (by omega)
      generalize hs : (a.sl n)[j]? = s at S ⊢
      cases s with
      | none => exact fun i hi => (hwd i hi).2.trans (S i hi)
      | some s =>
        cases s with
        | none => exact ⟨h0.1.trans S.1, fun i hi => (hwd i hi).2.trans (S.2 i hi)⟩
        | some e =>
          refine ⟨h0.2.trans S.1, h0.1.trans S.2.1, h1.2.trans S.2.2.1, h2.2.trans S.2.2.2.1, ?_⟩
          intro i hi
          have := hwd (3 + i) (by omega)
          rw [← Nat.add_assoc, ← Nat.add_assoc] at this
          exact wat_s (S.2.2.2.2 i hi) (okm.wd e (ens_mem hs) i hi) ho this
